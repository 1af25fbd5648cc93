section
/-! ===== the reference: worth, wouldPay, objects, sale ===== -/
def g_Cpay (σ : XS9) (w qa B : Nat) : XS9 := if w = 2 then g_Cpay2 σ qa B else g_Cpay1 σ w qa B
theorem ct_X10_payments {l : Launch} {h : XH} (hl : l.stackTraces = false) {z : Int64} {σ : XS9} (hbs : xx_bs h) (hc : σ 9000 20 = nI 1) {B : Nat} (hB : σ 5002 900 = nI B) (hB6 : B ≤ 6) {pk : Nat → Nat} (hpk : ∀ j, j < B → σ (5030 + j) 900 = nI (2 * pk j) ∧ pk j ≤ 6) (hpi : ∀ j, j < B → σ 9001 j = -1 ∨ ∃ n, n < pk j ∧ σ 9001 j = nI n) {qa : Nat} (hqa : 20000 ≤ qa ∧ qa < 20010) (hfr : ∀ r, 5000 ≤ r → r < 20010 → h r = none) (hq0 : σ qa 20 = 0) {w : Nat} (hw3 : w < 3) (hterm : w = 2 → ∃ r, xitR (p2_step qa B) 20000000 0 (g_Cpay20 σ qa B) = .inr r) : XEx l m_X10_payments 6 1 6 [.ref 9000, .int (nI w)] (setM z σ h) (some (.ref qa)) (setM z (g_Cpay σ w qa B) h) := by
  unfold g_Cpay
  by_cases e : w = 2
  · rw [if_pos e]
    subst e
    exact ct_Cpay2 hl hbs hc hB hB6 hpk hpi hqa hfr hq0 (hterm rfl)
  · rw [if_neg e]
    exact ct_Cpay1 hl hbs hc hB hB6 hpk hpi hqa hfr hq0 (by omega)
theorem fr_Cpay {σ : XS9} {w qa B q : Nat} (h : q ≠ qa ∧ B ≤ 6) : g_Cpay σ w qa B q = σ q := by
  unfold g_Cpay
  split
  · exact fr_Cpay2 h
  · exact fr_Cpay1 h.1
theorem fl_Cpay {σ : XS9} {w qa B : Nat} (h : B ≤ 6) : g_Cpay σ w qa B qa 20 = nI 1 ∧ g_Cpay σ w qa B qa 21 = nI 6 := by
  unfold g_Cpay
  split
  · exact ⟨(in_Cpay2 h).1, (in_Cpay2 h).2.1⟩
  · exact in_Cpay1 h
def f_Mworth (σ : XS9) (x : Int32) (R B : Nat) (pk gr : Nat → Nat) (cd : Nat → Nat → Nat) : Int32 := (if n_lt x (2 ^ B) then f_Cworth (g_Cinit (u2 σ 5000 0 0) R B pk gr cd) (cn x) else 0)
def g_Mworth (σ : XS9) (x : Int32) (R B : Nat) (pk gr : Nat → Nat) (cd : Nat → Nat → Nat) : XS9 := (if n_lt x (2 ^ B) then u2 (g_Cinit (u2 σ 5000 0 0) R B pk gr cd) 9000 20 0 else u2 (u2 σ 5000 0 0) 5000 0 1)
theorem ct_X14_worth {l : Launch} {h : XH} (hl : l.stackTraces = false) {z : Int64} {σ : XS9} (hbs : xx_bs h) (hfr : ∀ r, 5000 ≤ r → r < 20010 → h r = none) (hme : mem_eq σ σ) {R : Nat} (hR : σ 5001 900 = nI R) (hR5 : R ≤ 5) {B : Nat} (hB : σ 5002 900 = nI B) (hB6 : B ≤ 6) {pk : Nat → Nat} (hpk : ∀ j, j < B → σ (5030 + j) 900 = nI (2 * pk j) ∧ pk j ≤ 6) {gr : Nat → Nat} (hgr : ∀ j, j < B → σ (5020 + j) 3 = nI (gr j) ∧ gr j < 4) {cd : Nat → Nat → Nat} (hcd : ∀ j k, j < B → k < pk j → σ (5030 + j) (2 * k) = nI (cd j k) ∧ cd j k < 7776) {x : Int32} : XEx l m_X14_worth 22 6 108 [.ref 5000, .int x] (setM z σ h) (some (.int (f_Mworth σ x R B pk gr cd))) (setM z (g_Mworth σ x R B pk gr cd) h) := by
  refine XMet.of hl rfl rfl (Nat.le_of_ble_eq_true rfl) (fun Y O hh hQ => ?_)
  refine sw_cls (fun hcl => ?_)
  show SW Y 6 108 (setM z σ h) 0 [.ref 5000, .int x] []
  refine sw_aload_n O (xx_dt dd_X14_worth 0 rfl) rfl ?_
  refine sw_iconst (x := 0) O (xx_dt dd_X14_worth 1 rfl) (by decide) ?_
  refine sw_put (h2 := setM z (u2 σ 5000 0 0) h) O (xx_dt dd_X14_worth 2 rfl) cl_X14 fl_X14_46 (lm_mod (σ := σ)) (by decide) (by omega) rfl (fun _ => ⟨rfl, rfl⟩) (pm_mod (σ := σ) (by omega)) ?_
  refine sw_aload_n O (xx_dt dd_X14_worth 3 rfl) rfl ?_
  refine sw_iload_n O (xx_dt dd_X14_worth 4 rfl) rfl ?_
  have hq7 := pow_le6 hB6
  refine sw_callVx (as := [.int x]) (st := []) (st2 := [.int (bZ (n_lt x (2 ^ B)))]) O (ct_X14_areBidders hl (z := z) (σ := u2 σ 5000 0 0) hbs (B := B) hB (by omega) (x := x)) ce_X14_areBidders ml_X14_377 iv_X14_areBidders cl_X14 rfl (lm_mod (σ := u2 σ 5000 0 0)) (xx_dt dd_X14_worth 5 rfl) (by omega) rfl rfl (Nat.le_of_ble_eq_true rfl) rfl ?_
  refine sw_if_eqB (tgt := 28) O (xx_dt dd_X14_worth 6 rfl) (by decide) (fun q1 => ?_) (fun q1 => ?_)
  · refine sw_aload_n O (xx_dt dd_X14_worth 14 rfl) rfl ?_
    refine sw_iconst (x := 1) O (xx_dt dd_X14_worth 15 rfl) (by decide) ?_
    refine sw_callVx (as := [.int 1]) (st := []) (st2 := [.int 0]) O (ct_X14_refuse hl (z := z) (σ := u2 σ 5000 0 0) hbs (x := 1)) ce_X14_refuse ml_X14_74 iv_X14_refuse cl_X14 rfl (lm_mod (σ := u2 σ 5000 0 0)) (xx_dt dd_X14_worth 16 rfl) (by omega) rfl rfl (Nat.le_of_ble_eq_true rfl) rfl ?_
    exact sw_iret O (xx_dt dd_X14_worth 17 rfl) rfl rfl (by rw [hQ]; exact ⟨by unfold f_Mworth; simp only [if_neg q1], by unfold g_Mworth; simp only [if_neg q1]⟩)
  · have hc10 := q1
    refine sw_lsE (ls2 := [.ref 5000, .int (nI (cn x))]) (by rw [← hc10.1]) ?_
    have hd10 := hc10.2
    refine sw_new (k := 5) (n := 101) (r := 9000) O (xx_dt dd_X14_worth 7 rfl) cl_X10 nw_X14_218 ((setM_c0 (z := z) (σ := u2 σ 5000 0 0) hme.2.1.1.1 (by omega)).trans (hfr 9000 (by omega) (by omega))) (by omega) ?_
    rw [xx_blk_up]
    refine sw_dup O (xx_dt dd_X14_worth 8 rfl) rfl ?_
    refine sw_aload_n O (xx_dt dd_X14_worth 9 rfl) rfl ?_
    refine sw_callIx (k := 0) (n := 0) (k' := 5) (n' := 101) (as := [.ref 5000]) (st := [.ref 9000]) (st2 := [.ref 9000]) O (ct_X10_init hl (z := z) (σ := u2 σ 5000 0 0) hbs hfr hme.2.1.1.1 (R := R) hR (by omega) (B := B) hB (by omega) (pk := pk) (gr := gr) (cd := cd) (fun j9 hj9 => by rw [(u2_ne (by omega))]; exact hpk j9 hj9) (fun j9 hj9 => by rw [show (u2 σ 5000 0 0) (5020 + j9) 3 = σ (5020 + j9) 3 from (congrFun (u2_ne (by omega)) 3)]; exact hgr j9 hj9) (fun j9 k9 hj9 hk9 => by rw [(u2_ne (by omega))]; exact hcd j9 k9 hj9 hk9)) ce_X10_init ml_X14_220 ii_X10_init (xx_dt dd_X14_worth 10 rfl) (by omega) rfl rfl (Nat.le_of_ble_eq_true rfl) rfl ?_
    refine sw_iload_n O (xx_dt dd_X14_worth 11 rfl) rfl ?_
    refine sw_callVx (as := [.int (nI (cn x))]) (st := []) (st2 := [.int (f_Cworth (g_Cinit (u2 σ 5000 0 0) R B pk gr cd) (cn x))]) O (ct_X10_worth hl (z := z) (σ := g_Cinit (u2 σ 5000 0 0) R B pk gr cd) hbs cf_Cinit (S := cn x) (by first | omega | assumption)) ce_X10_worth ml_X14_365 iv_X10_worth cl_X10 rfl (lm_9000 (σ := g_Cinit (u2 σ 5000 0 0) R B pk gr cd) (fl1 cf_Cinit)) (xx_dt dd_X14_worth 12 rfl) (by omega) rfl rfl (Nat.le_of_ble_eq_true rfl) rfl ?_
    refine sw_goto (tgt := 33) O (xx_dt dd_X14_worth 13 rfl) (by decide) ?_
    have me9 : mem_eq σ (u2 (g_Cinit (u2 σ 5000 0 0) R B pk gr cd) 9000 20 0) := (mem_eq.frame (τ0 := u2 σ 5000 0 0) (mem_eq.int (r := 5000) (i := 0) (x := 0) hme rfl) (fun q h1 h2 h3 => by simp (disch := omega) only [u2_ne, uR_ne, fr_Cinit, fr_Cpay1, fr_Cpay2]) rfl (fun q h1 h2 => by (simp (disch := omega) only [u2_ne, uR_ne, fr_Cinit, fr_Cpay1, fr_Cpay2]; exact (hme.2.2 q h1 h2).1)))
    exact sw_iretD (h' := setM z (u2 (g_Cinit (u2 σ 5000 0 0) R B pk gr cd) 9000 20 0) h) O (xx_dt dd_X14_worth 17 rfl) rfl rfl (drop9 hfr) (me9.cls hcl) (by rw [hh]; exact fun r hr => me9.dom hr) (by rw [hQ]; exact ⟨by unfold f_Mworth; simp only [if_pos q1], by unfold g_Mworth; simp only [if_pos q1]⟩)
def f_MwouldPay (σ : XS9) (x y : Int32) (R B : Nat) (pk gr : Nat → Nat) (cd : Nat → Nat → Nat) : Int32 := (if n_lt x B then (if n_bt y 0 2 then (g_Cpay (g_Cinit (u2 σ 5000 0 0) R B pk gr cd) (cn y) 20000 B) 20000 (cn x) else 0) else 0)
def g_MwouldPay (σ : XS9) (x y : Int32) (R B : Nat) (pk gr : Nat → Nat) (cd : Nat → Nat → Nat) : XS9 := (if n_lt x B then (if n_bt y 0 2 then u2 (u2 (g_Cpay (g_Cinit (u2 σ 5000 0 0) R B pk gr cd) (cn y) 20000 B) 9000 20 0) 20000 20 0 else u2 (u2 σ 5000 0 0) 5000 0 2) else u2 (u2 σ 5000 0 0) 5000 0 1)
theorem ct_X14_wouldPay {l : Launch} {h : XH} (hl : l.stackTraces = false) {z : Int64} {σ : XS9} (hbs : xx_bs h) (hfr : ∀ r, 5000 ≤ r → r < 20010 → h r = none) (hme : mem_eq σ σ) {R : Nat} (hR : σ 5001 900 = nI R) (hR5 : R ≤ 5) {B : Nat} (hB : σ 5002 900 = nI B) (hB6 : B ≤ 6) {pk : Nat → Nat} (hpk : ∀ j, j < B → σ (5030 + j) 900 = nI (2 * pk j) ∧ pk j ≤ 6) {gr : Nat → Nat} (hgr : ∀ j, j < B → σ (5020 + j) 3 = nI (gr j) ∧ gr j < 4) {cd : Nat → Nat → Nat} (hcd : ∀ j k, j < B → k < pk j → σ (5030 + j) (2 * k) = nI (cd j k) ∧ cd j k < 7776) (hpi : ∀ j, j < B → g_Cinit (u2 σ 5000 0 0) R B pk gr cd 9001 j = -1 ∨ ∃ n, n < pk j ∧ g_Cinit (u2 σ 5000 0 0) R B pk gr cd 9001 j = nI n) (hterm : ∃ r, xitR (p2_step 20000 B) 20000000 0 (g_Cpay20 (g_Cinit (u2 σ 5000 0 0) R B pk gr cd) 20000 B) = .inr r) {x y : Int32}  : XEx l m_X14_wouldPay 22 7 114 [.ref 5000, .int x, .int y] (setM z σ h) (some (.int (f_MwouldPay σ x y R B pk gr cd))) (setM z (g_MwouldPay σ x y R B pk gr cd) h) := by
  refine XMet.of hl rfl rfl (Nat.le_of_ble_eq_true rfl) (fun Y O hh hQ => ?_)
  refine sw_cls (fun hcl => ?_)
  show SW Y 7 114 (setM z σ h) 0 [.ref 5000, .int x, .int y] []
  refine sw_aload_n O (xx_dt dd_X14_wouldPay 0 rfl) rfl ?_
  refine sw_iconst (x := 0) O (xx_dt dd_X14_wouldPay 1 rfl) (by decide) ?_
  refine sw_put (h2 := setM z (u2 σ 5000 0 0) h) O (xx_dt dd_X14_wouldPay 2 rfl) cl_X14 fl_X14_46 (lm_mod (σ := σ)) (by decide) (by omega) rfl (fun _ => ⟨rfl, rfl⟩) (pm_mod (σ := σ) (by omega)) ?_
  refine sw_aload_n O (xx_dt dd_X14_wouldPay 3 rfl) rfl ?_
  refine sw_iload_n O (xx_dt dd_X14_wouldPay 4 rfl) rfl ?_
  refine sw_callVx (as := [.int x]) (st := []) (st2 := [.int (bZ (n_lt x B))]) O (ct_X14_isBidder hl (z := z) (σ := u2 σ 5000 0 0) hbs (B := B) hB (by omega) (x := x)) ce_X14_isBidder ml_X14_156 iv_X14_isBidder cl_X14 rfl (lm_mod (σ := u2 σ 5000 0 0)) (xx_dt dd_X14_wouldPay 5 rfl) (by omega) rfl rfl (Nat.le_of_ble_eq_true rfl) rfl ?_
  refine sw_if_neB (tgt := 19) O (xx_dt dd_X14_wouldPay 6 rfl) (by decide) (fun q1 => ?_) (fun q1 => ?_)
  · have hc10 := q1
    refine sw_lsE (ls2 := [.ref 5000, .int (nI (cn x)), .int y]) (by rw [← hc10.1]) ?_
    have hd10 := hc10.2
    refine sw_iload_n O (xx_dt dd_X14_wouldPay 11 rfl) rfl ?_
    refine sw_iconst (x := 0) O (xx_dt dd_X14_wouldPay 12 rfl) (by decide) ?_
    refine sw_iconst (x := 2) O (xx_dt dd_X14_wouldPay 13 rfl) (by decide) ?_
    refine sw_callSx (as := [.int y, .int 0, .int 2]) (st := []) (st2 := [.int (bZ (n_bt y 0 2))]) O (ct_X14_is hl) ce_X14_is ml_X14_70 st_X14_is (xx_dt dd_X14_wouldPay 14 rfl) (by omega) rfl rfl (Nat.le_of_ble_eq_true rfl) rfl ?_
    refine sw_if_eqB (tgt := 45) O (xx_dt dd_X14_wouldPay 15 rfl) (by decide) (fun q2 => ?_) (fun q2 => ?_)
    · refine sw_aload_n O (xx_dt dd_X14_wouldPay 25 rfl) rfl ?_
      refine sw_iconst (x := 2) O (xx_dt dd_X14_wouldPay 26 rfl) (by decide) ?_
      refine sw_callVx (as := [.int 2]) (st := []) (st2 := [.int 0]) O (ct_X14_refuse hl (z := z) (σ := u2 σ 5000 0 0) hbs (x := 2)) ce_X14_refuse ml_X14_74 iv_X14_refuse cl_X14 rfl (lm_mod (σ := u2 σ 5000 0 0)) (xx_dt dd_X14_wouldPay 27 rfl) (by omega) rfl rfl (Nat.le_of_ble_eq_true rfl) rfl ?_
      exact sw_iret O (xx_dt dd_X14_wouldPay 28 rfl) rfl rfl (by rw [hQ]; exact ⟨by unfold f_MwouldPay; simp only [if_pos q1, if_neg q2], by unfold g_MwouldPay; simp only [if_pos q1, if_neg q2]⟩)
    · have hc25 := (bt_nat 2 q2 (by decide) rfl (by decide))
      refine sw_lsE (ls2 := [.ref 5000, .int (nI (cn x)), .int (nI (cn y))]) (by rw [← hc25.1]) ?_
      have hd25 := hc25.2
      refine sw_new (k := 6) (n := 107) (r := 9000) O (xx_dt dd_X14_wouldPay 16 rfl) cl_X10 nw_X14_218 ((setM_c0 (z := z) (σ := u2 σ 5000 0 0) hme.2.1.1.1 (by omega)).trans (hfr 9000 (by omega) (by omega))) (by omega) ?_
      rw [xx_blk_up]
      refine sw_dup O (xx_dt dd_X14_wouldPay 17 rfl) rfl ?_
      refine sw_aload_n O (xx_dt dd_X14_wouldPay 18 rfl) rfl ?_
      refine sw_callIx (k := 1) (n := 6) (k' := 5) (n' := 101) (as := [.ref 5000]) (st := [.ref 9000]) (st2 := [.ref 9000]) O (ct_X10_init hl (z := z) (σ := u2 σ 5000 0 0) hbs hfr hme.2.1.1.1 (R := R) hR (by omega) (B := B) hB (by omega) (pk := pk) (gr := gr) (cd := cd) (fun j9 hj9 => by rw [(u2_ne (by omega))]; exact hpk j9 hj9) (fun j9 hj9 => by rw [show (u2 σ 5000 0 0) (5020 + j9) 3 = σ (5020 + j9) 3 from (congrFun (u2_ne (by omega)) 3)]; exact hgr j9 hj9) (fun j9 k9 hj9 hk9 => by rw [(u2_ne (by omega))]; exact hcd j9 k9 hj9 hk9)) ce_X10_init ml_X14_220 ii_X10_init (xx_dt dd_X14_wouldPay 19 rfl) (by omega) rfl rfl (Nat.le_of_ble_eq_true rfl) rfl ?_
      refine sw_iload_n O (xx_dt dd_X14_wouldPay 20 rfl) rfl ?_
      refine sw_callVx (as := [.int (nI (cn y))]) (st := []) (st2 := [.ref 20000]) O (ct_X10_payments hl (z := z) (σ := g_Cinit (u2 σ 5000 0 0) R B pk gr cd) hbs cf_Cinit (B := B) ((congrFun (fr_Cinit (by omega)) 900).trans hB) (by omega) (pk := pk) (fun j9 hj9 => by rw [show (g_Cinit (u2 σ 5000 0 0) R B pk gr cd) (5030 + j9) 900 = σ (5030 + j9) 900 from ((congrFun (fr_Cinit (by omega)) 900).trans (congrFun (u2_ne (by omega)) 900))]; exact hpk j9 hj9) hpi (qa := 20000) (by omega) hfr ((congrFun (fr_Cinit (by omega)) 20).trans (hme.2.2 20000 (by omega) (by omega)).2) (w := cn y) (by omega) (fun _ => hterm)) ce_X10_payments ml_X14_233 iv_X10_payments cl_X10 rfl (lm_9000 (σ := g_Cinit (u2 σ 5000 0 0) R B pk gr cd) (fl1 cf_Cinit)) (xx_dt dd_X14_wouldPay 21 rfl) (by omega) rfl rfl (Nat.le_of_ble_eq_true rfl) rfl ?_
      refine sw_iload_n O (xx_dt dd_X14_wouldPay 22 rfl) rfl ?_
      refine sw_iaload (v := .int ((g_Cpay (g_Cinit (u2 σ 5000 0 0) R B pk gr cd) (cn y) 20000 B) 20000 (cn x))) O (xx_dt dd_X14_wouldPay 23 rfl) ((lm_tmp (z := z) (σ := g_Cpay (g_Cinit (u2 σ 5000 0 0) R B pk gr cd) (cn y) 20000 B) (h := h) (q := 20000) (by omega) (fl1 (fl_Cpay (by omega)).1) (fl_Cpay (by omega)).2 (by omega)).get _) (pk_in (cn x) _ (by omega)) (by rw [nI_clamp (by omega)]; try exact rfl) ?_
      refine sw_goto (tgt := 50) O (xx_dt dd_X14_wouldPay 24 rfl) (by decide) ?_
      have me9 : mem_eq σ (u2 (u2 (g_Cpay (g_Cinit (u2 σ 5000 0 0) R B pk gr cd) (cn y) 20000 B) 9000 20 0) 20000 20 0) := (mem_eq.frame (τ0 := u2 σ 5000 0 0) (mem_eq.int (r := 5000) (i := 0) (x := 0) hme rfl) (fun q h1 h2 h3 => by simp (disch := omega) only [u2_ne, uR_ne, fr_Cinit, fr_Cpay1, fr_Cpay2, fr_Cpay]) rfl (fun q h1 h2 => by by_cases e0 : q = 20000; (subst e0; rfl); ((simp (disch := omega) only [u2_ne, uR_ne, fr_Cinit, fr_Cpay1, fr_Cpay2, fr_Cpay]; exact (hme.2.2 q h1 h2).1))))
      exact sw_iretD (h' := setM z (u2 (u2 (g_Cpay (g_Cinit (u2 σ 5000 0 0) R B pk gr cd) (cn y) 20000 B) 9000 20 0) 20000 20 0) h) O (xx_dt dd_X14_wouldPay 28 rfl) rfl rfl (xx_sub.trans (dropT (by omega) hfr) (drop9 hfr)) (me9.cls hcl) (by rw [hh]; exact fun r hr => me9.dom hr) (by rw [hQ]; exact ⟨by unfold f_MwouldPay; simp only [if_pos q1, if_pos q2], by unfold g_MwouldPay; simp only [if_pos q1, if_pos q2]⟩)
  · refine sw_aload_n O (xx_dt dd_X14_wouldPay 7 rfl) rfl ?_
    refine sw_iconst (x := 1) O (xx_dt dd_X14_wouldPay 8 rfl) (by decide) ?_
    refine sw_callVx (as := [.int 1]) (st := []) (st2 := [.int 0]) O (ct_X14_refuse hl (z := z) (σ := u2 σ 5000 0 0) hbs (x := 1)) ce_X14_refuse ml_X14_74 iv_X14_refuse cl_X14 rfl (lm_mod (σ := u2 σ 5000 0 0)) (xx_dt dd_X14_wouldPay 9 rfl) (by omega) rfl rfl (Nat.le_of_ble_eq_true rfl) rfl ?_
    exact sw_iret O (xx_dt dd_X14_wouldPay 10 rfl) rfl rfl (by rw [hQ]; exact ⟨by unfold f_MwouldPay; simp only [if_neg q1], by unfold g_MwouldPay; simp only [if_neg q1]⟩)
def f_Mobjects (σ : XS9) (x y : Int32) (R B : Nat) (pk gr : Nat → Nat) (cd : Nat → Nat → Nat) : Int32 := (if n_lt x (2 ^ B) then (if n_bt y 0 2 then if 0 < (f_Cobjection (g_Cpay (g_Cinit (u2 σ 5000 0 0) R B pk gr cd) (cn y) 20000 B) (cn x) 20000 B) then (f_Cobjection (g_Cpay (g_Cinit (u2 σ 5000 0 0) R B pk gr cd) (cn y) 20000 B) (cn x) 20000 B) else 0 else 0) else 0)
def g_Mobjects (σ : XS9) (x y : Int32) (R B : Nat) (pk gr : Nat → Nat) (cd : Nat → Nat → Nat) : XS9 := (if n_lt x (2 ^ B) then (if n_bt y 0 2 then u2 (u2 (g_Cpay (g_Cinit (u2 σ 5000 0 0) R B pk gr cd) (cn y) 20000 B) 9000 20 0) 20000 20 0 else u2 (u2 σ 5000 0 0) 5000 0 1) else u2 (u2 σ 5000 0 0) 5000 0 1)
theorem ct_X14_objects {l : Launch} {h : XH} (hl : l.stackTraces = false) {z : Int64} {σ : XS9} (hbs : xx_bs h) (hfr : ∀ r, 5000 ≤ r → r < 20010 → h r = none) (hme : mem_eq σ σ) {R : Nat} (hR : σ 5001 900 = nI R) (hR5 : R ≤ 5) {B : Nat} (hB : σ 5002 900 = nI B) (hB6 : B ≤ 6) {pk : Nat → Nat} (hpk : ∀ j, j < B → σ (5030 + j) 900 = nI (2 * pk j) ∧ pk j ≤ 6) {gr : Nat → Nat} (hgr : ∀ j, j < B → σ (5020 + j) 3 = nI (gr j) ∧ gr j < 4) {cd : Nat → Nat → Nat} (hcd : ∀ j k, j < B → k < pk j → σ (5030 + j) (2 * k) = nI (cd j k) ∧ cd j k < 7776) (hpi : ∀ j, j < B → g_Cinit (u2 σ 5000 0 0) R B pk gr cd 9001 j = -1 ∨ ∃ n, n < pk j ∧ g_Cinit (u2 σ 5000 0 0) R B pk gr cd 9001 j = nI n) (hterm : ∃ r, xitR (p2_step 20000 B) 20000000 0 (g_Cpay20 (g_Cinit (u2 σ 5000 0 0) R B pk gr cd) 20000 B) = .inr r) {x y : Int32}  : XEx l m_X14_objects 22 7 114 [.ref 5000, .int x, .int y] (setM z σ h) (some (.int (f_Mobjects σ x y R B pk gr cd))) (setM z (g_Mobjects σ x y R B pk gr cd) h) := by
  refine XMet.of hl rfl rfl (Nat.le_of_ble_eq_true rfl) (fun Y O hh hQ => ?_)
  refine sw_cls (fun hcl => ?_)
  show SW Y 7 114 (setM z σ h) 0 [.ref 5000, .int x, .int y, xx_d] []
  refine sw_aload_n O (xx_dt dd_X14_objects 0 rfl) rfl ?_
  refine sw_iconst (x := 0) O (xx_dt dd_X14_objects 1 rfl) (by decide) ?_
  refine sw_put (h2 := setM z (u2 σ 5000 0 0) h) O (xx_dt dd_X14_objects 2 rfl) cl_X14 fl_X14_46 (lm_mod (σ := σ)) (by decide) (by omega) rfl (fun _ => ⟨rfl, rfl⟩) (pm_mod (σ := σ) (by omega)) ?_
  refine sw_aload_n O (xx_dt dd_X14_objects 3 rfl) rfl ?_
  refine sw_iload_n O (xx_dt dd_X14_objects 4 rfl) rfl ?_
  have hq7 := pow_le6 hB6
  refine sw_callVx (as := [.int x]) (st := []) (st2 := [.int (bZ (n_lt x (2 ^ B)))]) O (ct_X14_areBidders hl (z := z) (σ := u2 σ 5000 0 0) hbs (B := B) hB (by omega) (x := x)) ce_X14_areBidders ml_X14_377 iv_X14_areBidders cl_X14 rfl (lm_mod (σ := u2 σ 5000 0 0)) (xx_dt dd_X14_objects 5 rfl) (by omega) rfl rfl (Nat.le_of_ble_eq_true rfl) rfl ?_
  refine sw_if_eqB (tgt := 22) O (xx_dt dd_X14_objects 6 rfl) (by decide) (fun q1 => ?_) (fun q1 => ?_)
  · refine sw_aload_n O (xx_dt dd_X14_objects 12 rfl) rfl ?_
    refine sw_iconst (x := 1) O (xx_dt dd_X14_objects 13 rfl) (by decide) ?_
    refine sw_callVx (as := [.int 1]) (st := []) (st2 := [.int 0]) O (ct_X14_refuse hl (z := z) (σ := u2 σ 5000 0 0) hbs (x := 1)) ce_X14_refuse ml_X14_74 iv_X14_refuse cl_X14 rfl (lm_mod (σ := u2 σ 5000 0 0)) (xx_dt dd_X14_objects 14 rfl) (by omega) rfl rfl (Nat.le_of_ble_eq_true rfl) rfl ?_
    exact sw_iret O (xx_dt dd_X14_objects 15 rfl) rfl rfl (by rw [hQ]; exact ⟨by unfold f_Mobjects; simp only [if_neg q1], by unfold g_Mobjects; simp only [if_neg q1]⟩)
  · have hc10 := q1
    refine sw_lsE (ls2 := [.ref 5000, .int (nI (cn x)), .int y, xx_d]) (by rw [← hc10.1]) ?_
    have hd10 := hc10.2
    refine sw_iload_n O (xx_dt dd_X14_objects 7 rfl) rfl ?_
    refine sw_iconst (x := 0) O (xx_dt dd_X14_objects 8 rfl) (by decide) ?_
    refine sw_iconst (x := 2) O (xx_dt dd_X14_objects 9 rfl) (by decide) ?_
    refine sw_callSx (as := [.int y, .int 0, .int 2]) (st := []) (st2 := [.int (bZ (n_bt y 0 2))]) O (ct_X14_is hl) ce_X14_is ml_X14_70 st_X14_is (xx_dt dd_X14_objects 10 rfl) (by omega) rfl rfl (Nat.le_of_ble_eq_true rfl) rfl ?_
    refine sw_if_neB (tgt := 28) O (xx_dt dd_X14_objects 11 rfl) (by decide) (fun q2 => ?_) (fun q2 => ?_)
    · have hc19 := (bt_nat 2 q2 (by decide) rfl (by decide))
      refine sw_lsE (ls2 := [.ref 5000, .int (nI (cn x)), .int (nI (cn y)), xx_d]) (by rw [← hc19.1]) ?_
      have hd19 := hc19.2
      refine sw_new (k := 6) (n := 107) (r := 9000) O (xx_dt dd_X14_objects 16 rfl) cl_X10 nw_X14_218 ((setM_c0 (z := z) (σ := u2 σ 5000 0 0) hme.2.1.1.1 (by omega)).trans (hfr 9000 (by omega) (by omega))) (by omega) ?_
      rw [xx_blk_up]
      refine sw_dup O (xx_dt dd_X14_objects 17 rfl) rfl ?_
      refine sw_aload_n O (xx_dt dd_X14_objects 18 rfl) rfl ?_
      refine sw_callIx (k := 1) (n := 6) (k' := 5) (n' := 101) (as := [.ref 5000]) (st := [.ref 9000]) (st2 := [.ref 9000]) O (ct_X10_init hl (z := z) (σ := u2 σ 5000 0 0) hbs hfr hme.2.1.1.1 (R := R) hR (by omega) (B := B) hB (by omega) (pk := pk) (gr := gr) (cd := cd) (fun j9 hj9 => by rw [(u2_ne (by omega))]; exact hpk j9 hj9) (fun j9 hj9 => by rw [show (u2 σ 5000 0 0) (5020 + j9) 3 = σ (5020 + j9) 3 from (congrFun (u2_ne (by omega)) 3)]; exact hgr j9 hj9) (fun j9 k9 hj9 hk9 => by rw [(u2_ne (by omega))]; exact hcd j9 k9 hj9 hk9)) ce_X10_init ml_X14_220 ii_X10_init (xx_dt dd_X14_objects 19 rfl) (by omega) rfl rfl (Nat.le_of_ble_eq_true rfl) rfl ?_
      refine sw_astore_n (ls2 := [.ref 5000, .int (nI (cn x)), .int (nI (cn y)), .ref 9000]) O (xx_dt dd_X14_objects 20 rfl) (by decide) rfl ?_
      refine sw_iconst (x := 0) O (xx_dt dd_X14_objects 21 rfl) (by decide) ?_
      refine sw_aload_n O (xx_dt dd_X14_objects 22 rfl) rfl ?_
      refine sw_iload_n O (xx_dt dd_X14_objects 23 rfl) rfl ?_
      refine sw_aload_n O (xx_dt dd_X14_objects 24 rfl) rfl ?_
      refine sw_iload_n O (xx_dt dd_X14_objects 25 rfl) rfl ?_
      refine sw_callVx (as := [.int (nI (cn y))]) (st := [.int (nI (cn x)), .ref 9000, .int 0]) (st2 := [.ref 20000, .int (nI (cn x)), .ref 9000, .int 0]) O (ct_X10_payments hl (z := z) (σ := g_Cinit (u2 σ 5000 0 0) R B pk gr cd) hbs cf_Cinit (B := B) ((congrFun (fr_Cinit (by omega)) 900).trans hB) (by omega) (pk := pk) (fun j9 hj9 => by rw [show (g_Cinit (u2 σ 5000 0 0) R B pk gr cd) (5030 + j9) 900 = σ (5030 + j9) 900 from ((congrFun (fr_Cinit (by omega)) 900).trans (congrFun (u2_ne (by omega)) 900))]; exact hpk j9 hj9) hpi (qa := 20000) (by omega) hfr ((congrFun (fr_Cinit (by omega)) 20).trans (hme.2.2 20000 (by omega) (by omega)).2) (w := cn y) (by omega) (fun _ => hterm)) ce_X10_payments ml_X14_233 iv_X10_payments cl_X10 rfl (lm_9000 (σ := g_Cinit (u2 σ 5000 0 0) R B pk gr cd) (fl1 cf_Cinit)) (xx_dt dd_X14_objects 26 rfl) (by omega) rfl rfl (Nat.le_of_ble_eq_true rfl) rfl ?_
      refine sw_callVx (as := [.int (nI (cn x)), .ref 20000]) (st := [.int 0]) (st2 := [.int (f_Cobjection (g_Cpay (g_Cinit (u2 σ 5000 0 0) R B pk gr cd) (cn y) 20000 B) (cn x) 20000 B), .int 0]) O (ct_X10_objection hl (z := z) (σ := g_Cpay (g_Cinit (u2 σ 5000 0 0) R B pk gr cd) (cn y) 20000 B) hbs ((congrFun (fr_Cpay ⟨by omega, by omega⟩) 20).trans cf_Cinit) (B := B) (((congrFun (fr_Cpay ⟨by omega, by omega⟩) 900).trans (congrFun (fr_Cinit (by omega)) 900)).trans hB) (by omega) (pk := pk) (fun j9 hj9 => by rw [show (g_Cpay (g_Cinit (u2 σ 5000 0 0) R B pk gr cd) (cn y) 20000 B) (5030 + j9) 900 = σ (5030 + j9) 900 from (((congrFun (fr_Cpay ⟨by omega, by omega⟩) 900).trans (congrFun (fr_Cinit (by omega)) 900)).trans (congrFun (u2_ne (by omega)) 900))]; exact hpk j9 hj9) (fun j9 hj9 => by rw [show (g_Cpay (g_Cinit (u2 σ 5000 0 0) R B pk gr cd) (cn y) 20000 B) 9001 = (g_Cinit (u2 σ 5000 0 0) R B pk gr cd) 9001 from (fr_Cpay ⟨by omega, by omega⟩)]; exact hpi j9 hj9) (qa := 20000) (by omega) (fl_Cpay (by omega)).1 (fl_Cpay (by omega)).2 (S := cn x) (by omega)) ce_X10_objection ml_X14_380 iv_X10_objection cl_X10 rfl (lm_9000 (σ := g_Cpay (g_Cinit (u2 σ 5000 0 0) R B pk gr cd) (cn y) 20000 B) (fl1 ((congrFun (fr_Cpay ⟨by omega, by omega⟩) 20).trans cf_Cinit))) (xx_dt dd_X14_objects 27 rfl) (by omega) rfl rfl (Nat.le_of_ble_eq_true rfl) rfl ?_
      refine sw_max O mm_X14_384 (xx_dt dd_X14_objects 28 rfl) (by omega) (Nat.le_of_ble_eq_true rfl) ?_
      have me9 : mem_eq σ (u2 (u2 (g_Cpay (g_Cinit (u2 σ 5000 0 0) R B pk gr cd) (cn y) 20000 B) 9000 20 0) 20000 20 0) := (mem_eq.frame (τ0 := u2 σ 5000 0 0) (mem_eq.int (r := 5000) (i := 0) (x := 0) hme rfl) (fun q h1 h2 h3 => by simp (disch := omega) only [u2_ne, uR_ne, fr_Cinit, fr_Cpay1, fr_Cpay2, fr_Cpay]) rfl (fun q h1 h2 => by by_cases e0 : q = 20000; (subst e0; rfl); ((simp (disch := omega) only [u2_ne, uR_ne, fr_Cinit, fr_Cpay1, fr_Cpay2, fr_Cpay]; exact (hme.2.2 q h1 h2).1))))
      exact sw_iretD (h' := setM z (u2 (u2 (g_Cpay (g_Cinit (u2 σ 5000 0 0) R B pk gr cd) (cn y) 20000 B) 9000 20 0) 20000 20 0) h) O (xx_dt dd_X14_objects 29 rfl) rfl rfl (xx_sub.trans (dropT (by omega) hfr) (drop9 hfr)) (me9.cls hcl) (by rw [hh]; exact fun r hr => me9.dom hr) (by rw [hQ]; exact ⟨by unfold f_Mobjects; simp only [if_pos q1, if_pos q2], by unfold g_Mobjects; simp only [if_pos q1, if_pos q2]⟩)
    · refine sw_aload_n O (xx_dt dd_X14_objects 12 rfl) rfl ?_
      refine sw_iconst (x := 1) O (xx_dt dd_X14_objects 13 rfl) (by decide) ?_
      refine sw_callVx (as := [.int 1]) (st := []) (st2 := [.int 0]) O (ct_X14_refuse hl (z := z) (σ := u2 σ 5000 0 0) hbs (x := 1)) ce_X14_refuse ml_X14_74 iv_X14_refuse cl_X14 rfl (lm_mod (σ := u2 σ 5000 0 0)) (xx_dt dd_X14_objects 14 rfl) (by omega) rfl rfl (Nat.le_of_ble_eq_true rfl) rfl ?_
      exact sw_iret O (xx_dt dd_X14_objects 15 rfl) rfl rfl (by rw [hQ]; exact ⟨by unfold f_Mobjects; simp only [if_pos q1, if_neg q2], by unfold g_Mobjects; simp only [if_pos q1, if_neg q2]⟩)
end
section
/-! ===== the reference: facts of the sale ===== -/
def f_Msale0 (σ : XS9) (R B K C : Nat) (pk : Nat → Nat) (g : Nat) (tn sp : Nat → Nat) : Int32 := σ 5000 1
theorem ct_Msale0 {l : Launch} {h : XH} (hl : l.stackTraces = false) {z : Int64} {σ : XS9} (hbs : xx_bs h) {R : Nat} (hR : σ 5001 900 = nI R) (hR5 : R ≤ 5) {B : Nat} (hB : σ 5002 900 = nI B) (hB6 : B ≤ 6) {K : Nat} (hK : σ 5003 900 = nI K) (hK60 : K ≤ 60) {C : Nat} (hS : σ 5004 900 = nI (2 * C)) (hC10 : C ≤ 10) {pk : Nat → Nat} (hpk : ∀ j, j < B → σ (5030 + j) 900 = nI (2 * pk j) ∧ pk j ≤ 6) (hfl : σ 7000 25 = nI 0 ∨ (σ 7000 25 = nI 1 ∧ σ 7000 20 = nI 1)) {g : Nat} (hg : σ 7000 23 = nI g) (hg1 : g < 200) {w : Nat} (hw : σ 7000 24 = nI w) (hw1 : w < 200) (hkp : σ 5000 1 = 3 → ∀ j, j < B → σ 5005 j = -1 ∨ ∃ n, n < pk j ∧ σ 5005 j = nI n) {tn : Nat → Nat} (htn : ∀ r, r < 5 → σ 5007 r = nI (tn r) ∧ tn r < 6) {sp : Nat → Nat} (hsp : ∀ r, r < R → σ (5010 + r) 0 = nI (sp r) ∧ sp r ≤ 5) (hc : σ 9000 20 = nI 1)  : XEx l m_X14_saleNow 9 0 0 [.ref 5000, .int 0, .ref 9000] (setM z σ h) (some (.int (f_Msale0 σ R B K C pk g tn sp))) (setM z σ h) := by
  refine XMet.of hl rfl rfl (Nat.le_of_ble_eq_true rfl) (fun Y O hh hQ => ?_)
  show SW Y 0 0 (setM z σ h) 0 [.ref 5000, .int 0, .ref 9000, xx_d, xx_d, xx_d] []
  refine sw_iconst (x := 0) O (xx_dt dd_X14_saleNow 0 rfl) (by decide) ?_
  refine sw_istore_n (ls2 := [.ref 5000, .int 0, .ref 9000, .int 0, xx_d, xx_d]) O (xx_dt dd_X14_saleNow 1 rfl) (by decide) rfl ?_
  refine sw_iload_n O (xx_dt dd_X14_saleNow 2 rfl) rfl ?_
  refine sw_tableIn (off := 77) (tgt := 80) O (xx_dt dd_X14_saleNow 3 rfl) (by decide) (by decide) rfl (by decide) ?_
  refine sw_aload_n O (xx_dt dd_X14_saleNow 4 rfl) rfl ?_
  refine sw_get (v := .int (σ 5000 1)) O (xx_dt dd_X14_saleNow 5 rfl) cl_X14 fl_X14_77 (lm_mod (σ := σ)) (by decide) rfl ?_
  exact sw_iret O (xx_dt dd_X14_saleNow 6 rfl) rfl rfl (by rw [hQ]; exact ⟨by unfold f_Msale0; rfl, rfl⟩)
def f_Msale1 (σ : XS9) (R B K C : Nat) (pk : Nat → Nat) (g : Nat) (tn sp : Nat → Nat) : Int32 := (if (σ 5000 1) = 0 then 0 else (if (σ 5000 1) = 1 then nI (K + 1) else nI K))
theorem ct_Msale1 {l : Launch} {h : XH} (hl : l.stackTraces = false) {z : Int64} {σ : XS9} (hbs : xx_bs h) {R : Nat} (hR : σ 5001 900 = nI R) (hR5 : R ≤ 5) {B : Nat} (hB : σ 5002 900 = nI B) (hB6 : B ≤ 6) {K : Nat} (hK : σ 5003 900 = nI K) (hK60 : K ≤ 60) {C : Nat} (hS : σ 5004 900 = nI (2 * C)) (hC10 : C ≤ 10) {pk : Nat → Nat} (hpk : ∀ j, j < B → σ (5030 + j) 900 = nI (2 * pk j) ∧ pk j ≤ 6) (hfl : σ 7000 25 = nI 0 ∨ (σ 7000 25 = nI 1 ∧ σ 7000 20 = nI 1)) {g : Nat} (hg : σ 7000 23 = nI g) (hg1 : g < 200) {w : Nat} (hw : σ 7000 24 = nI w) (hw1 : w < 200) (hkp : σ 5000 1 = 3 → ∀ j, j < B → σ 5005 j = -1 ∨ ∃ n, n < pk j ∧ σ 5005 j = nI n) {tn : Nat → Nat} (htn : ∀ r, r < 5 → σ 5007 r = nI (tn r) ∧ tn r < 6) {sp : Nat → Nat} (hsp : ∀ r, r < R → σ (5010 + r) 0 = nI (sp r) ∧ sp r ≤ 5) (hc : σ 9000 20 = nI 1)  : XEx l m_X14_saleNow 9 0 0 [.ref 5000, .int 1, .ref 9000] (setM z σ h) (some (.int (f_Msale1 σ R B K C pk g tn sp))) (setM z σ h) := by
  refine XMet.of hl rfl rfl (Nat.le_of_ble_eq_true rfl) (fun Y O hh hQ => ?_)
  show SW Y 0 0 (setM z σ h) 0 [.ref 5000, .int 1, .ref 9000, xx_d, xx_d, xx_d] []
  refine sw_iconst (x := 0) O (xx_dt dd_X14_saleNow 0 rfl) (by decide) ?_
  refine sw_istore_n (ls2 := [.ref 5000, .int 1, .ref 9000, .int 0, xx_d, xx_d]) O (xx_dt dd_X14_saleNow 1 rfl) (by decide) rfl ?_
  refine sw_iload_n O (xx_dt dd_X14_saleNow 2 rfl) rfl ?_
  refine sw_tableIn (off := 82) (tgt := 85) O (xx_dt dd_X14_saleNow 3 rfl) (by decide) (by decide) rfl (by decide) ?_
  refine sw_aload_n O (xx_dt dd_X14_saleNow 7 rfl) rfl ?_
  refine sw_get (v := .int (σ 5000 1)) O (xx_dt dd_X14_saleNow 8 rfl) cl_X14 fl_X14_77 (lm_mod (σ := σ)) (by decide) rfl ?_
  refine sw_if_ne (tgt := 96) O (xx_dt dd_X14_saleNow 9 rfl) (by decide) (fun q1 => ?_) (fun q1 => ?_)
  · refine sw_aload_n O (xx_dt dd_X14_saleNow 12 rfl) rfl ?_
    refine sw_get (v := .int (σ 5000 1)) O (xx_dt dd_X14_saleNow 13 rfl) cl_X14 fl_X14_77 (lm_mod (σ := σ)) (by decide) rfl ?_
    refine sw_iconst (x := 1) O (xx_dt dd_X14_saleNow 14 rfl) (by decide) ?_
    refine sw_icmp_ne (tgt := 116) O (xx_dt dd_X14_saleNow 15 rfl) (by decide) (fun q2 => ?_) (fun q2 => ?_)
    · refine sw_aload_n O (xx_dt dd_X14_saleNow 22 rfl) rfl ?_
      refine sw_get (v := .ref 5003) O (xx_dt dd_X14_saleNow 23 rfl) cl_X14 fl_X14_30 (lm_mod (σ := σ)) (by decide) rfl ?_
      refine sw_callVL (ci := 6) (as := []) (st := []) (st2 := [.int (nI K)]) O (ct_AL_size hl (lm_5003 (σ := σ) (K := K) hK (by omega))) ce_Jx4a65c_size_8abf5 ml_X14_57 iv_Jx4a65c_size_8abf5 cl_Jx4a65c rfl (lm_5003 (σ := σ) (K := K) hK (by omega)) (xx_dt dd_X14_saleNow 24 rfl) (by omega) rfl rfl (Nat.le_of_ble_eq_true rfl) rfl ?_
      exact sw_iret O (xx_dt dd_X14_saleNow 25 rfl) rfl rfl (by rw [hQ]; exact ⟨by unfold f_Msale1; simp only [if_neg q1, if_neg q2], rfl⟩)
    · refine sw_aload_n O (xx_dt dd_X14_saleNow 16 rfl) rfl ?_
      refine sw_get (v := .ref 5003) O (xx_dt dd_X14_saleNow 17 rfl) cl_X14 fl_X14_30 (lm_mod (σ := σ)) (by decide) rfl ?_
      refine sw_callVL (ci := 6) (as := []) (st := []) (st2 := [.int (nI K)]) O (ct_AL_size hl (lm_5003 (σ := σ) (K := K) hK (by omega))) ce_Jx4a65c_size_8abf5 ml_X14_57 iv_Jx4a65c_size_8abf5 cl_Jx4a65c rfl (lm_5003 (σ := σ) (K := K) hK (by omega)) (xx_dt dd_X14_saleNow 18 rfl) (by omega) rfl rfl (Nat.le_of_ble_eq_true rfl) rfl ?_
      refine sw_iconst (x := 1) O (xx_dt dd_X14_saleNow 19 rfl) (by decide) ?_
      refine sw_iadd O (xx_dt dd_X14_saleNow 20 rfl) ?_
      rw [nI_a1 K]
      refine sw_goto (tgt := 123) O (xx_dt dd_X14_saleNow 21 rfl) (by decide) ?_
      exact sw_iret O (xx_dt dd_X14_saleNow 25 rfl) rfl rfl (by rw [hQ]; exact ⟨by unfold f_Msale1; simp only [if_neg q1, if_pos q2], rfl⟩)
  · refine sw_iconst (x := 0) O (xx_dt dd_X14_saleNow 10 rfl) (by decide) ?_
    refine sw_goto (tgt := 123) O (xx_dt dd_X14_saleNow 11 rfl) (by decide) ?_
    exact sw_iret O (xx_dt dd_X14_saleNow 25 rfl) rfl rfl (by rw [hQ]; exact ⟨by unfold f_Msale1; simp only [if_pos q1], rfl⟩)
def f_Msale2 (σ : XS9) (R B K C : Nat) (pk : Nat → Nat) (g : Nat) (tn sp : Nat → Nat) : Int32 := nI R
theorem ct_Msale2 {l : Launch} {h : XH} (hl : l.stackTraces = false) {z : Int64} {σ : XS9} (hbs : xx_bs h) {R : Nat} (hR : σ 5001 900 = nI R) (hR5 : R ≤ 5) {B : Nat} (hB : σ 5002 900 = nI B) (hB6 : B ≤ 6) {K : Nat} (hK : σ 5003 900 = nI K) (hK60 : K ≤ 60) {C : Nat} (hS : σ 5004 900 = nI (2 * C)) (hC10 : C ≤ 10) {pk : Nat → Nat} (hpk : ∀ j, j < B → σ (5030 + j) 900 = nI (2 * pk j) ∧ pk j ≤ 6) (hfl : σ 7000 25 = nI 0 ∨ (σ 7000 25 = nI 1 ∧ σ 7000 20 = nI 1)) {g : Nat} (hg : σ 7000 23 = nI g) (hg1 : g < 200) {w : Nat} (hw : σ 7000 24 = nI w) (hw1 : w < 200) (hkp : σ 5000 1 = 3 → ∀ j, j < B → σ 5005 j = -1 ∨ ∃ n, n < pk j ∧ σ 5005 j = nI n) {tn : Nat → Nat} (htn : ∀ r, r < 5 → σ 5007 r = nI (tn r) ∧ tn r < 6) {sp : Nat → Nat} (hsp : ∀ r, r < R → σ (5010 + r) 0 = nI (sp r) ∧ sp r ≤ 5) (hc : σ 9000 20 = nI 1)  : XEx l m_X14_saleNow 9 0 0 [.ref 5000, .int 2, .ref 9000] (setM z σ h) (some (.int (f_Msale2 σ R B K C pk g tn sp))) (setM z σ h) := by
  refine XMet.of hl rfl rfl (Nat.le_of_ble_eq_true rfl) (fun Y O hh hQ => ?_)
  show SW Y 0 0 (setM z σ h) 0 [.ref 5000, .int 2, .ref 9000, xx_d, xx_d, xx_d] []
  refine sw_iconst (x := 0) O (xx_dt dd_X14_saleNow 0 rfl) (by decide) ?_
  refine sw_istore_n (ls2 := [.ref 5000, .int 2, .ref 9000, .int 0, xx_d, xx_d]) O (xx_dt dd_X14_saleNow 1 rfl) (by decide) rfl ?_
  refine sw_iload_n O (xx_dt dd_X14_saleNow 2 rfl) rfl ?_
  refine sw_tableIn (off := 121) (tgt := 124) O (xx_dt dd_X14_saleNow 3 rfl) (by decide) (by decide) rfl (by decide) ?_
  refine sw_aload_n O (xx_dt dd_X14_saleNow 26 rfl) rfl ?_
  refine sw_get (v := .ref 5001) O (xx_dt dd_X14_saleNow 27 rfl) cl_X14 fl_X14_23 (lm_mod (σ := σ)) (by decide) rfl ?_
  refine sw_callVL (ci := 6) (as := []) (st := []) (st2 := [.int (nI R)]) O (ct_AL_size hl (lm_5001 (σ := σ) (R := R) hR (by omega))) ce_Jx4a65c_size_8abf5 ml_X14_57 iv_Jx4a65c_size_8abf5 cl_Jx4a65c rfl (lm_5001 (σ := σ) (R := R) hR (by omega)) (xx_dt dd_X14_saleNow 28 rfl) (by omega) rfl rfl (Nat.le_of_ble_eq_true rfl) rfl ?_
  exact sw_iret O (xx_dt dd_X14_saleNow 29 rfl) rfl rfl (by rw [hQ]; exact ⟨by unfold f_Msale2; rfl, rfl⟩)
def f_Msale3 (σ : XS9) (R B K C : Nat) (pk : Nat → Nat) (g : Nat) (tn sp : Nat → Nat) : Int32 := nI B
theorem ct_Msale3 {l : Launch} {h : XH} (hl : l.stackTraces = false) {z : Int64} {σ : XS9} (hbs : xx_bs h) {R : Nat} (hR : σ 5001 900 = nI R) (hR5 : R ≤ 5) {B : Nat} (hB : σ 5002 900 = nI B) (hB6 : B ≤ 6) {K : Nat} (hK : σ 5003 900 = nI K) (hK60 : K ≤ 60) {C : Nat} (hS : σ 5004 900 = nI (2 * C)) (hC10 : C ≤ 10) {pk : Nat → Nat} (hpk : ∀ j, j < B → σ (5030 + j) 900 = nI (2 * pk j) ∧ pk j ≤ 6) (hfl : σ 7000 25 = nI 0 ∨ (σ 7000 25 = nI 1 ∧ σ 7000 20 = nI 1)) {g : Nat} (hg : σ 7000 23 = nI g) (hg1 : g < 200) {w : Nat} (hw : σ 7000 24 = nI w) (hw1 : w < 200) (hkp : σ 5000 1 = 3 → ∀ j, j < B → σ 5005 j = -1 ∨ ∃ n, n < pk j ∧ σ 5005 j = nI n) {tn : Nat → Nat} (htn : ∀ r, r < 5 → σ 5007 r = nI (tn r) ∧ tn r < 6) {sp : Nat → Nat} (hsp : ∀ r, r < R → σ (5010 + r) 0 = nI (sp r) ∧ sp r ≤ 5) (hc : σ 9000 20 = nI 1)  : XEx l m_X14_saleNow 9 0 0 [.ref 5000, .int 3, .ref 9000] (setM z σ h) (some (.int (f_Msale3 σ R B K C pk g tn sp))) (setM z σ h) := by
  refine XMet.of hl rfl rfl (Nat.le_of_ble_eq_true rfl) (fun Y O hh hQ => ?_)
  show SW Y 0 0 (setM z σ h) 0 [.ref 5000, .int 3, .ref 9000, xx_d, xx_d, xx_d] []
  refine sw_iconst (x := 0) O (xx_dt dd_X14_saleNow 0 rfl) (by decide) ?_
  refine sw_istore_n (ls2 := [.ref 5000, .int 3, .ref 9000, .int 0, xx_d, xx_d]) O (xx_dt dd_X14_saleNow 1 rfl) (by decide) rfl ?_
  refine sw_iload_n O (xx_dt dd_X14_saleNow 2 rfl) rfl ?_
  refine sw_tableIn (off := 129) (tgt := 132) O (xx_dt dd_X14_saleNow 3 rfl) (by decide) (by decide) rfl (by decide) ?_
  refine sw_aload_n O (xx_dt dd_X14_saleNow 30 rfl) rfl ?_
  refine sw_get (v := .ref 5002) O (xx_dt dd_X14_saleNow 31 rfl) cl_X14 fl_X14_27 (lm_mod (σ := σ)) (by decide) rfl ?_
  refine sw_callVL (ci := 6) (as := []) (st := []) (st2 := [.int (nI B)]) O (ct_AL_size hl (lm_5002 (σ := σ) (B := B) hB (by omega))) ce_Jx4a65c_size_8abf5 ml_X14_57 iv_Jx4a65c_size_8abf5 cl_Jx4a65c rfl (lm_5002 (σ := σ) (B := B) hB (by omega)) (xx_dt dd_X14_saleNow 32 rfl) (by omega) rfl rfl (Nat.le_of_ble_eq_true rfl) rfl ?_
  exact sw_iret O (xx_dt dd_X14_saleNow 33 rfl) rfl rfl (by rw [hQ]; exact ⟨by unfold f_Msale3; rfl, rfl⟩)
def f_Msale4 (σ : XS9) (R B K C : Nat) (pk : Nat → Nat) (g : Nat) (tn sp : Nat → Nat) : Int32 := nI C
theorem ct_Msale4 {l : Launch} {h : XH} (hl : l.stackTraces = false) {z : Int64} {σ : XS9} (hbs : xx_bs h) {R : Nat} (hR : σ 5001 900 = nI R) (hR5 : R ≤ 5) {B : Nat} (hB : σ 5002 900 = nI B) (hB6 : B ≤ 6) {K : Nat} (hK : σ 5003 900 = nI K) (hK60 : K ≤ 60) {C : Nat} (hS : σ 5004 900 = nI (2 * C)) (hC10 : C ≤ 10) {pk : Nat → Nat} (hpk : ∀ j, j < B → σ (5030 + j) 900 = nI (2 * pk j) ∧ pk j ≤ 6) (hfl : σ 7000 25 = nI 0 ∨ (σ 7000 25 = nI 1 ∧ σ 7000 20 = nI 1)) {g : Nat} (hg : σ 7000 23 = nI g) (hg1 : g < 200) {w : Nat} (hw : σ 7000 24 = nI w) (hw1 : w < 200) (hkp : σ 5000 1 = 3 → ∀ j, j < B → σ 5005 j = -1 ∨ ∃ n, n < pk j ∧ σ 5005 j = nI n) {tn : Nat → Nat} (htn : ∀ r, r < 5 → σ 5007 r = nI (tn r) ∧ tn r < 6) {sp : Nat → Nat} (hsp : ∀ r, r < R → σ (5010 + r) 0 = nI (sp r) ∧ sp r ≤ 5) (hc : σ 9000 20 = nI 1)  : XEx l m_X14_saleNow 9 0 0 [.ref 5000, .int 4, .ref 9000] (setM z σ h) (some (.int (f_Msale4 σ R B K C pk g tn sp))) (setM z σ h) := by
  refine XMet.of hl rfl rfl (Nat.le_of_ble_eq_true rfl) (fun Y O hh hQ => ?_)
  show SW Y 0 0 (setM z σ h) 0 [.ref 5000, .int 4, .ref 9000, xx_d, xx_d, xx_d] []
  refine sw_iconst (x := 0) O (xx_dt dd_X14_saleNow 0 rfl) (by decide) ?_
  refine sw_istore_n (ls2 := [.ref 5000, .int 4, .ref 9000, .int 0, xx_d, xx_d]) O (xx_dt dd_X14_saleNow 1 rfl) (by decide) rfl ?_
  refine sw_iload_n O (xx_dt dd_X14_saleNow 2 rfl) rfl ?_
  refine sw_tableIn (off := 137) (tgt := 140) O (xx_dt dd_X14_saleNow 3 rfl) (by decide) (by decide) rfl (by decide) ?_
  refine sw_aload_n O (xx_dt dd_X14_saleNow 34 rfl) rfl ?_
  refine sw_get (v := .ref 5004) O (xx_dt dd_X14_saleNow 35 rfl) cl_X14 fl_X14_33 (lm_mod (σ := σ)) (by decide) rfl ?_
  refine sw_callVL (ci := 6) (as := []) (st := []) (st2 := [.int (nI (2 * C))]) O (ct_AL_size hl (lm_5004 (σ := σ) (S := 2 * C) hS (by omega))) ce_Jx4a65c_size_8abf5 ml_X14_57 iv_Jx4a65c_size_8abf5 cl_Jx4a65c rfl (lm_5004 (σ := σ) (S := 2 * C) hS (by omega)) (xx_dt dd_X14_saleNow 36 rfl) (by omega) rfl rfl (Nat.le_of_ble_eq_true rfl) rfl ?_
  refine sw_iconst (x := 2) O (xx_dt dd_X14_saleNow 37 rfl) (by decide) ?_
  refine sw_idiv O (xx_dt dd_X14_saleNow 38 rfl) (by first | decide | assumption) ?_
  have hx148 := trivial
  rw [nI_half (by omega)]
  exact sw_iret O (xx_dt dd_X14_saleNow 39 rfl) rfl rfl (by rw [hQ]; exact ⟨by unfold f_Msale4; rfl, rfl⟩)
def f_Msale5 (σ : XS9) (R B K C : Nat) (pk : Nat → Nat) (g : Nat) (tn sp : Nat → Nat) : Int32 := σ 5000 2
theorem ct_Msale5 {l : Launch} {h : XH} (hl : l.stackTraces = false) {z : Int64} {σ : XS9} (hbs : xx_bs h) {R : Nat} (hR : σ 5001 900 = nI R) (hR5 : R ≤ 5) {B : Nat} (hB : σ 5002 900 = nI B) (hB6 : B ≤ 6) {K : Nat} (hK : σ 5003 900 = nI K) (hK60 : K ≤ 60) {C : Nat} (hS : σ 5004 900 = nI (2 * C)) (hC10 : C ≤ 10) {pk : Nat → Nat} (hpk : ∀ j, j < B → σ (5030 + j) 900 = nI (2 * pk j) ∧ pk j ≤ 6) (hfl : σ 7000 25 = nI 0 ∨ (σ 7000 25 = nI 1 ∧ σ 7000 20 = nI 1)) {g : Nat} (hg : σ 7000 23 = nI g) (hg1 : g < 200) {w : Nat} (hw : σ 7000 24 = nI w) (hw1 : w < 200) (hkp : σ 5000 1 = 3 → ∀ j, j < B → σ 5005 j = -1 ∨ ∃ n, n < pk j ∧ σ 5005 j = nI n) {tn : Nat → Nat} (htn : ∀ r, r < 5 → σ 5007 r = nI (tn r) ∧ tn r < 6) {sp : Nat → Nat} (hsp : ∀ r, r < R → σ (5010 + r) 0 = nI (sp r) ∧ sp r ≤ 5) (hc : σ 9000 20 = nI 1)  : XEx l m_X14_saleNow 9 0 0 [.ref 5000, .int 5, .ref 9000] (setM z σ h) (some (.int (f_Msale5 σ R B K C pk g tn sp))) (setM z σ h) := by
  refine XMet.of hl rfl rfl (Nat.le_of_ble_eq_true rfl) (fun Y O hh hQ => ?_)
  show SW Y 0 0 (setM z σ h) 0 [.ref 5000, .int 5, .ref 9000, xx_d, xx_d, xx_d] []
  refine sw_iconst (x := 0) O (xx_dt dd_X14_saleNow 0 rfl) (by decide) ?_
  refine sw_istore_n (ls2 := [.ref 5000, .int 5, .ref 9000, .int 0, xx_d, xx_d]) O (xx_dt dd_X14_saleNow 1 rfl) (by decide) rfl ?_
  refine sw_iload_n O (xx_dt dd_X14_saleNow 2 rfl) rfl ?_
  refine sw_tableIn (off := 147) (tgt := 150) O (xx_dt dd_X14_saleNow 3 rfl) (by decide) (by decide) rfl (by decide) ?_
  refine sw_aload_n O (xx_dt dd_X14_saleNow 40 rfl) rfl ?_
  refine sw_get (v := .int (σ 5000 2)) O (xx_dt dd_X14_saleNow 41 rfl) cl_X14 fl_X14_7 (lm_mod (σ := σ)) (by decide) rfl ?_
  exact sw_iret O (xx_dt dd_X14_saleNow 42 rfl) rfl rfl (by rw [hQ]; exact ⟨by unfold f_Msale5; rfl, rfl⟩)
def f_Msale6 (σ : XS9) (R B K C : Nat) (pk : Nat → Nat) (g : Nat) (tn sp : Nat → Nat) : Int32 := (if (σ 5000 3) = 0 then 0 else 1)
theorem ct_Msale6 {l : Launch} {h : XH} (hl : l.stackTraces = false) {z : Int64} {σ : XS9} (hbs : xx_bs h) {R : Nat} (hR : σ 5001 900 = nI R) (hR5 : R ≤ 5) {B : Nat} (hB : σ 5002 900 = nI B) (hB6 : B ≤ 6) {K : Nat} (hK : σ 5003 900 = nI K) (hK60 : K ≤ 60) {C : Nat} (hS : σ 5004 900 = nI (2 * C)) (hC10 : C ≤ 10) {pk : Nat → Nat} (hpk : ∀ j, j < B → σ (5030 + j) 900 = nI (2 * pk j) ∧ pk j ≤ 6) (hfl : σ 7000 25 = nI 0 ∨ (σ 7000 25 = nI 1 ∧ σ 7000 20 = nI 1)) {g : Nat} (hg : σ 7000 23 = nI g) (hg1 : g < 200) {w : Nat} (hw : σ 7000 24 = nI w) (hw1 : w < 200) (hkp : σ 5000 1 = 3 → ∀ j, j < B → σ 5005 j = -1 ∨ ∃ n, n < pk j ∧ σ 5005 j = nI n) {tn : Nat → Nat} (htn : ∀ r, r < 5 → σ 5007 r = nI (tn r) ∧ tn r < 6) {sp : Nat → Nat} (hsp : ∀ r, r < R → σ (5010 + r) 0 = nI (sp r) ∧ sp r ≤ 5) (hc : σ 9000 20 = nI 1)  : XEx l m_X14_saleNow 9 0 0 [.ref 5000, .int 6, .ref 9000] (setM z σ h) (some (.int (f_Msale6 σ R B K C pk g tn sp))) (setM z σ h) := by
  refine XMet.of hl rfl rfl (Nat.le_of_ble_eq_true rfl) (fun Y O hh hQ => ?_)
  show SW Y 0 0 (setM z σ h) 0 [.ref 5000, .int 6, .ref 9000, xx_d, xx_d, xx_d] []
  refine sw_iconst (x := 0) O (xx_dt dd_X14_saleNow 0 rfl) (by decide) ?_
  refine sw_istore_n (ls2 := [.ref 5000, .int 6, .ref 9000, .int 0, xx_d, xx_d]) O (xx_dt dd_X14_saleNow 1 rfl) (by decide) rfl ?_
  refine sw_iload_n O (xx_dt dd_X14_saleNow 2 rfl) rfl ?_
  refine sw_tableIn (off := 152) (tgt := 155) O (xx_dt dd_X14_saleNow 3 rfl) (by decide) (by decide) rfl (by decide) ?_
  refine sw_aload_n O (xx_dt dd_X14_saleNow 43 rfl) rfl ?_
  refine sw_get (v := .int (σ 5000 3)) O (xx_dt dd_X14_saleNow 44 rfl) cl_X14 fl_X14_13 (lm_mod (σ := σ)) (by decide) rfl ?_
  refine sw_if_eq (tgt := 166) O (xx_dt dd_X14_saleNow 45 rfl) (by decide) (fun q1 => ?_) (fun q1 => ?_)
  · refine sw_iconst (x := 0) O (xx_dt dd_X14_saleNow 48 rfl) (by decide) ?_
    exact sw_iret O (xx_dt dd_X14_saleNow 49 rfl) rfl rfl (by rw [hQ]; exact ⟨by unfold f_Msale6; simp only [if_pos q1], rfl⟩)
  · refine sw_iconst (x := 1) O (xx_dt dd_X14_saleNow 46 rfl) (by decide) ?_
    refine sw_goto (tgt := 167) O (xx_dt dd_X14_saleNow 47 rfl) (by decide) ?_
    exact sw_iret O (xx_dt dd_X14_saleNow 49 rfl) rfl rfl (by rw [hQ]; exact ⟨by unfold f_Msale6; simp only [if_neg q1], rfl⟩)
def f_Msale7 (σ : XS9) (R B K C : Nat) (pk : Nat → Nat) (g : Nat) (tn sp : Nat → Nat) : Int32 := σ 5000 4
theorem ct_Msale7 {l : Launch} {h : XH} (hl : l.stackTraces = false) {z : Int64} {σ : XS9} (hbs : xx_bs h) {R : Nat} (hR : σ 5001 900 = nI R) (hR5 : R ≤ 5) {B : Nat} (hB : σ 5002 900 = nI B) (hB6 : B ≤ 6) {K : Nat} (hK : σ 5003 900 = nI K) (hK60 : K ≤ 60) {C : Nat} (hS : σ 5004 900 = nI (2 * C)) (hC10 : C ≤ 10) {pk : Nat → Nat} (hpk : ∀ j, j < B → σ (5030 + j) 900 = nI (2 * pk j) ∧ pk j ≤ 6) (hfl : σ 7000 25 = nI 0 ∨ (σ 7000 25 = nI 1 ∧ σ 7000 20 = nI 1)) {g : Nat} (hg : σ 7000 23 = nI g) (hg1 : g < 200) {w : Nat} (hw : σ 7000 24 = nI w) (hw1 : w < 200) (hkp : σ 5000 1 = 3 → ∀ j, j < B → σ 5005 j = -1 ∨ ∃ n, n < pk j ∧ σ 5005 j = nI n) {tn : Nat → Nat} (htn : ∀ r, r < 5 → σ 5007 r = nI (tn r) ∧ tn r < 6) {sp : Nat → Nat} (hsp : ∀ r, r < R → σ (5010 + r) 0 = nI (sp r) ∧ sp r ≤ 5) (hc : σ 9000 20 = nI 1)  : XEx l m_X14_saleNow 9 0 0 [.ref 5000, .int 7, .ref 9000] (setM z σ h) (some (.int (f_Msale7 σ R B K C pk g tn sp))) (setM z σ h) := by
  refine XMet.of hl rfl rfl (Nat.le_of_ble_eq_true rfl) (fun Y O hh hQ => ?_)
  show SW Y 0 0 (setM z σ h) 0 [.ref 5000, .int 7, .ref 9000, xx_d, xx_d, xx_d] []
  refine sw_iconst (x := 0) O (xx_dt dd_X14_saleNow 0 rfl) (by decide) ?_
  refine sw_istore_n (ls2 := [.ref 5000, .int 7, .ref 9000, .int 0, xx_d, xx_d]) O (xx_dt dd_X14_saleNow 1 rfl) (by decide) rfl ?_
  refine sw_iload_n O (xx_dt dd_X14_saleNow 2 rfl) rfl ?_
  refine sw_tableIn (off := 165) (tgt := 168) O (xx_dt dd_X14_saleNow 3 rfl) (by decide) (by decide) rfl (by decide) ?_
  refine sw_aload_n O (xx_dt dd_X14_saleNow 50 rfl) rfl ?_
  refine sw_get (v := .int (σ 5000 4)) O (xx_dt dd_X14_saleNow 51 rfl) cl_X14 fl_X14_17 (lm_mod (σ := σ)) (by decide) rfl ?_
  exact sw_iret O (xx_dt dd_X14_saleNow 52 rfl) rfl rfl (by rw [hQ]; exact ⟨by unfold f_Msale7; rfl, rfl⟩)
def x_Msale8_176 (σ : XS9) (R B K C : Nat) (pk : Nat → Nat) (g : Nat) (tn sp : Nat → Nat) (s0 : Int32) : Int32 := xit (fun i176 s176 => s176 + (f_MofBidderNow σ i176 R B pk g 10)) B 0 s0
def f_Msale8 (σ : XS9) (R B K C : Nat) (pk : Nat → Nat) (g : Nat) (tn sp : Nat → Nat) : Int32 := (x_Msale8_176 σ R B K C pk g tn sp 0)
theorem ct_Msale8 {l : Launch} {h : XH} (hl : l.stackTraces = false) {z : Int64} {σ : XS9} (hbs : xx_bs h) {R : Nat} (hR : σ 5001 900 = nI R) (hR5 : R ≤ 5) {B : Nat} (hB : σ 5002 900 = nI B) (hB6 : B ≤ 6) {K : Nat} (hK : σ 5003 900 = nI K) (hK60 : K ≤ 60) {C : Nat} (hS : σ 5004 900 = nI (2 * C)) (hC10 : C ≤ 10) {pk : Nat → Nat} (hpk : ∀ j, j < B → σ (5030 + j) 900 = nI (2 * pk j) ∧ pk j ≤ 6) (hfl : σ 7000 25 = nI 0 ∨ (σ 7000 25 = nI 1 ∧ σ 7000 20 = nI 1)) {g : Nat} (hg : σ 7000 23 = nI g) (hg1 : g < 200) {w : Nat} (hw : σ 7000 24 = nI w) (hw1 : w < 200) (hkp : σ 5000 1 = 3 → ∀ j, j < B → σ 5005 j = -1 ∨ ∃ n, n < pk j ∧ σ 5005 j = nI n) {tn : Nat → Nat} (htn : ∀ r, r < 5 → σ 5007 r = nI (tn r) ∧ tn r < 6) {sp : Nat → Nat} (hsp : ∀ r, r < R → σ (5010 + r) 0 = nI (sp r) ∧ sp r ≤ 5) (hc : σ 9000 20 = nI 1)  : XEx l m_X14_saleNow 9 0 0 [.ref 5000, .int 8, .ref 9000] (setM z σ h) (some (.int (f_Msale8 σ R B K C pk g tn sp))) (setM z σ h) := by
  refine XMet.of hl rfl rfl (Nat.le_of_ble_eq_true rfl) (fun Y O hh hQ => ?_)
  show SW Y 0 0 (setM z σ h) 0 [.ref 5000, .int 8, .ref 9000, xx_d, xx_d, xx_d] []
  refine sw_iconst (x := 0) O (xx_dt dd_X14_saleNow 0 rfl) (by decide) ?_
  refine sw_istore_n (ls2 := [.ref 5000, .int 8, .ref 9000, .int 0, xx_d, xx_d]) O (xx_dt dd_X14_saleNow 1 rfl) (by decide) rfl ?_
  refine sw_iload_n O (xx_dt dd_X14_saleNow 2 rfl) rfl ?_
  refine sw_tableIn (off := 170) (tgt := 173) O (xx_dt dd_X14_saleNow 3 rfl) (by decide) (by decide) rfl (by decide) ?_
  refine sw_iconst (x := 0) O (xx_dt dd_X14_saleNow 53 rfl) (by decide) ?_
  refine sw_istore (ls2 := [.ref 5000, .int 8, .ref 9000, .int 0, .int 0, xx_d]) O (xx_dt dd_X14_saleNow 54 rfl) (by decide) rfl ?_
  refine sw_for (S := Int32) (fun i176 s176 => s176 + (f_MofBidderNow σ i176 R B pk g 10)) (fun _ _ => True) (hp := fun _ => setM z σ h) (hd := 176) (lc := fun i176 s176 => [.ref 5000, .int 8, .ref 9000, .int s176, .int (nI i176), xx_d]) (N := B) (fun i176 s176 hi176 hP176 => ⟨trivial, fun kk176 => ?_⟩) B 0 0 (by omega) (trivial) (fun hP176 => ?_)
  · refine sw_iload O (xx_dt dd_X14_saleNow 55 rfl) rfl ?_
    refine sw_aload_n O (xx_dt dd_X14_saleNow 56 rfl) rfl ?_
    refine sw_get (v := .ref 5002) O (xx_dt dd_X14_saleNow 57 rfl) cl_X14 fl_X14_27 (lm_mod (σ := σ)) (by decide) rfl ?_
    refine sw_callVL (ci := 6) (as := []) (st := [.int (nI i176)]) (st2 := [.int (nI B), .int (nI i176)]) O (ct_AL_size hl (lm_5002 (σ := σ) (B := B) hB (by omega))) ce_Jx4a65c_size_8abf5 ml_X14_57 iv_Jx4a65c_size_8abf5 cl_Jx4a65c rfl (lm_5002 (σ := σ) (B := B) hB (by omega)) (xx_dt dd_X14_saleNow 58 rfl) (by omega) rfl rfl (Nat.le_of_ble_eq_true rfl) rfl ?_
    refine sw_icmp_ge (tgt := 205) O (xx_dt dd_X14_saleNow 59 rfl) (by decide) (fun q1 => ?_) (fun q1 => ?_)
    · exact absurd q1 (nI_ge (b := B) hi176 (by omega))
    · refine sw_iload_n O (xx_dt dd_X14_saleNow 60 rfl) rfl ?_
      refine sw_aload_n O (xx_dt dd_X14_saleNow 61 rfl) rfl ?_
      refine sw_iload O (xx_dt dd_X14_saleNow 62 rfl) rfl ?_
      refine sw_bipush (x := 10) O (xx_dt dd_X14_saleNow 63 rfl) (by decide) ?_
      refine sw_callVx (as := [.int (nI i176), .int 10]) (st := [.int s176]) (st2 := [.int (f_MofBidderNow σ i176 R B pk g 10), .int s176]) O (ct_X14_ofBidderNow hl (z := z) (σ := σ) hbs (R := R) hR (by omega) (B := B) hB (by omega) (pk := pk) hpk (i := i176) (by omega) hfl (g := g) hg (by omega) (w := w) hw (by omega) (v := 10) (by omega)) ce_X14_ofBidderNow ml_X14_311 iv_X14_ofBidderNow cl_X14 rfl (lm_mod (σ := σ)) (xx_dt dd_X14_saleNow 64 rfl) (by omega) rfl rfl (Nat.le_of_ble_eq_true rfl) rfl ?_
      refine sw_iadd O (xx_dt dd_X14_saleNow 65 rfl) ?_
      refine sw_istore_n (ls2 := [.ref 5000, .int 8, .ref 9000, .int (s176 + (f_MofBidderNow σ i176 R B pk g 10)), .int (nI i176), xx_d]) O (xx_dt dd_X14_saleNow 66 rfl) (by decide) rfl ?_
      refine sw_iinc (y := nI (i176 + 1)) (ls2 := [.ref 5000, .int 8, .ref 9000, .int (s176 + (f_MofBidderNow σ i176 R B pk g 10)), .int (nI (i176 + 1)), xx_d]) O (xx_dt dd_X14_saleNow 67 rfl) rfl (nI_1 _) (by decide) rfl ?_
      refine sw_goto (tgt := 176) O (xx_dt dd_X14_saleNow 68 rfl) (by decide) ?_
      exact kk176
  · show SW Y _ _ (setM z σ h) 176 [.ref 5000, .int 8, .ref 9000, .int (x_Msale8_176 σ R B K C pk g tn sp 0), .int (nI B), xx_d] []
    refine sw_iload O (xx_dt dd_X14_saleNow 55 rfl) rfl ?_
    refine sw_aload_n O (xx_dt dd_X14_saleNow 56 rfl) rfl ?_
    refine sw_get (v := .ref 5002) O (xx_dt dd_X14_saleNow 57 rfl) cl_X14 fl_X14_27 (lm_mod (σ := σ)) (by decide) rfl ?_
    refine sw_callVL (ci := 6) (as := []) (st := [.int (nI B)]) (st2 := [.int (nI B), .int (nI B)]) O (ct_AL_size hl (lm_5002 (σ := σ) (B := B) hB (by omega))) ce_Jx4a65c_size_8abf5 ml_X14_57 iv_Jx4a65c_size_8abf5 cl_Jx4a65c rfl (lm_5002 (σ := σ) (B := B) hB (by omega)) (xx_dt dd_X14_saleNow 58 rfl) (by omega) rfl rfl (Nat.le_of_ble_eq_true rfl) rfl ?_
    refine sw_icmp_ge (tgt := 205) O (xx_dt dd_X14_saleNow 59 rfl) (by decide) (fun q1 => ?_) (fun q1 => ?_)
    · refine sw_iload_n O (xx_dt dd_X14_saleNow 69 rfl) rfl ?_
      exact sw_iret O (xx_dt dd_X14_saleNow 70 rfl) rfl rfl (by rw [hQ]; exact ⟨by unfold f_Msale8; rfl, rfl⟩)
    · exact absurd (Int32.le_refl _) q1
def f_Msale9 (σ : XS9) (R B K C : Nat) (pk : Nat → Nat) (g : Nat) (tn sp : Nat → Nat) : Int32 := (if (σ 5000 1) = 3 then f_MwinnersKept σ B else f_bitCount (f_Cwinners σ))
theorem ct_Msale9 {l : Launch} {h : XH} (hl : l.stackTraces = false) {z : Int64} {σ : XS9} (hbs : xx_bs h) {R : Nat} (hR : σ 5001 900 = nI R) (hR5 : R ≤ 5) {B : Nat} (hB : σ 5002 900 = nI B) (hB6 : B ≤ 6) {K : Nat} (hK : σ 5003 900 = nI K) (hK60 : K ≤ 60) {C : Nat} (hS : σ 5004 900 = nI (2 * C)) (hC10 : C ≤ 10) {pk : Nat → Nat} (hpk : ∀ j, j < B → σ (5030 + j) 900 = nI (2 * pk j) ∧ pk j ≤ 6) (hfl : σ 7000 25 = nI 0 ∨ (σ 7000 25 = nI 1 ∧ σ 7000 20 = nI 1)) {g : Nat} (hg : σ 7000 23 = nI g) (hg1 : g < 200) {w : Nat} (hw : σ 7000 24 = nI w) (hw1 : w < 200) (hkp : σ 5000 1 = 3 → ∀ j, j < B → σ 5005 j = -1 ∨ ∃ n, n < pk j ∧ σ 5005 j = nI n) {tn : Nat → Nat} (htn : ∀ r, r < 5 → σ 5007 r = nI (tn r) ∧ tn r < 6) {sp : Nat → Nat} (hsp : ∀ r, r < R → σ (5010 + r) 0 = nI (sp r) ∧ sp r ≤ 5) (hc : σ 9000 20 = nI 1)  : XEx l m_X14_saleNow 9 0 0 [.ref 5000, .int 9, .ref 9000] (setM z σ h) (some (.int (f_Msale9 σ R B K C pk g tn sp))) (setM z σ h) := by
  refine XMet.of hl rfl rfl (Nat.le_of_ble_eq_true rfl) (fun Y O hh hQ => ?_)
  show SW Y 0 0 (setM z σ h) 0 [.ref 5000, .int 9, .ref 9000, xx_d, xx_d, xx_d] []
  refine sw_iconst (x := 0) O (xx_dt dd_X14_saleNow 0 rfl) (by decide) ?_
  refine sw_istore_n (ls2 := [.ref 5000, .int 9, .ref 9000, .int 0, xx_d, xx_d]) O (xx_dt dd_X14_saleNow 1 rfl) (by decide) rfl ?_
  refine sw_iload_n O (xx_dt dd_X14_saleNow 2 rfl) rfl ?_
  refine sw_tableIn (off := 204) (tgt := 207) O (xx_dt dd_X14_saleNow 3 rfl) (by decide) (by decide) rfl (by decide) ?_
  refine sw_aload_n O (xx_dt dd_X14_saleNow 71 rfl) rfl ?_
  refine sw_get (v := .int (σ 5000 1)) O (xx_dt dd_X14_saleNow 72 rfl) cl_X14 fl_X14_77 (lm_mod (σ := σ)) (by decide) rfl ?_
  refine sw_iconst (x := 3) O (xx_dt dd_X14_saleNow 73 rfl) (by decide) ?_
  refine sw_icmp_ne (tgt := 222) O (xx_dt dd_X14_saleNow 74 rfl) (by decide) (fun q1 => ?_) (fun q1 => ?_)
  · refine sw_aload_n O (xx_dt dd_X14_saleNow 78 rfl) rfl ?_
    refine sw_callVx (as := []) (st := []) (st2 := [.int (f_Cwinners σ)]) O (ct_X10_winners hl (z := z) (σ := σ) hbs hc  ) ce_X10_winners ml_X14_359 iv_X10_winners cl_X10 rfl (lm_9000 (σ := σ) (fl1 hc)) (xx_dt dd_X14_saleNow 79 rfl) (by omega) rfl rfl (Nat.le_of_ble_eq_true rfl) rfl ?_
    refine sw_callSx (as := [.int (f_Cwinners σ)]) (st := []) (st2 := [.int (f_bitCount (f_Cwinners σ))]) O (ct_J6_bitCount_0f7a4 hl (x := f_Cwinners σ)) ce_J6_bitCount_0f7a4 ml_X14_112 st_J6_bitCount_0f7a4 (xx_dt dd_X14_saleNow 80 rfl) (by omega) rfl rfl (Nat.le_of_ble_eq_true rfl) rfl ?_
    exact sw_iret O (xx_dt dd_X14_saleNow 81 rfl) rfl rfl (by rw [hQ]; exact ⟨by unfold f_Msale9; simp only [if_neg q1], rfl⟩)
  · refine sw_aload_n O (xx_dt dd_X14_saleNow 75 rfl) rfl ?_
    refine sw_callVx (as := []) (st := []) (st2 := [.int (f_MwinnersKept σ B)]) O (ct_X14_winnersKept hl (z := z) (σ := σ) hbs (B := B) hB (by omega)  ) ce_X14_winnersKept ml_X14_249 iv_X14_winnersKept cl_X14 rfl (lm_mod (σ := σ)) (xx_dt dd_X14_saleNow 76 rfl) (by omega) rfl rfl (Nat.le_of_ble_eq_true rfl) rfl ?_
    refine sw_goto (tgt := 229) O (xx_dt dd_X14_saleNow 77 rfl) (by decide) ?_
    exact sw_iret O (xx_dt dd_X14_saleNow 81 rfl) rfl rfl (by rw [hQ]; exact ⟨by unfold f_Msale9; simp only [if_pos q1], rfl⟩)
def f_Msale10 (σ : XS9) (R B K C : Nat) (pk : Nat → Nat) (g : Nat) (tn sp : Nat → Nat) : Int32 := f_Cworth σ (2 ^ B - 1)
theorem ct_Msale10 {l : Launch} {h : XH} (hl : l.stackTraces = false) {z : Int64} {σ : XS9} (hbs : xx_bs h) {R : Nat} (hR : σ 5001 900 = nI R) (hR5 : R ≤ 5) {B : Nat} (hB : σ 5002 900 = nI B) (hB6 : B ≤ 6) {K : Nat} (hK : σ 5003 900 = nI K) (hK60 : K ≤ 60) {C : Nat} (hS : σ 5004 900 = nI (2 * C)) (hC10 : C ≤ 10) {pk : Nat → Nat} (hpk : ∀ j, j < B → σ (5030 + j) 900 = nI (2 * pk j) ∧ pk j ≤ 6) (hfl : σ 7000 25 = nI 0 ∨ (σ 7000 25 = nI 1 ∧ σ 7000 20 = nI 1)) {g : Nat} (hg : σ 7000 23 = nI g) (hg1 : g < 200) {w : Nat} (hw : σ 7000 24 = nI w) (hw1 : w < 200) (hkp : σ 5000 1 = 3 → ∀ j, j < B → σ 5005 j = -1 ∨ ∃ n, n < pk j ∧ σ 5005 j = nI n) {tn : Nat → Nat} (htn : ∀ r, r < 5 → σ 5007 r = nI (tn r) ∧ tn r < 6) {sp : Nat → Nat} (hsp : ∀ r, r < R → σ (5010 + r) 0 = nI (sp r) ∧ sp r ≤ 5) (hc : σ 9000 20 = nI 1)  : XEx l m_X14_saleNow 9 0 0 [.ref 5000, .int 10, .ref 9000] (setM z σ h) (some (.int (f_Msale10 σ R B K C pk g tn sp))) (setM z σ h) := by
  refine XMet.of hl rfl rfl (Nat.le_of_ble_eq_true rfl) (fun Y O hh hQ => ?_)
  show SW Y 0 0 (setM z σ h) 0 [.ref 5000, .int 10, .ref 9000, xx_d, xx_d, xx_d] []
  refine sw_iconst (x := 0) O (xx_dt dd_X14_saleNow 0 rfl) (by decide) ?_
  refine sw_istore_n (ls2 := [.ref 5000, .int 10, .ref 9000, .int 0, xx_d, xx_d]) O (xx_dt dd_X14_saleNow 1 rfl) (by decide) rfl ?_
  refine sw_iload_n O (xx_dt dd_X14_saleNow 2 rfl) rfl ?_
  refine sw_tableIn (off := 227) (tgt := 230) O (xx_dt dd_X14_saleNow 3 rfl) (by decide) (by decide) rfl (by decide) ?_
  refine sw_aload_n O (xx_dt dd_X14_saleNow 82 rfl) rfl ?_
  refine sw_aload_n O (xx_dt dd_X14_saleNow 83 rfl) rfl ?_
  have hq232 := pow_le6 hB6
  refine sw_callVx (as := []) (st := [.ref 9000]) (st2 := [.int (nI (2 ^ B - 1)), .ref 9000]) O (ct_X10_all hl (z := z) (σ := σ) hbs hc (B := B) hB (by omega)) ce_X10_all ml_X14_362 iv_X10_all cl_X10 rfl (lm_9000 (σ := σ) (fl1 hc)) (xx_dt dd_X14_saleNow 84 rfl) (by omega) rfl rfl (Nat.le_of_ble_eq_true rfl) rfl ?_
  refine sw_callVx (as := [.int (nI (2 ^ B - 1))]) (st := []) (st2 := [.int (f_Cworth σ (2 ^ B - 1))]) O (ct_X10_worth hl (z := z) (σ := σ) hbs hc (S := 2 ^ B - 1) (by first | omega | assumption)) ce_X10_worth ml_X14_365 iv_X10_worth cl_X10 rfl (lm_9000 (σ := σ) (fl1 hc)) (xx_dt dd_X14_saleNow 85 rfl) (by omega) rfl rfl (Nat.le_of_ble_eq_true rfl) rfl ?_
  exact sw_iret O (xx_dt dd_X14_saleNow 86 rfl) rfl rfl (by rw [hQ]; exact ⟨by unfold f_Msale10; rfl, rfl⟩)
def x_Msale11_242 (σ : XS9) (R B K C : Nat) (pk : Nat → Nat) (g : Nat) (tn sp : Nat → Nat) (s0 : Int32) : Int32 := xit (fun i242 s242 => s242 + (f_Mdue σ i242 B)) B 0 s0
def f_Msale11 (σ : XS9) (R B K C : Nat) (pk : Nat → Nat) (g : Nat) (tn sp : Nat → Nat) : Int32 := (x_Msale11_242 σ R B K C pk g tn sp 0)
theorem ct_Msale11 {l : Launch} {h : XH} (hl : l.stackTraces = false) {z : Int64} {σ : XS9} (hbs : xx_bs h) {R : Nat} (hR : σ 5001 900 = nI R) (hR5 : R ≤ 5) {B : Nat} (hB : σ 5002 900 = nI B) (hB6 : B ≤ 6) {K : Nat} (hK : σ 5003 900 = nI K) (hK60 : K ≤ 60) {C : Nat} (hS : σ 5004 900 = nI (2 * C)) (hC10 : C ≤ 10) {pk : Nat → Nat} (hpk : ∀ j, j < B → σ (5030 + j) 900 = nI (2 * pk j) ∧ pk j ≤ 6) (hfl : σ 7000 25 = nI 0 ∨ (σ 7000 25 = nI 1 ∧ σ 7000 20 = nI 1)) {g : Nat} (hg : σ 7000 23 = nI g) (hg1 : g < 200) {w : Nat} (hw : σ 7000 24 = nI w) (hw1 : w < 200) (hkp : σ 5000 1 = 3 → ∀ j, j < B → σ 5005 j = -1 ∨ ∃ n, n < pk j ∧ σ 5005 j = nI n) {tn : Nat → Nat} (htn : ∀ r, r < 5 → σ 5007 r = nI (tn r) ∧ tn r < 6) {sp : Nat → Nat} (hsp : ∀ r, r < R → σ (5010 + r) 0 = nI (sp r) ∧ sp r ≤ 5) (hc : σ 9000 20 = nI 1)  : XEx l m_X14_saleNow 9 0 0 [.ref 5000, .int 11, .ref 9000] (setM z σ h) (some (.int (f_Msale11 σ R B K C pk g tn sp))) (setM z σ h) := by
  refine XMet.of hl rfl rfl (Nat.le_of_ble_eq_true rfl) (fun Y O hh hQ => ?_)
  show SW Y 0 0 (setM z σ h) 0 [.ref 5000, .int 11, .ref 9000, xx_d, xx_d, xx_d] []
  refine sw_iconst (x := 0) O (xx_dt dd_X14_saleNow 0 rfl) (by decide) ?_
  refine sw_istore_n (ls2 := [.ref 5000, .int 11, .ref 9000, .int 0, xx_d, xx_d]) O (xx_dt dd_X14_saleNow 1 rfl) (by decide) rfl ?_
  refine sw_iload_n O (xx_dt dd_X14_saleNow 2 rfl) rfl ?_
  refine sw_tableIn (off := 236) (tgt := 239) O (xx_dt dd_X14_saleNow 3 rfl) (by decide) (by decide) rfl (by decide) ?_
  refine sw_iconst (x := 0) O (xx_dt dd_X14_saleNow 87 rfl) (by decide) ?_
  refine sw_istore (ls2 := [.ref 5000, .int 11, .ref 9000, .int 0, .int 0, xx_d]) O (xx_dt dd_X14_saleNow 88 rfl) (by decide) rfl ?_
  refine sw_for (S := Int32) (fun i242 s242 => s242 + (f_Mdue σ i242 B)) (fun _ _ => True) (hp := fun _ => setM z σ h) (hd := 242) (lc := fun i242 s242 => [.ref 5000, .int 11, .ref 9000, .int s242, .int (nI i242), xx_d]) (N := B) (fun i242 s242 hi242 hP242 => ⟨trivial, fun kk242 => ?_⟩) B 0 0 (by omega) (trivial) (fun hP242 => ?_)
  · refine sw_iload O (xx_dt dd_X14_saleNow 89 rfl) rfl ?_
    refine sw_aload_n O (xx_dt dd_X14_saleNow 90 rfl) rfl ?_
    refine sw_get (v := .ref 5002) O (xx_dt dd_X14_saleNow 91 rfl) cl_X14 fl_X14_27 (lm_mod (σ := σ)) (by decide) rfl ?_
    refine sw_callVL (ci := 6) (as := []) (st := [.int (nI i242)]) (st2 := [.int (nI B), .int (nI i242)]) O (ct_AL_size hl (lm_5002 (σ := σ) (B := B) hB (by omega))) ce_Jx4a65c_size_8abf5 ml_X14_57 iv_Jx4a65c_size_8abf5 cl_Jx4a65c rfl (lm_5002 (σ := σ) (B := B) hB (by omega)) (xx_dt dd_X14_saleNow 92 rfl) (by omega) rfl rfl (Nat.le_of_ble_eq_true rfl) rfl ?_
    refine sw_icmp_ge (tgt := 269) O (xx_dt dd_X14_saleNow 93 rfl) (by decide) (fun q1 => ?_) (fun q1 => ?_)
    · exact absurd q1 (nI_ge (b := B) hi242 (by omega))
    · refine sw_iload_n O (xx_dt dd_X14_saleNow 94 rfl) rfl ?_
      refine sw_aload_n O (xx_dt dd_X14_saleNow 95 rfl) rfl ?_
      refine sw_iload O (xx_dt dd_X14_saleNow 96 rfl) rfl ?_
      refine sw_callVx (as := [.int (nI i242)]) (st := [.int s242]) (st2 := [.int (f_Mdue σ i242 B), .int s242]) O (ct_X14_due hl (z := z) (σ := σ) hbs (B := B) hB (by omega) (i := i242) (by omega)) ce_X14_due ml_X14_323 iv_X14_due cl_X14 rfl (lm_mod (σ := σ)) (xx_dt dd_X14_saleNow 97 rfl) (by omega) rfl rfl (Nat.le_of_ble_eq_true rfl) rfl ?_
      refine sw_iadd O (xx_dt dd_X14_saleNow 98 rfl) ?_
      refine sw_istore_n (ls2 := [.ref 5000, .int 11, .ref 9000, .int (s242 + (f_Mdue σ i242 B)), .int (nI i242), xx_d]) O (xx_dt dd_X14_saleNow 99 rfl) (by decide) rfl ?_
      refine sw_iinc (y := nI (i242 + 1)) (ls2 := [.ref 5000, .int 11, .ref 9000, .int (s242 + (f_Mdue σ i242 B)), .int (nI (i242 + 1)), xx_d]) O (xx_dt dd_X14_saleNow 100 rfl) rfl (nI_1 _) (by decide) rfl ?_
      refine sw_goto (tgt := 242) O (xx_dt dd_X14_saleNow 101 rfl) (by decide) ?_
      exact kk242
  · show SW Y _ _ (setM z σ h) 242 [.ref 5000, .int 11, .ref 9000, .int (x_Msale11_242 σ R B K C pk g tn sp 0), .int (nI B), xx_d] []
    refine sw_iload O (xx_dt dd_X14_saleNow 89 rfl) rfl ?_
    refine sw_aload_n O (xx_dt dd_X14_saleNow 90 rfl) rfl ?_
    refine sw_get (v := .ref 5002) O (xx_dt dd_X14_saleNow 91 rfl) cl_X14 fl_X14_27 (lm_mod (σ := σ)) (by decide) rfl ?_
    refine sw_callVL (ci := 6) (as := []) (st := [.int (nI B)]) (st2 := [.int (nI B), .int (nI B)]) O (ct_AL_size hl (lm_5002 (σ := σ) (B := B) hB (by omega))) ce_Jx4a65c_size_8abf5 ml_X14_57 iv_Jx4a65c_size_8abf5 cl_Jx4a65c rfl (lm_5002 (σ := σ) (B := B) hB (by omega)) (xx_dt dd_X14_saleNow 92 rfl) (by omega) rfl rfl (Nat.le_of_ble_eq_true rfl) rfl ?_
    refine sw_icmp_ge (tgt := 269) O (xx_dt dd_X14_saleNow 93 rfl) (by decide) (fun q1 => ?_) (fun q1 => ?_)
    · refine sw_iload_n O (xx_dt dd_X14_saleNow 102 rfl) rfl ?_
      exact sw_iret O (xx_dt dd_X14_saleNow 103 rfl) rfl rfl (by rw [hQ]; exact ⟨by unfold f_Msale11; rfl, rfl⟩)
    · exact absurd (Int32.le_refl _) q1
def f_Msale12 (σ : XS9) (R B K C : Nat) (pk : Nat → Nat) (g : Nat) (tn sp : Nat → Nat) : Int32 := σ 5000 5
theorem ct_Msale12 {l : Launch} {h : XH} (hl : l.stackTraces = false) {z : Int64} {σ : XS9} (hbs : xx_bs h) {R : Nat} (hR : σ 5001 900 = nI R) (hR5 : R ≤ 5) {B : Nat} (hB : σ 5002 900 = nI B) (hB6 : B ≤ 6) {K : Nat} (hK : σ 5003 900 = nI K) (hK60 : K ≤ 60) {C : Nat} (hS : σ 5004 900 = nI (2 * C)) (hC10 : C ≤ 10) {pk : Nat → Nat} (hpk : ∀ j, j < B → σ (5030 + j) 900 = nI (2 * pk j) ∧ pk j ≤ 6) (hfl : σ 7000 25 = nI 0 ∨ (σ 7000 25 = nI 1 ∧ σ 7000 20 = nI 1)) {g : Nat} (hg : σ 7000 23 = nI g) (hg1 : g < 200) {w : Nat} (hw : σ 7000 24 = nI w) (hw1 : w < 200) (hkp : σ 5000 1 = 3 → ∀ j, j < B → σ 5005 j = -1 ∨ ∃ n, n < pk j ∧ σ 5005 j = nI n) {tn : Nat → Nat} (htn : ∀ r, r < 5 → σ 5007 r = nI (tn r) ∧ tn r < 6) {sp : Nat → Nat} (hsp : ∀ r, r < R → σ (5010 + r) 0 = nI (sp r) ∧ sp r ≤ 5) (hc : σ 9000 20 = nI 1)  : XEx l m_X14_saleNow 9 0 0 [.ref 5000, .int 12, .ref 9000] (setM z σ h) (some (.int (f_Msale12 σ R B K C pk g tn sp))) (setM z σ h) := by
  refine XMet.of hl rfl rfl (Nat.le_of_ble_eq_true rfl) (fun Y O hh hQ => ?_)
  show SW Y 0 0 (setM z σ h) 0 [.ref 5000, .int 12, .ref 9000, xx_d, xx_d, xx_d] []
  refine sw_iconst (x := 0) O (xx_dt dd_X14_saleNow 0 rfl) (by decide) ?_
  refine sw_istore_n (ls2 := [.ref 5000, .int 12, .ref 9000, .int 0, xx_d, xx_d]) O (xx_dt dd_X14_saleNow 1 rfl) (by decide) rfl ?_
  refine sw_iload_n O (xx_dt dd_X14_saleNow 2 rfl) rfl ?_
  refine sw_tableIn (off := 268) (tgt := 271) O (xx_dt dd_X14_saleNow 3 rfl) (by decide) (by decide) rfl (by decide) ?_
  refine sw_aload_n O (xx_dt dd_X14_saleNow 104 rfl) rfl ?_
  refine sw_get (v := .int (σ 5000 5)) O (xx_dt dd_X14_saleNow 105 rfl) cl_X14 fl_X14_255 (lm_mod (σ := σ)) (by decide) rfl ?_
  exact sw_iret O (xx_dt dd_X14_saleNow 106 rfl) rfl rfl (by rw [hQ]; exact ⟨by unfold f_Msale12; rfl, rfl⟩)
def x_Msale13_302 (σ : XS9) (R B K C : Nat) (pk : Nat → Nat) (g : Nat) (tn sp : Nat → Nat) (i279 : Nat) (s0 : Int32) : Int32 := xit (fun i302 s302 => (if (((σ (5010 + i279) 3) >>> ((nI i302) &&& 31)) &&& 1) = 1 then s302 + (f_Mclashes σ i279 (tn i279) i302 (tn i302) B sp) else s302)) i279 0 s0
def x_Msale13_279 (σ : XS9) (R B K C : Nat) (pk : Nat → Nat) (g : Nat) (tn sp : Nat → Nat) (s0 : Int32) : Int32 := xitB (fun i279 s279 => (if (σ 5000 1) = 3 then .inl (x_Msale13_302 σ R B K C pk g tn sp i279 s279) else .inr s279)) R 0 s0
def f_Msale13 (σ : XS9) (R B K C : Nat) (pk : Nat → Nat) (g : Nat) (tn sp : Nat → Nat) : Int32 := (x_Msale13_279 σ R B K C pk g tn sp 0)
theorem ct_Msale13 {l : Launch} {h : XH} (hl : l.stackTraces = false) {z : Int64} {σ : XS9} (hbs : xx_bs h) {R : Nat} (hR : σ 5001 900 = nI R) (hR5 : R ≤ 5) {B : Nat} (hB : σ 5002 900 = nI B) (hB6 : B ≤ 6) {K : Nat} (hK : σ 5003 900 = nI K) (hK60 : K ≤ 60) {C : Nat} (hS : σ 5004 900 = nI (2 * C)) (hC10 : C ≤ 10) {pk : Nat → Nat} (hpk : ∀ j, j < B → σ (5030 + j) 900 = nI (2 * pk j) ∧ pk j ≤ 6) (hfl : σ 7000 25 = nI 0 ∨ (σ 7000 25 = nI 1 ∧ σ 7000 20 = nI 1)) {g : Nat} (hg : σ 7000 23 = nI g) (hg1 : g < 200) {w : Nat} (hw : σ 7000 24 = nI w) (hw1 : w < 200) (hkp : σ 5000 1 = 3 → ∀ j, j < B → σ 5005 j = -1 ∨ ∃ n, n < pk j ∧ σ 5005 j = nI n) {tn : Nat → Nat} (htn : ∀ r, r < 5 → σ 5007 r = nI (tn r) ∧ tn r < 6) {sp : Nat → Nat} (hsp : ∀ r, r < R → σ (5010 + r) 0 = nI (sp r) ∧ sp r ≤ 5) (hc : σ 9000 20 = nI 1)  : XEx l m_X14_saleNow 9 0 0 [.ref 5000, .int 13, .ref 9000] (setM z σ h) (some (.int (f_Msale13 σ R B K C pk g tn sp))) (setM z σ h) := by
  refine XMet.of hl rfl rfl (Nat.le_of_ble_eq_true rfl) (fun Y O hh hQ => ?_)
  show SW Y 0 0 (setM z σ h) 0 [.ref 5000, .int 13, .ref 9000, xx_d, xx_d, xx_d] []
  refine sw_iconst (x := 0) O (xx_dt dd_X14_saleNow 0 rfl) (by decide) ?_
  refine sw_istore_n (ls2 := [.ref 5000, .int 13, .ref 9000, .int 0, xx_d, xx_d]) O (xx_dt dd_X14_saleNow 1 rfl) (by decide) rfl ?_
  refine sw_iload_n O (xx_dt dd_X14_saleNow 2 rfl) rfl ?_
  refine sw_tableIn (off := 273) (tgt := 276) O (xx_dt dd_X14_saleNow 3 rfl) (by decide) (by decide) rfl (by decide) ?_
  refine sw_iconst (x := 0) O (xx_dt dd_X14_saleNow 107 rfl) (by decide) ?_
  refine sw_istore (ls2 := [.ref 5000, .int 13, .ref 9000, .int 0, .int 0, xx_d]) O (xx_dt dd_X14_saleNow 108 rfl) (by decide) rfl ?_
  refine sw_forB (S := Int32) (fun i279 s279 => (if (σ 5000 1) = 3 then .inl (x_Msale13_302 σ R B K C pk g tn sp i279 s279) else .inr s279)) (fun _ _ => True) (fun _ => True) (hp := fun _ => setM z σ h) (hd := 279) (lc := fun i279 s279 => [.ref 5000, .int 13, .ref 9000, .int s279, .int (nI i279), xx_d]) (ex := 370) (lx := fun s279 => [.ref 5000, .int 13, .ref 9000, .int s279, xx_d, xx_d]) (N := R) (fun i279 s279 hi279 hP279 => ⟨⟨(fun _ _ => trivial), (fun _ _ => trivial)⟩, fun kk279 kb279 => ?_⟩) (fun s279 hP279 => ⟨hP279, fun kx279 => ?_⟩) R 0 0 (by omega) (trivial) (fun hP279 => ?_)
  · refine sw_iload O (xx_dt dd_X14_saleNow 109 rfl) rfl ?_
    refine sw_aload_n O (xx_dt dd_X14_saleNow 110 rfl) rfl ?_
    refine sw_get (v := .ref 5001) O (xx_dt dd_X14_saleNow 111 rfl) cl_X14 fl_X14_23 (lm_mod (σ := σ)) (by decide) rfl ?_
    refine sw_callVL (ci := 6) (as := []) (st := [.int (nI i279)]) (st2 := [.int (nI R), .int (nI i279)]) O (ct_AL_size hl (lm_5001 (σ := σ) (R := R) hR (by omega))) ce_Jx4a65c_size_8abf5 ml_X14_57 iv_Jx4a65c_size_8abf5 cl_Jx4a65c rfl (lm_5001 (σ := σ) (R := R) hR (by omega)) (xx_dt dd_X14_saleNow 112 rfl) (by omega) rfl rfl (Nat.le_of_ble_eq_true rfl) rfl ?_
    refine sw_icmp_ge (tgt := 370) O (xx_dt dd_X14_saleNow 113 rfl) (by decide) (fun q1 => ?_) (fun q1 => ?_)
    · exact absurd q1 (nI_ge (b := R) hi279 (by omega))
    · refine sw_aload_n O (xx_dt dd_X14_saleNow 114 rfl) rfl ?_
      refine sw_get (v := .int (σ 5000 1)) O (xx_dt dd_X14_saleNow 115 rfl) cl_X14 fl_X14_77 (lm_mod (σ := σ)) (by decide) rfl ?_
      refine sw_iconst (x := 3) O (xx_dt dd_X14_saleNow 116 rfl) (by decide) ?_
      refine sw_icmp_ne (tgt := 370) O (xx_dt dd_X14_saleNow 117 rfl) (by decide) (fun q2 => ?_) (fun q2 => ?_)
      · refine sw_dum (ls2 := [.ref 5000, .int 13, .ref 9000, .int s279, xx_d, xx_d]) ⟨.inr rfl, .inr rfl, .inr rfl, .inr rfl, .inl rfl, .inr rfl, trivial⟩ ?_
        exact kb279 s279 (by simp only [if_neg q2])
      · refine sw_iconst (x := 0) O (xx_dt dd_X14_saleNow 118 rfl) (by decide) ?_
        refine sw_istore (ls2 := [.ref 5000, .int 13, .ref 9000, .int s279, .int (nI i279), .int 0]) O (xx_dt dd_X14_saleNow 119 rfl) (by decide) rfl ?_
        refine sw_for (S := Int32) (fun i302 s302 => (if (((σ (5010 + i279) 3) >>> ((nI i302) &&& 31)) &&& 1) = 1 then s302 + (f_Mclashes σ i279 (tn i279) i302 (tn i302) B sp) else s302)) (fun _ _ => True) (hp := fun _ => setM z σ h) (hd := 302) (lc := fun i302 s302 => [.ref 5000, .int 13, .ref 9000, .int s302, .int (nI i279), .int (nI i302)]) (N := i279) (fun i302 s302 hi302 hP302 => ⟨trivial, fun kk302 => ?_⟩) i279 0 s279 (by omega) (trivial) (fun hP302 => ?_)
        · refine sw_iload O (xx_dt dd_X14_saleNow 120 rfl) rfl ?_
          refine sw_iload O (xx_dt dd_X14_saleNow 121 rfl) rfl ?_
          refine sw_icmp_ge (tgt := 364) O (xx_dt dd_X14_saleNow 122 rfl) (by decide) (fun q3 => ?_) (fun q3 => ?_)
          · exact absurd q3 (nI_ge (b := i279) hi302 (by omega))
          · refine sw_aload_n O (xx_dt dd_X14_saleNow 123 rfl) rfl ?_
            refine sw_get (v := .ref 5001) O (xx_dt dd_X14_saleNow 124 rfl) cl_X14 fl_X14_23 (lm_mod (σ := σ)) (by decide) rfl ?_
            refine sw_iload O (xx_dt dd_X14_saleNow 125 rfl) rfl ?_
            refine sw_callVL (ci := 6) (as := [.int (nI i279)]) (st := []) (st2 := [.ref (5010 + i279)]) O (ct_get hl hbs (lm_5001 (σ := σ) (R := R) hR (by omega)) (by omega) (i := i279) (x := 5010 + i279) (by omega) (by omega) rfl) ce_Jx4a65c_get_915e3 ml_X14_61 iv_Jx4a65c_get_915e3 cl_Jx4a65c rfl (lm_5001 (σ := σ) (R := R) hR (by omega)) (xx_dt dd_X14_saleNow 126 rfl) (by omega) rfl rfl (Nat.le_of_ble_eq_true rfl) rfl ?_
            refine sw_castO O (xx_dt dd_X14_saleNow 127 rfl) cl_X12 (lm_reg (σ := σ) (R := R) hR (by omega) (j := i279) (by omega)) cw_X14_65 ?_
            refine sw_get (v := .int (σ (5010 + i279) 3)) O (xx_dt dd_X14_saleNow 128 rfl) cl_X12 fl_X14_95 (lm_reg (σ := σ) (R := R) hR (by omega) (j := i279) (by omega)) (by decide) rfl ?_
            refine sw_iload O (xx_dt dd_X14_saleNow 129 rfl) rfl ?_
            refine sw_ishr O (xx_dt dd_X14_saleNow 130 rfl) ?_
            refine sw_iconst (x := 1) O (xx_dt dd_X14_saleNow 131 rfl) (by decide) ?_
            refine sw_iand O (xx_dt dd_X14_saleNow 132 rfl) ?_
            refine sw_iconst (x := 1) O (xx_dt dd_X14_saleNow 133 rfl) (by decide) ?_
            refine sw_icmp_ne (tgt := 358) O (xx_dt dd_X14_saleNow 134 rfl) (by decide) (fun q4 => ?_) (fun q4 => ?_)
            · refine sw_iinc (y := nI (i302 + 1)) (ls2 := [.ref 5000, .int 13, .ref 9000, .int s302, .int (nI i279), .int (nI (i302 + 1))]) O (xx_dt dd_X14_saleNow 150 rfl) rfl (nI_1 _) (by decide) rfl ?_
              refine sw_goto (tgt := 302) O (xx_dt dd_X14_saleNow 151 rfl) (by decide) ?_
              simp only [if_neg q4] at kk302
              exact kk302
            · refine sw_iload_n O (xx_dt dd_X14_saleNow 135 rfl) rfl ?_
              refine sw_aload_n O (xx_dt dd_X14_saleNow 136 rfl) rfl ?_
              refine sw_iload O (xx_dt dd_X14_saleNow 137 rfl) rfl ?_
              refine sw_aload_n O (xx_dt dd_X14_saleNow 138 rfl) rfl ?_
              refine sw_get (v := .ref 5007) O (xx_dt dd_X14_saleNow 139 rfl) cl_X14 fl_X14_43 (lm_mod (σ := σ)) (by decide) rfl ?_
              refine sw_iload O (xx_dt dd_X14_saleNow 140 rfl) rfl ?_
              have hz343 := (htn i279 (by omega)).2
              refine sw_iaload (v := .int (nI (tn i279))) O (xx_dt dd_X14_saleNow 141 rfl) ((im_5007 (z := z) (σ := σ)).get _) (pk_in i279 _ (by omega)) (by rw [nI_clamp (by omega)]; exact (congrArg Value.int (htn i279 (by omega)).1)) ?_
              refine sw_iload O (xx_dt dd_X14_saleNow 142 rfl) rfl ?_
              refine sw_aload_n O (xx_dt dd_X14_saleNow 143 rfl) rfl ?_
              refine sw_get (v := .ref 5007) O (xx_dt dd_X14_saleNow 144 rfl) cl_X14 fl_X14_43 (lm_mod (σ := σ)) (by decide) rfl ?_
              refine sw_iload O (xx_dt dd_X14_saleNow 145 rfl) rfl ?_
              have hz352 := (htn i302 (by omega)).2
              refine sw_iaload (v := .int (nI (tn i302))) O (xx_dt dd_X14_saleNow 146 rfl) ((im_5007 (z := z) (σ := σ)).get _) (pk_in i302 _ (by omega)) (by rw [nI_clamp (by omega)]; exact (congrArg Value.int (htn i302 (by omega)).1)) ?_
              refine sw_callVx (as := [.int (nI i279), .int (nI (tn i279)), .int (nI i302), .int (nI (tn i302))]) (st := [.int s302]) (st2 := [.int (f_Mclashes σ i279 (tn i279) i302 (tn i302) B sp), .int s302]) O (ct_X14_clashes hl (z := z) (σ := σ) hbs (R := R) hR (by omega) (B := B) hB (by omega) (pk := pk) hpk (hkp q2) (sp := sp) hsp (r := i279) (tn := tn i279) (r2 := i302) (tn2 := tn i302) (by omega) (by omega) (by omega) (by omega)) ce_X14_clashes ml_X14_236 iv_X14_clashes cl_X14 rfl (lm_mod (σ := σ)) (xx_dt dd_X14_saleNow 147 rfl) (by omega) rfl rfl (Nat.le_of_ble_eq_true rfl) rfl ?_
              refine sw_iadd O (xx_dt dd_X14_saleNow 148 rfl) ?_
              refine sw_istore_n (ls2 := [.ref 5000, .int 13, .ref 9000, .int (s302 + (f_Mclashes σ i279 (tn i279) i302 (tn i302) B sp)), .int (nI i279), .int (nI i302)]) O (xx_dt dd_X14_saleNow 149 rfl) (by decide) rfl ?_
              refine sw_iinc (y := nI (i302 + 1)) (ls2 := [.ref 5000, .int 13, .ref 9000, .int (s302 + (f_Mclashes σ i279 (tn i279) i302 (tn i302) B sp)), .int (nI i279), .int (nI (i302 + 1))]) O (xx_dt dd_X14_saleNow 150 rfl) rfl (nI_1 _) (by decide) rfl ?_
              refine sw_goto (tgt := 302) O (xx_dt dd_X14_saleNow 151 rfl) (by decide) ?_
              simp only [if_pos q4] at kk302
              exact kk302
        · show SW Y _ _ (setM z σ h) 302 [.ref 5000, .int 13, .ref 9000, .int (x_Msale13_302 σ R B K C pk g tn sp i279 s279), .int (nI i279), .int (nI i279)] []
          refine sw_iload O (xx_dt dd_X14_saleNow 120 rfl) rfl ?_
          refine sw_iload O (xx_dt dd_X14_saleNow 121 rfl) rfl ?_
          refine sw_icmp_ge (tgt := 364) O (xx_dt dd_X14_saleNow 122 rfl) (by decide) (fun q3 => ?_) (fun q3 => ?_)
          · refine sw_iinc (y := nI (i279 + 1)) (ls2 := [.ref 5000, .int 13, .ref 9000, .int (x_Msale13_302 σ R B K C pk g tn sp i279 s279), .int (nI (i279 + 1)), .int (nI i279)]) O (xx_dt dd_X14_saleNow 152 rfl) rfl (nI_1 _) (by decide) rfl ?_
            refine sw_goto (tgt := 279) O (xx_dt dd_X14_saleNow 153 rfl) (by decide) ?_
            refine sw_dum (ls2 := [.ref 5000, .int 13, .ref 9000, .int (x_Msale13_302 σ R B K C pk g tn sp i279 s279), .int (nI (i279 + 1)), xx_d]) ⟨.inr rfl, .inr rfl, .inr rfl, .inr rfl, .inr rfl, .inl rfl, trivial⟩ ?_
            exact kk279 (x_Msale13_302 σ R B K C pk g tn sp i279 s279) (by simp only [if_pos q2])
          · exact absurd (Int32.le_refl _) q3
  · show SW Y _ _ (setM z σ h) 279 [.ref 5000, .int 13, .ref 9000, .int s279, .int (nI R), xx_d] []
    refine sw_iload O (xx_dt dd_X14_saleNow 109 rfl) rfl ?_
    refine sw_aload_n O (xx_dt dd_X14_saleNow 110 rfl) rfl ?_
    refine sw_get (v := .ref 5001) O (xx_dt dd_X14_saleNow 111 rfl) cl_X14 fl_X14_23 (lm_mod (σ := σ)) (by decide) rfl ?_
    refine sw_callVL (ci := 6) (as := []) (st := [.int (nI R)]) (st2 := [.int (nI R), .int (nI R)]) O (ct_AL_size hl (lm_5001 (σ := σ) (R := R) hR (by omega))) ce_Jx4a65c_size_8abf5 ml_X14_57 iv_Jx4a65c_size_8abf5 cl_Jx4a65c rfl (lm_5001 (σ := σ) (R := R) hR (by omega)) (xx_dt dd_X14_saleNow 112 rfl) (by omega) rfl rfl (Nat.le_of_ble_eq_true rfl) rfl ?_
    refine sw_icmp_ge (tgt := 370) O (xx_dt dd_X14_saleNow 113 rfl) (by decide) (fun q1 => ?_) (fun q1 => ?_)
    · refine sw_dum (ls2 := [.ref 5000, .int 13, .ref 9000, .int s279, xx_d, xx_d]) ⟨.inr rfl, .inr rfl, .inr rfl, .inr rfl, .inl rfl, .inr rfl, trivial⟩ ?_
      exact kx279
    · exact absurd (Int32.le_refl _) q1
  · show SW Y _ _ (setM z σ h) 370 [.ref 5000, .int 13, .ref 9000, .int (x_Msale13_279 σ R B K C pk g tn sp 0), xx_d, xx_d] []
    refine sw_iload_n O (xx_dt dd_X14_saleNow 154 rfl) rfl ?_
    exact sw_iret O (xx_dt dd_X14_saleNow 155 rfl) rfl rfl (by rw [hQ]; exact ⟨by unfold f_Msale13; rfl, rfl⟩)
def f_Msale14 (σ : XS9) (R B K C : Nat) (pk : Nat → Nat) (g : Nat) (tn sp : Nat → Nat) : Int32 := f_Msignals σ R B pk
theorem ct_Msale14 {l : Launch} {h : XH} (hl : l.stackTraces = false) {z : Int64} {σ : XS9} (hbs : xx_bs h) {R : Nat} (hR : σ 5001 900 = nI R) (hR5 : R ≤ 5) {B : Nat} (hB : σ 5002 900 = nI B) (hB6 : B ≤ 6) {K : Nat} (hK : σ 5003 900 = nI K) (hK60 : K ≤ 60) {C : Nat} (hS : σ 5004 900 = nI (2 * C)) (hC10 : C ≤ 10) {pk : Nat → Nat} (hpk : ∀ j, j < B → σ (5030 + j) 900 = nI (2 * pk j) ∧ pk j ≤ 6) (hfl : σ 7000 25 = nI 0 ∨ (σ 7000 25 = nI 1 ∧ σ 7000 20 = nI 1)) {g : Nat} (hg : σ 7000 23 = nI g) (hg1 : g < 200) {w : Nat} (hw : σ 7000 24 = nI w) (hw1 : w < 200) (hkp : σ 5000 1 = 3 → ∀ j, j < B → σ 5005 j = -1 ∨ ∃ n, n < pk j ∧ σ 5005 j = nI n) {tn : Nat → Nat} (htn : ∀ r, r < 5 → σ 5007 r = nI (tn r) ∧ tn r < 6) {sp : Nat → Nat} (hsp : ∀ r, r < R → σ (5010 + r) 0 = nI (sp r) ∧ sp r ≤ 5) (hc : σ 9000 20 = nI 1)  : XEx l m_X14_saleNow 9 0 0 [.ref 5000, .int 14, .ref 9000] (setM z σ h) (some (.int (f_Msale14 σ R B K C pk g tn sp))) (setM z σ h) := by
  refine XMet.of hl rfl rfl (Nat.le_of_ble_eq_true rfl) (fun Y O hh hQ => ?_)
  show SW Y 0 0 (setM z σ h) 0 [.ref 5000, .int 14, .ref 9000, xx_d, xx_d, xx_d] []
  refine sw_iconst (x := 0) O (xx_dt dd_X14_saleNow 0 rfl) (by decide) ?_
  refine sw_istore_n (ls2 := [.ref 5000, .int 14, .ref 9000, .int 0, xx_d, xx_d]) O (xx_dt dd_X14_saleNow 1 rfl) (by decide) rfl ?_
  refine sw_iload_n O (xx_dt dd_X14_saleNow 2 rfl) rfl ?_
  refine sw_tableIn (off := 369) (tgt := 372) O (xx_dt dd_X14_saleNow 3 rfl) (by decide) (by decide) rfl (by decide) ?_
  refine sw_aload_n O (xx_dt dd_X14_saleNow 156 rfl) rfl ?_
  refine sw_callVx (as := []) (st := []) (st2 := [.int (f_Msignals σ R B pk)]) O (ct_X14_signals hl (z := z) (σ := σ) hbs (R := R) hR (by omega) (B := B) hB (by omega) (pk := pk) hpk  ) ce_X14_signals ml_X14_368 iv_X14_signals cl_X14 rfl (lm_mod (σ := σ)) (xx_dt dd_X14_saleNow 157 rfl) (by omega) rfl rfl (Nat.le_of_ble_eq_true rfl) rfl ?_
  exact sw_iret O (xx_dt dd_X14_saleNow 158 rfl) rfl rfl (by rw [hQ]; exact ⟨by unfold f_Msale14; rfl, rfl⟩)
def f_Msale15 (σ : XS9) (R B K C : Nat) (pk : Nat → Nat) (g : Nat) (tn sp : Nat → Nat) : Int32 := nI K
theorem ct_Msale15 {l : Launch} {h : XH} (hl : l.stackTraces = false) {z : Int64} {σ : XS9} (hbs : xx_bs h) {R : Nat} (hR : σ 5001 900 = nI R) (hR5 : R ≤ 5) {B : Nat} (hB : σ 5002 900 = nI B) (hB6 : B ≤ 6) {K : Nat} (hK : σ 5003 900 = nI K) (hK60 : K ≤ 60) {C : Nat} (hS : σ 5004 900 = nI (2 * C)) (hC10 : C ≤ 10) {pk : Nat → Nat} (hpk : ∀ j, j < B → σ (5030 + j) 900 = nI (2 * pk j) ∧ pk j ≤ 6) (hfl : σ 7000 25 = nI 0 ∨ (σ 7000 25 = nI 1 ∧ σ 7000 20 = nI 1)) {g : Nat} (hg : σ 7000 23 = nI g) (hg1 : g < 200) {w : Nat} (hw : σ 7000 24 = nI w) (hw1 : w < 200) (hkp : σ 5000 1 = 3 → ∀ j, j < B → σ 5005 j = -1 ∨ ∃ n, n < pk j ∧ σ 5005 j = nI n) {tn : Nat → Nat} (htn : ∀ r, r < 5 → σ 5007 r = nI (tn r) ∧ tn r < 6) {sp : Nat → Nat} (hsp : ∀ r, r < R → σ (5010 + r) 0 = nI (sp r) ∧ sp r ≤ 5) (hc : σ 9000 20 = nI 1)  : XEx l m_X14_saleNow 9 0 0 [.ref 5000, .int 15, .ref 9000] (setM z σ h) (some (.int (f_Msale15 σ R B K C pk g tn sp))) (setM z σ h) := by
  refine XMet.of hl rfl rfl (Nat.le_of_ble_eq_true rfl) (fun Y O hh hQ => ?_)
  show SW Y 0 0 (setM z σ h) 0 [.ref 5000, .int 15, .ref 9000, xx_d, xx_d, xx_d] []
  refine sw_iconst (x := 0) O (xx_dt dd_X14_saleNow 0 rfl) (by decide) ?_
  refine sw_istore_n (ls2 := [.ref 5000, .int 15, .ref 9000, .int 0, xx_d, xx_d]) O (xx_dt dd_X14_saleNow 1 rfl) (by decide) rfl ?_
  refine sw_iload_n O (xx_dt dd_X14_saleNow 2 rfl) rfl ?_
  refine sw_tableIn (off := 374) (tgt := 377) O (xx_dt dd_X14_saleNow 3 rfl) (by decide) (by decide) rfl (by decide) ?_
  refine sw_aload_n O (xx_dt dd_X14_saleNow 159 rfl) rfl ?_
  refine sw_get (v := .ref 5003) O (xx_dt dd_X14_saleNow 160 rfl) cl_X14 fl_X14_30 (lm_mod (σ := σ)) (by decide) rfl ?_
  refine sw_callVL (ci := 6) (as := []) (st := []) (st2 := [.int (nI K)]) O (ct_AL_size hl (lm_5003 (σ := σ) (K := K) hK (by omega))) ce_Jx4a65c_size_8abf5 ml_X14_57 iv_Jx4a65c_size_8abf5 cl_Jx4a65c rfl (lm_5003 (σ := σ) (K := K) hK (by omega)) (xx_dt dd_X14_saleNow 161 rfl) (by omega) rfl rfl (Nat.le_of_ble_eq_true rfl) rfl ?_
  exact sw_iret O (xx_dt dd_X14_saleNow 162 rfl) rfl rfl (by rw [hQ]; exact ⟨by unfold f_Msale15; rfl, rfl⟩)
def f_Msale16 (σ : XS9) (R B K C : Nat) (pk : Nat → Nat) (g : Nat) (tn sp : Nat → Nat) : Int32 := σ 5000 6
theorem ct_Msale16 {l : Launch} {h : XH} (hl : l.stackTraces = false) {z : Int64} {σ : XS9} (hbs : xx_bs h) {R : Nat} (hR : σ 5001 900 = nI R) (hR5 : R ≤ 5) {B : Nat} (hB : σ 5002 900 = nI B) (hB6 : B ≤ 6) {K : Nat} (hK : σ 5003 900 = nI K) (hK60 : K ≤ 60) {C : Nat} (hS : σ 5004 900 = nI (2 * C)) (hC10 : C ≤ 10) {pk : Nat → Nat} (hpk : ∀ j, j < B → σ (5030 + j) 900 = nI (2 * pk j) ∧ pk j ≤ 6) (hfl : σ 7000 25 = nI 0 ∨ (σ 7000 25 = nI 1 ∧ σ 7000 20 = nI 1)) {g : Nat} (hg : σ 7000 23 = nI g) (hg1 : g < 200) {w : Nat} (hw : σ 7000 24 = nI w) (hw1 : w < 200) (hkp : σ 5000 1 = 3 → ∀ j, j < B → σ 5005 j = -1 ∨ ∃ n, n < pk j ∧ σ 5005 j = nI n) {tn : Nat → Nat} (htn : ∀ r, r < 5 → σ 5007 r = nI (tn r) ∧ tn r < 6) {sp : Nat → Nat} (hsp : ∀ r, r < R → σ (5010 + r) 0 = nI (sp r) ∧ sp r ≤ 5) (hc : σ 9000 20 = nI 1)  : XEx l m_X14_saleNow 9 0 0 [.ref 5000, .int 16, .ref 9000] (setM z σ h) (some (.int (f_Msale16 σ R B K C pk g tn sp))) (setM z σ h) := by
  refine XMet.of hl rfl rfl (Nat.le_of_ble_eq_true rfl) (fun Y O hh hQ => ?_)
  show SW Y 0 0 (setM z σ h) 0 [.ref 5000, .int 16, .ref 9000, xx_d, xx_d, xx_d] []
  refine sw_iconst (x := 0) O (xx_dt dd_X14_saleNow 0 rfl) (by decide) ?_
  refine sw_istore_n (ls2 := [.ref 5000, .int 16, .ref 9000, .int 0, xx_d, xx_d]) O (xx_dt dd_X14_saleNow 1 rfl) (by decide) rfl ?_
  refine sw_iload_n O (xx_dt dd_X14_saleNow 2 rfl) rfl ?_
  refine sw_tableOut (tgt := 385) O (xx_dt dd_X14_saleNow 3 rfl) (by decide) (by decide) ?_
  refine sw_aload_n O (xx_dt dd_X14_saleNow 163 rfl) rfl ?_
  refine sw_get (v := .int (σ 5000 6)) O (xx_dt dd_X14_saleNow 164 rfl) cl_X14 fl_X14_371 (lm_mod (σ := σ)) (by decide) rfl ?_
  exact sw_iret O (xx_dt dd_X14_saleNow 165 rfl) rfl rfl (by rw [hQ]; exact ⟨by unfold f_Msale16; rfl, rfl⟩)
def f_MsaleNow (σ : XS9) (R B K C : Nat) (pk : Nat → Nat) (g : Nat) (tn sp : Nat → Nat) (v : Nat) : Int32 := match v with | 0 => f_Msale0 σ R B K C pk g tn sp | 1 => f_Msale1 σ R B K C pk g tn sp | 2 => f_Msale2 σ R B K C pk g tn sp | 3 => f_Msale3 σ R B K C pk g tn sp | 4 => f_Msale4 σ R B K C pk g tn sp | 5 => f_Msale5 σ R B K C pk g tn sp | 6 => f_Msale6 σ R B K C pk g tn sp | 7 => f_Msale7 σ R B K C pk g tn sp | 8 => f_Msale8 σ R B K C pk g tn sp | 9 => f_Msale9 σ R B K C pk g tn sp | 10 => f_Msale10 σ R B K C pk g tn sp | 11 => f_Msale11 σ R B K C pk g tn sp | 12 => f_Msale12 σ R B K C pk g tn sp | 13 => f_Msale13 σ R B K C pk g tn sp | 14 => f_Msale14 σ R B K C pk g tn sp | 15 => f_Msale15 σ R B K C pk g tn sp | _ => f_Msale16 σ R B K C pk g tn sp
theorem ct_X14_saleNow {l : Launch} {h : XH} (hl : l.stackTraces = false) {z : Int64} {σ : XS9} (hbs : xx_bs h) {R : Nat} (hR : σ 5001 900 = nI R) (hR5 : R ≤ 5) {B : Nat} (hB : σ 5002 900 = nI B) (hB6 : B ≤ 6) {K : Nat} (hK : σ 5003 900 = nI K) (hK60 : K ≤ 60) {C : Nat} (hS : σ 5004 900 = nI (2 * C)) (hC10 : C ≤ 10) {pk : Nat → Nat} (hpk : ∀ j, j < B → σ (5030 + j) 900 = nI (2 * pk j) ∧ pk j ≤ 6) (hfl : σ 7000 25 = nI 0 ∨ (σ 7000 25 = nI 1 ∧ σ 7000 20 = nI 1)) {g : Nat} (hg : σ 7000 23 = nI g) (hg1 : g < 200) {w : Nat} (hw : σ 7000 24 = nI w) (hw1 : w < 200) (hkp : σ 5000 1 = 3 → ∀ j, j < B → σ 5005 j = -1 ∨ ∃ n, n < pk j ∧ σ 5005 j = nI n) {tn : Nat → Nat} (htn : ∀ r, r < 5 → σ 5007 r = nI (tn r) ∧ tn r < 6) {sp : Nat → Nat} (hsp : ∀ r, r < R → σ (5010 + r) 0 = nI (sp r) ∧ sp r ≤ 5) (hc : σ 9000 20 = nI 1) {v : Nat} (hv : v < 17) : XEx l m_X14_saleNow 9 0 0 [.ref 5000, .int (nI v), .ref 9000] (setM z σ h) (some (.int (f_MsaleNow σ R B K C pk g tn sp v))) (setM z σ h) := by
  match v, hv with
  | 0, _ => exact ct_Msale0 hl hbs hR hR5 hB hB6 hK hK60 hS hC10 hpk hfl hg hg1 hw hw1 hkp htn hsp hc
  | 1, _ => exact ct_Msale1 hl hbs hR hR5 hB hB6 hK hK60 hS hC10 hpk hfl hg hg1 hw hw1 hkp htn hsp hc
  | 2, _ => exact ct_Msale2 hl hbs hR hR5 hB hB6 hK hK60 hS hC10 hpk hfl hg hg1 hw hw1 hkp htn hsp hc
  | 3, _ => exact ct_Msale3 hl hbs hR hR5 hB hB6 hK hK60 hS hC10 hpk hfl hg hg1 hw hw1 hkp htn hsp hc
  | 4, _ => exact ct_Msale4 hl hbs hR hR5 hB hB6 hK hK60 hS hC10 hpk hfl hg hg1 hw hw1 hkp htn hsp hc
  | 5, _ => exact ct_Msale5 hl hbs hR hR5 hB hB6 hK hK60 hS hC10 hpk hfl hg hg1 hw hw1 hkp htn hsp hc
  | 6, _ => exact ct_Msale6 hl hbs hR hR5 hB hB6 hK hK60 hS hC10 hpk hfl hg hg1 hw hw1 hkp htn hsp hc
  | 7, _ => exact ct_Msale7 hl hbs hR hR5 hB hB6 hK hK60 hS hC10 hpk hfl hg hg1 hw hw1 hkp htn hsp hc
  | 8, _ => exact ct_Msale8 hl hbs hR hR5 hB hB6 hK hK60 hS hC10 hpk hfl hg hg1 hw hw1 hkp htn hsp hc
  | 9, _ => exact ct_Msale9 hl hbs hR hR5 hB hB6 hK hK60 hS hC10 hpk hfl hg hg1 hw hw1 hkp htn hsp hc
  | 10, _ => exact ct_Msale10 hl hbs hR hR5 hB hB6 hK hK60 hS hC10 hpk hfl hg hg1 hw hw1 hkp htn hsp hc
  | 11, _ => exact ct_Msale11 hl hbs hR hR5 hB hB6 hK hK60 hS hC10 hpk hfl hg hg1 hw hw1 hkp htn hsp hc
  | 12, _ => exact ct_Msale12 hl hbs hR hR5 hB hB6 hK hK60 hS hC10 hpk hfl hg hg1 hw hw1 hkp htn hsp hc
  | 13, _ => exact ct_Msale13 hl hbs hR hR5 hB hB6 hK hK60 hS hC10 hpk hfl hg hg1 hw hw1 hkp htn hsp hc
  | 14, _ => exact ct_Msale14 hl hbs hR hR5 hB hB6 hK hK60 hS hC10 hpk hfl hg hg1 hw hw1 hkp htn hsp hc
  | 15, _ => exact ct_Msale15 hl hbs hR hR5 hB hB6 hK hK60 hS hC10 hpk hfl hg hg1 hw hw1 hkp htn hsp hc
  | 16, _ => exact ct_Msale16 hl hbs hR hR5 hB hB6 hK hK60 hS hC10 hpk hfl hg hg1 hw hw1 hkp htn hsp hc
  | k + 17, h9 => exact absurd h9 (by omega)
def f_Msale (σ : XS9) (x : Int32) (R B : Nat) (pk gr : Nat → Nat) (cd : Nat → Nat → Nat) (K C g : Nat) (tn sp : Nat → Nat) : Int32 := (if n_bt x 0 16 then f_MsaleNow (g_Cinit (u2 σ 5000 0 0) R B pk gr cd) R B K C pk g tn sp (cn x) else 0)
def g_Msale (σ : XS9) (x : Int32) (R B : Nat) (pk gr : Nat → Nat) (cd : Nat → Nat → Nat) (K C g : Nat) (tn sp : Nat → Nat) : XS9 := (if n_bt x 0 16 then u2 (g_Cinit (u2 σ 5000 0 0) R B pk gr cd) 9000 20 0 else u2 (u2 σ 5000 0 0) 5000 0 1)
theorem ct_X14_sale {l : Launch} {h : XH} (hl : l.stackTraces = false) {z : Int64} {σ : XS9} (hbs : xx_bs h) (hfr : ∀ r, 5000 ≤ r → r < 20010 → h r = none) (hme : mem_eq σ σ) {R : Nat} (hR : σ 5001 900 = nI R) (hR5 : R ≤ 5) {B : Nat} (hB : σ 5002 900 = nI B) (hB6 : B ≤ 6) {pk : Nat → Nat} (hpk : ∀ j, j < B → σ (5030 + j) 900 = nI (2 * pk j) ∧ pk j ≤ 6) {gr : Nat → Nat} (hgr : ∀ j, j < B → σ (5020 + j) 3 = nI (gr j) ∧ gr j < 4) {cd : Nat → Nat → Nat} (hcd : ∀ j k, j < B → k < pk j → σ (5030 + j) (2 * k) = nI (cd j k) ∧ cd j k < 7776) {K : Nat} (hK : σ 5003 900 = nI K) (hK60 : K ≤ 60) {C : Nat} (hS : σ 5004 900 = nI (2 * C)) (hC10 : C ≤ 10) (hfl : σ 7000 25 = nI 0 ∨ (σ 7000 25 = nI 1 ∧ σ 7000 20 = nI 1)) {g : Nat} (hg : σ 7000 23 = nI g) (hg1 : g < 200) {w : Nat} (hw : σ 7000 24 = nI w) (hw1 : w < 200) (hkp : σ 5000 1 = 3 → ∀ j, j < B → σ 5005 j = -1 ∨ ∃ n, n < pk j ∧ σ 5005 j = nI n) {tn : Nat → Nat} (htn : ∀ r, r < 5 → σ 5007 r = nI (tn r) ∧ tn r < 6) {sp : Nat → Nat} (hsp : ∀ r, r < R → σ (5010 + r) 0 = nI (sp r) ∧ sp r ≤ 5) {x : Int32} : XEx l m_X14_sale 22 6 108 [.ref 5000, .int x] (setM z σ h) (some (.int (f_Msale σ x R B pk gr cd K C g tn sp))) (setM z (g_Msale σ x R B pk gr cd K C g tn sp) h) := by
  refine XMet.of hl rfl rfl (Nat.le_of_ble_eq_true rfl) (fun Y O hh hQ => ?_)
  refine sw_cls (fun hcl => ?_)
  show SW Y 6 108 (setM z σ h) 0 [.ref 5000, .int x] []
  refine sw_aload_n O (xx_dt dd_X14_sale 0 rfl) rfl ?_
  refine sw_iconst (x := 0) O (xx_dt dd_X14_sale 1 rfl) (by decide) ?_
  refine sw_put (h2 := setM z (u2 σ 5000 0 0) h) O (xx_dt dd_X14_sale 2 rfl) cl_X14 fl_X14_46 (lm_mod (σ := σ)) (by decide) (by omega) rfl (fun _ => ⟨rfl, rfl⟩) (pm_mod (σ := σ) (by omega)) ?_
  refine sw_iload_n O (xx_dt dd_X14_sale 3 rfl) rfl ?_
  refine sw_iconst (x := 0) O (xx_dt dd_X14_sale 4 rfl) (by decide) ?_
  refine sw_bipush (x := 16) O (xx_dt dd_X14_sale 5 rfl) (by decide) ?_
  refine sw_callSx (as := [.int x, .int 0, .int 16]) (st := []) (st2 := [.int (bZ (n_bt x 0 16))]) O (ct_X14_is hl) ce_X14_is ml_X14_70 st_X14_is (xx_dt dd_X14_sale 6 rfl) (by omega) rfl rfl (Nat.le_of_ble_eq_true rfl) rfl ?_
  refine sw_if_eqB (tgt := 31) O (xx_dt dd_X14_sale 7 rfl) (by decide) (fun q1 => ?_) (fun q1 => ?_)
  · refine sw_aload_n O (xx_dt dd_X14_sale 16 rfl) rfl ?_
    refine sw_iconst (x := 1) O (xx_dt dd_X14_sale 17 rfl) (by decide) ?_
    refine sw_callVx (as := [.int 1]) (st := []) (st2 := [.int 0]) O (ct_X14_refuse hl (z := z) (σ := u2 σ 5000 0 0) hbs (x := 1)) ce_X14_refuse ml_X14_74 iv_X14_refuse cl_X14 rfl (lm_mod (σ := u2 σ 5000 0 0)) (xx_dt dd_X14_sale 18 rfl) (by omega) rfl rfl (Nat.le_of_ble_eq_true rfl) rfl ?_
    exact sw_iret O (xx_dt dd_X14_sale 19 rfl) rfl rfl (by rw [hQ]; exact ⟨by unfold f_Msale; simp only [if_neg q1], by unfold g_Msale; simp only [if_neg q1]⟩)
  · have hc12 := (bt_nat 16 q1 (by decide) rfl (by decide))
    refine sw_lsE (ls2 := [.ref 5000, .int (nI (cn x))]) (by rw [← hc12.1]) ?_
    have hd12 := hc12.2
    refine sw_aload_n O (xx_dt dd_X14_sale 8 rfl) rfl ?_
    refine sw_iload_n O (xx_dt dd_X14_sale 9 rfl) rfl ?_
    refine sw_new (k := 5) (n := 101) (r := 9000) O (xx_dt dd_X14_sale 10 rfl) cl_X10 nw_X14_218 ((setM_c0 (z := z) (σ := u2 σ 5000 0 0) hme.2.1.1.1 (by omega)).trans (hfr 9000 (by omega) (by omega))) (by omega) ?_
    rw [xx_blk_up]
    refine sw_dup O (xx_dt dd_X14_sale 11 rfl) rfl ?_
    refine sw_aload_n O (xx_dt dd_X14_sale 12 rfl) rfl ?_
    refine sw_callIx (k := 0) (n := 0) (k' := 5) (n' := 101) (as := [.ref 5000]) (st := [.ref 9000, .int (nI (cn x)), .ref 5000]) (st2 := [.ref 9000, .int (nI (cn x)), .ref 5000]) O (ct_X10_init hl (z := z) (σ := u2 σ 5000 0 0) hbs hfr hme.2.1.1.1 (R := R) hR (by omega) (B := B) hB (by omega) (pk := pk) (gr := gr) (cd := cd) (fun j9 hj9 => by rw [(u2_ne (by omega))]; exact hpk j9 hj9) (fun j9 hj9 => by rw [show (u2 σ 5000 0 0) (5020 + j9) 3 = σ (5020 + j9) 3 from (congrFun (u2_ne (by omega)) 3)]; exact hgr j9 hj9) (fun j9 k9 hj9 hk9 => by rw [(u2_ne (by omega))]; exact hcd j9 k9 hj9 hk9)) ce_X10_init ml_X14_220 ii_X10_init (xx_dt dd_X14_sale 13 rfl) (by omega) rfl rfl (Nat.le_of_ble_eq_true rfl) rfl ?_
    refine sw_callVx (as := [.int (nI (cn x)), .ref 9000]) (st := []) (st2 := [.int (f_MsaleNow (g_Cinit (u2 σ 5000 0 0) R B pk gr cd) R B K C pk g tn sp (cn x))]) O (ct_X14_saleNow hl (z := z) (σ := g_Cinit (u2 σ 5000 0 0) R B pk gr cd) hbs (R := R) ((congrFun (fr_Cinit (by omega)) 900).trans hR) (by omega) (B := B) ((congrFun (fr_Cinit (by omega)) 900).trans hB) (by omega) (K := K) ((congrFun (fr_Cinit (by omega)) 900).trans hK) (by omega) (C := C) ((congrFun (fr_Cinit (by omega)) 900).trans hS) (by omega) (pk := pk) (fun j9 hj9 => by rw [show (g_Cinit (u2 σ 5000 0 0) R B pk gr cd) (5030 + j9) 900 = σ (5030 + j9) 900 from ((congrFun (fr_Cinit (by omega)) 900).trans (congrFun (u2_ne (by omega)) 900))]; exact hpk j9 hj9) (by rw [show (g_Cinit (u2 σ 5000 0 0) R B pk gr cd) 7000 = σ 7000 from (fr_Cinit (by omega))]; exact hfl) (g := g) ((congrFun (fr_Cinit (by omega)) 23).trans hg) (by omega) (w := w) ((congrFun (fr_Cinit (by omega)) 24).trans hw) (by omega) (fun h39 j9 hj9 => by rw [show (g_Cinit (u2 σ 5000 0 0) R B pk gr cd) 5005 = σ 5005 from (fr_Cinit (by omega))]; exact hkp ((show (g_Cinit (u2 σ 5000 0 0) R B pk gr cd) 5000 1 = σ 5000 1 from congrFun (fr_Cinit (by omega)) 1).symm.trans h39) j9 hj9) (tn := tn) (fun j9 hj9 => by rw [show (g_Cinit (u2 σ 5000 0 0) R B pk gr cd) 5007 = σ 5007 from (fr_Cinit (by omega))]; exact htn j9 hj9) (sp := sp) (fun j9 hj9 => by rw [show (g_Cinit (u2 σ 5000 0 0) R B pk gr cd) (5010 + j9) 0 = σ (5010 + j9) 0 from ((congrFun (fr_Cinit (by omega)) 0).trans (congrFun (u2_ne (by omega)) 0))]; exact hsp j9 hj9) cf_Cinit (v := cn x) (by omega)) ce_X14_saleNow ml_X14_374 iv_X14_saleNow cl_X14 rfl (lm_mod (σ := g_Cinit (u2 σ 5000 0 0) R B pk gr cd)) (xx_dt dd_X14_sale 14 rfl) (by omega) rfl rfl (Nat.le_of_ble_eq_true rfl) rfl ?_
    refine sw_goto (tgt := 36) O (xx_dt dd_X14_sale 15 rfl) (by decide) ?_
    have me9 : mem_eq σ (u2 (g_Cinit (u2 σ 5000 0 0) R B pk gr cd) 9000 20 0) := (mem_eq.frame (τ0 := u2 σ 5000 0 0) (mem_eq.int (r := 5000) (i := 0) (x := 0) hme rfl) (fun q h1 h2 h3 => by simp (disch := omega) only [u2_ne, uR_ne, fr_Cinit, fr_Cpay1, fr_Cpay2]) rfl (fun q h1 h2 => by (simp (disch := omega) only [u2_ne, uR_ne, fr_Cinit, fr_Cpay1, fr_Cpay2]; exact (hme.2.2 q h1 h2).1)))
    exact sw_iretD (h' := setM z (u2 (g_Cinit (u2 σ 5000 0 0) R B pk gr cd) 9000 20 0) h) O (xx_dt dd_X14_sale 19 rfl) rfl rfl (drop9 hfr) (me9.cls hcl) (by rw [hh]; exact fun r hr => me9.dom hr) (by rw [hQ]; exact ⟨by unfold f_Msale; simp only [if_pos q1], by unfold g_Msale; simp only [if_pos q1]⟩)
end
section
/-! ===== the reference keeps what was settled ===== -/
theorem cpy6 {f g : Nat → Int32} {j : Nat} (hj : j < 6) : va_cpy f g 0 0 6 j = f j := by
  unfold va_cpy
  rw [if_pos (by omega)]
  congr 1
  omega
def x_Mkeep_79 (σ s45 : XS9) (i45 B : Nat) (sp : Nat → Nat) (i66 : Nat) (s0 : Int32) : Int32 := xit (fun i79 s79 => (if (((σ (5010 + i45) 3) >>> ((nI i79) &&& 31)) &&& 1) = 1 then s79 + (f_Mclashes s45 i45 i66 i79 (cn (s45 5007 i79)) B sp) else s79 + 0)) i45 0 s0
def x_Mkeep_66 (σ s45 : XS9) (i45 B : Nat) (sp : Nat → Nat) (s0 : Nat × Int32) : Nat × Int32 := xit (fun i66 s66 => (if (x_Mkeep_79 σ s45 i45 B sp i66 0) < s66.2 then (i66, (x_Mkeep_79 σ s45 i45 B sp i66 0)) else (s66.1, s66.2))) 6 0 s0
def x_Mkeep_45 (σ : XS9) (B R : Nat) (sp : Nat → Nat) (s0 : XS9) : XS9 := xit (fun i45 s45 => u2 s45 5007 i45 (nI ((x_Mkeep_66 σ s45 i45 B sp (0, 999)).1))) R 0 s0
theorem x66_lt {σ s45 : XS9} {i45 B : Nat} {sp : Nat → Nat} {s0 : Nat × Int32} (h : s0.1 < 6) : (x_Mkeep_66 σ s45 i45 B sp s0).1 < 6 := by
  unfold x_Mkeep_66
  refine xit_inv (fun s : Nat × Int32 => s.1 < 6) (N := 6) (fun i s hi hP => ?_) 6 0 s0 (by omega) h
  (try dsimp only)
  split <;> first | exact hP | exact hi
theorem fr_x45 {σ : XS9} {B R : Nat} {sp : Nat → Nat} {s0 : XS9} {q : Nat} (h : q ≠ 5007) : x_Mkeep_45 σ B R sp s0 q = s0 q := xit_keep (fun s : XS9 => s q) (fun i s => by (try dsimp only); rw [u2_ne h]) _ _ _
def g_Mkeep (σ : XS9) (R B : Nat) (pk gr : Nat → Nat) (cd : Nat → Nat → Nat) (wy : Nat) (sp : Nat → Nat) : XS9 := u2 (u2 (x_Mkeep_45 σ B R sp (uR (g_Cpay (uR (g_Cinit σ R B pk gr cd) 5005 (va_cpy ((g_Cinit σ R B pk gr cd) 9001) (σ 5005) 0 0 6)) wy 20000 B) 5006 (va_cpy ((g_Cpay (uR (g_Cinit σ R B pk gr cd) 5005 (va_cpy ((g_Cinit σ R B pk gr cd) 9001) (σ 5005) 0 0 6)) wy 20000 B) 20000) (σ 5006) 0 0 6))) 9000 20 0) 20000 20 0
theorem ct_X14_keep {l : Launch} {h : XH} (hl : l.stackTraces = false) {z : Int64} {σ : XS9} (hbs : xx_bs h) (hfr : ∀ r, 5000 ≤ r → r < 20010 → h r = none) (hme : mem_eq σ σ) {R : Nat} (hR : σ 5001 900 = nI R) (hR5 : R ≤ 5) {B : Nat} (hB : σ 5002 900 = nI B) (hB6 : B ≤ 6) {pk : Nat → Nat} (hpk : ∀ j, j < B → σ (5030 + j) 900 = nI (2 * pk j) ∧ pk j ≤ 6) {gr : Nat → Nat} (hgr : ∀ j, j < B → σ (5020 + j) 3 = nI (gr j) ∧ gr j < 4) {cd : Nat → Nat → Nat} (hcd : ∀ j k, j < B → k < pk j → σ (5030 + j) (2 * k) = nI (cd j k) ∧ cd j k < 7776) (hpi : ∀ j, j < B → g_Cinit σ R B pk gr cd 9001 j = -1 ∨ ∃ n, n < pk j ∧ g_Cinit σ R B pk gr cd 9001 j = nI n) {wy : Nat} (hwy : σ 5000 7 = nI wy) (hwy3 : wy < 3) (hterm : wy = 2 → ∃ r, xitR (p2_step 20000 B) 20000000 0 (g_Cpay20 (uR (g_Cinit σ R B pk gr cd) 5005 (va_cpy (g_Cinit σ R B pk gr cd 9001) (σ 5005) 0 0 6)) 20000 B) = .inr r) (htn9 : ∀ r, r < 5 → σ 5007 r = nI (cn (σ 5007 r)) ∧ cn (σ 5007 r) < 6) {sp : Nat → Nat} (hsp : ∀ r, r < R → σ (5010 + r) 0 = nI (sp r) ∧ sp r ≤ 5)  : XEx l m_X14_keep 22 7 114 [.ref 5000] (setM z σ h) (none) (setM z (g_Mkeep σ R B pk gr cd wy sp) h) := by
  refine XMet.of hl rfl rfl (Nat.le_of_ble_eq_true rfl) (fun Y O hh hQ => ?_)
  refine sw_cls (fun hcl => ?_)
  show SW Y 7 114 (setM z σ h) 0 [.ref 5000, xx_d, xx_d, xx_d, xx_d, xx_d, xx_d, xx_d] []
  refine sw_new (k := 6) (n := 107) (r := 9000) O (xx_dt dd_X14_keep 0 rfl) cl_X10 nw_X14_218 ((setM_c0 (z := z) (σ := σ) hme.2.1.1.1 (by omega)).trans (hfr 9000 (by omega) (by omega))) (by omega) ?_
  rw [xx_blk_up]
  refine sw_dup O (xx_dt dd_X14_keep 1 rfl) rfl ?_
  refine sw_aload_n O (xx_dt dd_X14_keep 2 rfl) rfl ?_
  refine sw_callIx (k := 1) (n := 6) (k' := 5) (n' := 101) (as := [.ref 5000]) (st := [.ref 9000]) (st2 := [.ref 9000]) O (ct_X10_init hl (z := z) (σ := σ) hbs hfr hme.2.1.1.1 (R := R) hR (by omega) (B := B) hB (by omega) (pk := pk) (gr := gr) (cd := cd) hpk hgr hcd) ce_X10_init ml_X14_220 ii_X10_init (xx_dt dd_X14_keep 3 rfl) (by omega) rfl rfl (Nat.le_of_ble_eq_true rfl) rfl ?_
  refine sw_astore_n (ls2 := [.ref 5000, .ref 9000, xx_d, xx_d, xx_d, xx_d, xx_d, xx_d]) O (xx_dt dd_X14_keep 4 rfl) (by decide) rfl ?_
  refine sw_aload_n O (xx_dt dd_X14_keep 5 rfl) rfl ?_
  refine sw_get (v := .ref 9001) O (xx_dt dd_X14_keep 6 rfl) cl_X10 fl_X14_221 (lm_9000 (σ := g_Cinit σ R B pk gr cd) (fl1 cf_Cinit)) (by decide) rfl ?_
  refine sw_iconst (x := 0) O (xx_dt dd_X14_keep 7 rfl) (by decide) ?_
  refine sw_aload_n O (xx_dt dd_X14_keep 8 rfl) rfl ?_
  refine sw_get (v := .ref 5005) O (xx_dt dd_X14_keep 9 rfl) cl_X14 fl_X14_36 (lm_mod (σ := g_Cinit σ R B pk gr cd)) (by decide) rfl ?_
  refine sw_iconst (x := 0) O (xx_dt dd_X14_keep 10 rfl) (by decide) ?_
  refine sw_bipush (x := 6) O (xx_dt dd_X14_keep 11 rfl) (by decide) ?_
  refine sw_copy (h2' := setM z (uR (g_Cinit σ R B pk gr cd) 5005 (va_cpy ((g_Cinit σ R B pk gr cd) 9001) (σ 5005) 0 0 6)) h) O ay_X14_224 (xx_dt dd_X14_keep 12 rfl) ((im_9001 (z := z) (σ := g_Cinit σ R B pk gr cd) cf_Cinit).getE rfl) ((im_5005 (z := z) (σ := g_Cinit σ R B pk gr cd)).getE (fr_Cinit (by omega))) (by omega) (by decide) (by decide) (by decide) (by decide) (by decide) (by omega) (by decide +kernel) ((im_5005 (z := z) (σ := g_Cinit σ R B pk gr cd)).putR (by omega)) ?_
  refine sw_aload_n O (xx_dt dd_X14_keep 13 rfl) rfl ?_
  refine sw_aload_n O (xx_dt dd_X14_keep 14 rfl) rfl ?_
  refine sw_get (v := .int (nI wy)) O (xx_dt dd_X14_keep 15 rfl) cl_X14 fl_X14_230 (lm_mod (σ := uR (g_Cinit σ R B pk gr cd) 5005 (va_cpy ((g_Cinit σ R B pk gr cd) 9001) (σ 5005) 0 0 6))) (by decide) (congrArg Value.int (((congrFun (uR_ne (by omega)) 7).trans (congrFun (fr_Cinit (by omega)) 7)).trans hwy)) ?_
  refine sw_callVx (as := [.int (nI wy)]) (st := []) (st2 := [.ref 20000]) O (ct_X10_payments hl (z := z) (σ := uR (g_Cinit σ R B pk gr cd) 5005 (va_cpy ((g_Cinit σ R B pk gr cd) 9001) (σ 5005) 0 0 6)) hbs cf_Cinit (B := B) (((congrFun (uR_ne (by omega)) 900).trans (congrFun (fr_Cinit (by omega)) 900)).trans hB) (by omega) (pk := pk) (fun j9 hj9 => by rw [show (uR (g_Cinit σ R B pk gr cd) 5005 (va_cpy ((g_Cinit σ R B pk gr cd) 9001) (σ 5005) 0 0 6)) (5030 + j9) 900 = σ (5030 + j9) 900 from ((congrFun (uR_ne (by omega)) 900).trans (congrFun (fr_Cinit (by omega)) 900))]; exact hpk j9 hj9) hpi (qa := 20000) (by omega) hfr (((congrFun (uR_ne (by omega)) 20).trans (congrFun (fr_Cinit (by omega)) 20)).trans (hme.2.2 20000 (by omega) (by omega)).2) (w := wy) (by omega) hterm) ce_X10_payments ml_X14_233 iv_X10_payments cl_X10 rfl (lm_9000 (σ := uR (g_Cinit σ R B pk gr cd) 5005 (va_cpy ((g_Cinit σ R B pk gr cd) 9001) (σ 5005) 0 0 6)) (fl1 cf_Cinit)) (xx_dt dd_X14_keep 16 rfl) (by omega) rfl rfl (Nat.le_of_ble_eq_true rfl) rfl ?_
  refine sw_iconst (x := 0) O (xx_dt dd_X14_keep 17 rfl) (by decide) ?_
  refine sw_aload_n O (xx_dt dd_X14_keep 18 rfl) rfl ?_
  refine sw_get (v := .ref 5006) O (xx_dt dd_X14_keep 19 rfl) cl_X14 fl_X14_40 (lm_mod (σ := g_Cpay (uR (g_Cinit σ R B pk gr cd) 5005 (va_cpy ((g_Cinit σ R B pk gr cd) 9001) (σ 5005) 0 0 6)) wy 20000 B)) (by decide) rfl ?_
  refine sw_iconst (x := 0) O (xx_dt dd_X14_keep 20 rfl) (by decide) ?_
  refine sw_bipush (x := 6) O (xx_dt dd_X14_keep 21 rfl) (by decide) ?_
  refine sw_copy (h2' := setM z (uR (g_Cpay (uR (g_Cinit σ R B pk gr cd) 5005 (va_cpy ((g_Cinit σ R B pk gr cd) 9001) (σ 5005) 0 0 6)) wy 20000 B) 5006 (va_cpy ((g_Cpay (uR (g_Cinit σ R B pk gr cd) 5005 (va_cpy ((g_Cinit σ R B pk gr cd) 9001) (σ 5005) 0 0 6)) wy 20000 B) 20000) (σ 5006) 0 0 6)) h) O ay_X14_224 (xx_dt dd_X14_keep 22 rfl) ((lm_tmp (z := z) (σ := g_Cpay (uR (g_Cinit σ R B pk gr cd) 5005 (va_cpy ((g_Cinit σ R B pk gr cd) 9001) (σ 5005) 0 0 6)) wy 20000 B) (h := h) (q := 20000) (by omega) (fl1 (fl_Cpay (by omega)).1) (fl_Cpay (by omega)).2 (by omega)).getE rfl) ((im_5006 (z := z) (σ := g_Cpay (uR (g_Cinit σ R B pk gr cd) 5005 (va_cpy ((g_Cinit σ R B pk gr cd) 9001) (σ 5005) 0 0 6)) wy 20000 B)).getE (((fr_Cpay ⟨by omega, by omega⟩).trans (uR_ne (by omega))).trans (fr_Cinit (by omega)))) (by omega) (by decide) (by decide) (by decide) (by decide) (by decide) (by omega) (by decide +kernel) ((im_5006 (z := z) (σ := g_Cpay (uR (g_Cinit σ R B pk gr cd) 5005 (va_cpy ((g_Cinit σ R B pk gr cd) 9001) (σ 5005) 0 0 6)) wy 20000 B)).putR (by omega)) ?_
  refine sw_iconst (x := 0) O (xx_dt dd_X14_keep 23 rfl) (by decide) ?_
  refine sw_istore_n (ls2 := [.ref 5000, .ref 9000, .int 0, xx_d, xx_d, xx_d, xx_d, xx_d]) O (xx_dt dd_X14_keep 24 rfl) (by decide) rfl ?_
  refine sw_for (S := XS9) (fun i45 s45 => u2 s45 5007 i45 (nI ((x_Mkeep_66 σ s45 i45 B sp (0, 999)).1))) (fun _ s45 => (∀ r9, r9 < 5 → s45 5007 r9 = nI (cn (s45 5007 r9)) ∧ cn (s45 5007 r9) < 6) ∧ (∀ q, q ≠ 5007 → s45 q = (uR (g_Cpay (uR (g_Cinit σ R B pk gr cd) 5005 (va_cpy ((g_Cinit σ R B pk gr cd) 9001) (σ 5005) 0 0 6)) wy 20000 B) 5006 (va_cpy ((g_Cpay (uR (g_Cinit σ R B pk gr cd) 5005 (va_cpy ((g_Cinit σ R B pk gr cd) 9001) (σ 5005) 0 0 6)) wy 20000 B) 20000) (σ 5006) 0 0 6)) q)) (hp := fun s45 => setM z s45 h) (hd := 45) (lc := fun i45 s45 => [.ref 5000, .ref 9000, .int (nI i45), xx_d, xx_d, xx_d, xx_d, xx_d]) (N := R) (fun i45 s45 hi45 hP45 => ⟨(by (try dsimp only); (repeat' split) <;> (refine ⟨?_, ?_⟩ <;> (first | exact hP45.1 | exact hP45.2 | exact (fun r9 hr9 => by by_cases e : r9 = i45; (subst e; rw [u2_at, cn_nI (by have h9 := x66_lt (σ := σ) (s45 := s45) (i45 := r9) (B := B) (sp := sp) (s0 := (0, 999)) (by show (0 : Nat) < 6; omega); omega)]; exact ⟨rfl, x66_lt (by show (0 : Nat) < 6; omega)⟩); (rw [u2_oi e]; exact hP45.1 r9 hr9)) | exact (fun q9 hq9 => by (simp (disch := omega) only [u2_ne, uR_ne, fr_fill, fr_Ctake]); exact hP45.2 q9 hq9) | exact hi45 | exact .inl rfl | exact .inr rfl | (simp (disch := omega) only [u2_ne, uR_ne, fr_fill, fr_Ctake]; first | exact hP45.1 | exact hP45.2 | exact (fun r9 hr9 => by by_cases e : r9 = i45; (subst e; rw [u2_at, cn_nI (by have h9 := x66_lt (σ := σ) (s45 := s45) (i45 := r9) (B := B) (sp := sp) (s0 := (0, 999)) (by show (0 : Nat) < 6; omega); omega)]; exact ⟨rfl, x66_lt (by show (0 : Nat) < 6; omega)⟩); (rw [u2_oi e]; exact hP45.1 r9 hr9)) | exact (fun q9 hq9 => by (simp (disch := omega) only [u2_ne, uR_ne, fr_fill, fr_Ctake]); exact hP45.2 q9 hq9))))), fun kk45 => ?_⟩) R 0 (uR (g_Cpay (uR (g_Cinit σ R B pk gr cd) 5005 (va_cpy ((g_Cinit σ R B pk gr cd) 9001) (σ 5005) 0 0 6)) wy 20000 B) 5006 (va_cpy ((g_Cpay (uR (g_Cinit σ R B pk gr cd) 5005 (va_cpy ((g_Cinit σ R B pk gr cd) 9001) (σ 5005) 0 0 6)) wy 20000 B) 20000) (σ 5006) 0 0 6)) (by omega) (⟨(fun r9 hr9 => by (simp (disch := omega) only [u2_ne, uR_ne, fr_Cpay, fr_Cinit]); exact htn9 r9 hr9), (fun _ _ => rfl)⟩) (fun hP45 => ?_)
  · refine sw_iload_n O (xx_dt dd_X14_keep 25 rfl) rfl ?_
    refine sw_aload_n O (xx_dt dd_X14_keep 26 rfl) rfl ?_
    refine sw_get (v := .ref 5001) O (xx_dt dd_X14_keep 27 rfl) cl_X14 fl_X14_23 (lm_mod (σ := s45)) (by decide) rfl ?_
    refine sw_callVL (ci := 6) (as := []) (st := [.int (nI i45)]) (st2 := [.int (nI R), .int (nI i45)]) O (ct_AL_size hl (lm_5001 (σ := s45) (R := R) ((((((congrFun (hP45.2 _ (by omega)) 900).trans (congrFun (uR_ne (by omega)) 900)).trans (congrFun (fr_Cpay ⟨by omega, by omega⟩) 900)).trans (congrFun (uR_ne (by omega)) 900)).trans (congrFun (fr_Cinit (by omega)) 900)).trans hR) (by omega))) ce_Jx4a65c_size_8abf5 ml_X14_57 iv_Jx4a65c_size_8abf5 cl_Jx4a65c rfl (lm_5001 (σ := s45) (R := R) ((((((congrFun (hP45.2 _ (by omega)) 900).trans (congrFun (uR_ne (by omega)) 900)).trans (congrFun (fr_Cpay ⟨by omega, by omega⟩) 900)).trans (congrFun (uR_ne (by omega)) 900)).trans (congrFun (fr_Cinit (by omega)) 900)).trans hR) (by omega)) (xx_dt dd_X14_keep 28 rfl) (by omega) rfl rfl (Nat.le_of_ble_eq_true rfl) rfl ?_
    refine sw_icmp_ge (tgt := 175) O (xx_dt dd_X14_keep 29 rfl) (by decide) (fun q1 => ?_) (fun q1 => ?_)
    · exact absurd q1 (nI_ge (b := R) hi45 (by omega))
    · refine sw_iconst (x := 0) O (xx_dt dd_X14_keep 30 rfl) (by decide) ?_
      refine sw_istore_n (ls2 := [.ref 5000, .ref 9000, .int (nI i45), .int 0, xx_d, xx_d, xx_d, xx_d]) O (xx_dt dd_X14_keep 31 rfl) (by decide) rfl ?_
      refine sw_sipush (x := 999) O (xx_dt dd_X14_keep 32 rfl) (by decide) ?_
      refine sw_istore (ls2 := [.ref 5000, .ref 9000, .int (nI i45), .int 0, .int 999, xx_d, xx_d, xx_d]) O (xx_dt dd_X14_keep 33 rfl) (by decide) rfl ?_
      refine sw_iconst (x := 0) O (xx_dt dd_X14_keep 34 rfl) (by decide) ?_
      refine sw_istore (ls2 := [.ref 5000, .ref 9000, .int (nI i45), .int 0, .int 999, .int 0, xx_d, xx_d]) O (xx_dt dd_X14_keep 35 rfl) (by decide) rfl ?_
      refine sw_for (S := Nat × Int32) (fun i66 s66 => (if (x_Mkeep_79 σ s45 i45 B sp i66 0) < s66.2 then (i66, (x_Mkeep_79 σ s45 i45 B sp i66 0)) else (s66.1, s66.2))) (fun _ s66 => s66.1 < 6) (hp := fun _ => setM z s45 h) (hd := 66) (lc := fun i66 s66 => [.ref 5000, .ref 9000, .int (nI i45), .int (nI (s66.1)), .int s66.2, .int (nI i66), xx_d, xx_d]) (N := 6) (fun i66 s66 hi66 hP66 => ⟨(by (try dsimp only); (repeat' split) <;> (first | exact hP66 | exact (by show i66 < 6; omega) | exact hi66 | exact .inl rfl | exact .inr rfl | (simp (disch := omega) only [u2_ne, uR_ne, fr_fill, fr_Ctake]; first | exact hP66 | exact (by show i66 < 6; omega)))), fun kk66 => ?_⟩) 6 0 (0, 999) (by omega) ((by show (0 : Nat) < 6; omega)) (fun hP66 => ?_)
      · refine sw_iload O (xx_dt dd_X14_keep 36 rfl) rfl ?_
        refine sw_bipush (x := 6) O (xx_dt dd_X14_keep 37 rfl) (by decide) ?_
        refine sw_icmp_ge (tgt := 162) O (xx_dt dd_X14_keep 38 rfl) (by decide) (fun q2 => ?_) (fun q2 => ?_)
        · exact absurd q2 (nI_ge (b := 6) hi66 (by omega))
        · refine sw_iconst (x := 0) O (xx_dt dd_X14_keep 39 rfl) (by decide) ?_
          refine sw_istore (ls2 := [.ref 5000, .ref 9000, .int (nI i45), .int (nI (s66.1)), .int s66.2, .int (nI i66), .int 0, xx_d]) O (xx_dt dd_X14_keep 40 rfl) (by decide) rfl ?_
          refine sw_iconst (x := 0) O (xx_dt dd_X14_keep 41 rfl) (by decide) ?_
          refine sw_istore (ls2 := [.ref 5000, .ref 9000, .int (nI i45), .int (nI (s66.1)), .int s66.2, .int (nI i66), .int 0, .int 0]) O (xx_dt dd_X14_keep 42 rfl) (by decide) rfl ?_
          refine sw_for (S := Int32) (fun i79 s79 => (if (((σ (5010 + i45) 3) >>> ((nI i79) &&& 31)) &&& 1) = 1 then s79 + (f_Mclashes s45 i45 i66 i79 (cn (s45 5007 i79)) B sp) else s79 + 0)) (fun _ _ => True) (hp := fun _ => setM z s45 h) (hd := 79) (lc := fun i79 s79 => [.ref 5000, .ref 9000, .int (nI i45), .int (nI (s66.1)), .int s66.2, .int (nI i66), .int s79, .int (nI i79)]) (N := i45) (fun i79 s79 hi79 hP79 => ⟨trivial, fun kk79 => ?_⟩) i45 0 0 (by omega) (trivial) (fun hP79 => ?_)
          · refine sw_iload O (xx_dt dd_X14_keep 43 rfl) rfl ?_
            refine sw_iload_n O (xx_dt dd_X14_keep 44 rfl) rfl ?_
            refine sw_icmp_ge (tgt := 139) O (xx_dt dd_X14_keep 45 rfl) (by decide) (fun q3 => ?_) (fun q3 => ?_)
            · exact absurd q3 (nI_ge (b := i45) hi79 (by omega))
            · refine sw_iload O (xx_dt dd_X14_keep 46 rfl) rfl ?_
              refine sw_aload_n O (xx_dt dd_X14_keep 47 rfl) rfl ?_
              refine sw_get (v := .ref 5001) O (xx_dt dd_X14_keep 48 rfl) cl_X14 fl_X14_23 (lm_mod (σ := s45)) (by decide) rfl ?_
              refine sw_iload_n O (xx_dt dd_X14_keep 49 rfl) rfl ?_
              refine sw_callVL (ci := 6) (as := [.int (nI i45)]) (st := [.int s79]) (st2 := [.ref (5010 + i45), .int s79]) O (ct_get hl hbs (lm_5001 (σ := s45) (R := R) ((((((congrFun (hP45.2 _ (by omega)) 900).trans (congrFun (uR_ne (by omega)) 900)).trans (congrFun (fr_Cpay ⟨by omega, by omega⟩) 900)).trans (congrFun (uR_ne (by omega)) 900)).trans (congrFun (fr_Cinit (by omega)) 900)).trans hR) (by omega)) (by omega) (i := i45) (x := 5010 + i45) (by omega) (by omega) rfl) ce_Jx4a65c_get_915e3 ml_X14_61 iv_Jx4a65c_get_915e3 cl_Jx4a65c rfl (lm_5001 (σ := s45) (R := R) ((((((congrFun (hP45.2 _ (by omega)) 900).trans (congrFun (uR_ne (by omega)) 900)).trans (congrFun (fr_Cpay ⟨by omega, by omega⟩) 900)).trans (congrFun (uR_ne (by omega)) 900)).trans (congrFun (fr_Cinit (by omega)) 900)).trans hR) (by omega)) (xx_dt dd_X14_keep 50 rfl) (by omega) rfl rfl (Nat.le_of_ble_eq_true rfl) rfl ?_
              refine sw_castO O (xx_dt dd_X14_keep 51 rfl) cl_X12 (lm_reg (σ := s45) (R := R) ((((((congrFun (hP45.2 _ (by omega)) 900).trans (congrFun (uR_ne (by omega)) 900)).trans (congrFun (fr_Cpay ⟨by omega, by omega⟩) 900)).trans (congrFun (uR_ne (by omega)) 900)).trans (congrFun (fr_Cinit (by omega)) 900)).trans hR) (by omega) (j := i45) (by omega)) cw_X14_65 ?_
              refine sw_get (v := .int (σ (5010 + i45) 3)) O (xx_dt dd_X14_keep 52 rfl) cl_X12 fl_X14_95 (lm_reg (σ := s45) (R := R) ((((((congrFun (hP45.2 _ (by omega)) 900).trans (congrFun (uR_ne (by omega)) 900)).trans (congrFun (fr_Cpay ⟨by omega, by omega⟩) 900)).trans (congrFun (uR_ne (by omega)) 900)).trans (congrFun (fr_Cinit (by omega)) 900)).trans hR) (by omega) (j := i45) (by omega)) (by decide) (congrArg Value.int (((((congrFun (hP45.2 _ (by omega)) 3).trans (congrFun (uR_ne (by omega)) 3)).trans (congrFun (fr_Cpay ⟨by omega, by omega⟩) 3)).trans (congrFun (uR_ne (by omega)) 3)).trans (congrFun (fr_Cinit (by omega)) 3))) ?_
              refine sw_iload O (xx_dt dd_X14_keep 53 rfl) rfl ?_
              refine sw_ishr O (xx_dt dd_X14_keep 54 rfl) ?_
              refine sw_iconst (x := 1) O (xx_dt dd_X14_keep 55 rfl) (by decide) ?_
              refine sw_iand O (xx_dt dd_X14_keep 56 rfl) ?_
              refine sw_iconst (x := 1) O (xx_dt dd_X14_keep 57 rfl) (by decide) ?_
              refine sw_icmp_ne (tgt := 129) O (xx_dt dd_X14_keep 58 rfl) (by decide) (fun q4 => ?_) (fun q4 => ?_)
              · refine sw_iconst (x := 0) O (xx_dt dd_X14_keep 69 rfl) (by decide) ?_
                refine sw_iadd O (xx_dt dd_X14_keep 70 rfl) ?_
                refine sw_istore (ls2 := [.ref 5000, .ref 9000, .int (nI i45), .int (nI (s66.1)), .int s66.2, .int (nI i66), .int (s79 + 0), .int (nI i79)]) O (xx_dt dd_X14_keep 71 rfl) (by decide) rfl ?_
                refine sw_iinc (y := nI (i79 + 1)) (ls2 := [.ref 5000, .ref 9000, .int (nI i45), .int (nI (s66.1)), .int s66.2, .int (nI i66), .int (s79 + 0), .int (nI (i79 + 1))]) O (xx_dt dd_X14_keep 72 rfl) rfl (nI_1 _) (by decide) rfl ?_
                refine sw_goto (tgt := 79) O (xx_dt dd_X14_keep 73 rfl) (by decide) ?_
                simp only [if_neg q4] at kk79
                exact kk79
              · refine sw_aload_n O (xx_dt dd_X14_keep 59 rfl) rfl ?_
                refine sw_iload_n O (xx_dt dd_X14_keep 60 rfl) rfl ?_
                refine sw_iload O (xx_dt dd_X14_keep 61 rfl) rfl ?_
                refine sw_iload O (xx_dt dd_X14_keep 62 rfl) rfl ?_
                refine sw_aload_n O (xx_dt dd_X14_keep 63 rfl) rfl ?_
                refine sw_get (v := .ref 5007) O (xx_dt dd_X14_keep 64 rfl) cl_X14 fl_X14_43 (lm_mod (σ := s45)) (by decide) rfl ?_
                refine sw_iload O (xx_dt dd_X14_keep 65 rfl) rfl ?_
                have hz122 := (hP45.1 i79 (by omega)).2
                refine sw_iaload (v := .int (nI (cn (s45 5007 i79)))) O (xx_dt dd_X14_keep 66 rfl) ((im_5007 (z := z) (σ := s45)).get _) (pk_in i79 _ (by omega)) (by rw [nI_clamp (by omega)]; exact (congrArg Value.int (hP45.1 i79 (by omega)).1)) ?_
                refine sw_callVx (as := [.int (nI i45), .int (nI i66), .int (nI i79), .int (nI (cn (s45 5007 i79)))]) (st := [.int s79]) (st2 := [.int (f_Mclashes s45 i45 i66 i79 (cn (s45 5007 i79)) B sp), .int s79]) O (ct_X14_clashes hl (z := z) (σ := s45) hbs (R := R) ((((((congrFun (hP45.2 _ (by omega)) 900).trans (congrFun (uR_ne (by omega)) 900)).trans (congrFun (fr_Cpay ⟨by omega, by omega⟩) 900)).trans (congrFun (uR_ne (by omega)) 900)).trans (congrFun (fr_Cinit (by omega)) 900)).trans hR) (by omega) (B := B) ((((((congrFun (hP45.2 _ (by omega)) 900).trans (congrFun (uR_ne (by omega)) 900)).trans (congrFun (fr_Cpay ⟨by omega, by omega⟩) 900)).trans (congrFun (uR_ne (by omega)) 900)).trans (congrFun (fr_Cinit (by omega)) 900)).trans hB) (by omega) (pk := pk) (fun j9 hj9 => by rw [show s45 (5030 + j9) 900 = σ (5030 + j9) 900 from (((((congrFun (hP45.2 _ (by omega)) 900).trans (congrFun (uR_ne (by omega)) 900)).trans (congrFun (fr_Cpay ⟨by omega, by omega⟩) 900)).trans (congrFun (uR_ne (by omega)) 900)).trans (congrFun (fr_Cinit (by omega)) 900))]; exact hpk j9 hj9) (fun j9 hj9 => by rw [show s45 5005 = va_cpy ((g_Cinit σ R B pk gr cd) 9001) (σ 5005) 0 0 6 from ((((hP45.2 _ (by omega)).trans (uR_ne (by omega))).trans (fr_Cpay ⟨by omega, by omega⟩)).trans (uR_eq _ _ _)), cpy6 (by omega)]; exact hpi j9 hj9) (sp := sp) (fun j9 hj9 => by rw [show s45 (5010 + j9) 0 = σ (5010 + j9) 0 from (((((congrFun (hP45.2 _ (by omega)) 0).trans (congrFun (uR_ne (by omega)) 0)).trans (congrFun (fr_Cpay ⟨by omega, by omega⟩) 0)).trans (congrFun (uR_ne (by omega)) 0)).trans (congrFun (fr_Cinit (by omega)) 0))]; exact hsp j9 hj9) (r := i45) (tn := i66) (r2 := i79) (tn2 := cn (s45 5007 i79)) (by omega) (by omega) (by omega) (by omega)) ce_X14_clashes ml_X14_236 iv_X14_clashes cl_X14 rfl (lm_mod (σ := s45)) (xx_dt dd_X14_keep 67 rfl) (by omega) rfl rfl (Nat.le_of_ble_eq_true rfl) rfl ?_
                refine sw_goto (tgt := 130) O (xx_dt dd_X14_keep 68 rfl) (by decide) ?_
                refine sw_iadd O (xx_dt dd_X14_keep 70 rfl) ?_
                refine sw_istore (ls2 := [.ref 5000, .ref 9000, .int (nI i45), .int (nI (s66.1)), .int s66.2, .int (nI i66), .int (s79 + (f_Mclashes s45 i45 i66 i79 (cn (s45 5007 i79)) B sp)), .int (nI i79)]) O (xx_dt dd_X14_keep 71 rfl) (by decide) rfl ?_
                refine sw_iinc (y := nI (i79 + 1)) (ls2 := [.ref 5000, .ref 9000, .int (nI i45), .int (nI (s66.1)), .int s66.2, .int (nI i66), .int (s79 + (f_Mclashes s45 i45 i66 i79 (cn (s45 5007 i79)) B sp)), .int (nI (i79 + 1))]) O (xx_dt dd_X14_keep 72 rfl) rfl (nI_1 _) (by decide) rfl ?_
                refine sw_goto (tgt := 79) O (xx_dt dd_X14_keep 73 rfl) (by decide) ?_
                simp only [if_pos q4] at kk79
                exact kk79
          · show SW Y _ _ (setM z s45 h) 79 [.ref 5000, .ref 9000, .int (nI i45), .int (nI (s66.1)), .int s66.2, .int (nI i66), .int (x_Mkeep_79 σ s45 i45 B sp i66 0), .int (nI i45)] []
            refine sw_iload O (xx_dt dd_X14_keep 43 rfl) rfl ?_
            refine sw_iload_n O (xx_dt dd_X14_keep 44 rfl) rfl ?_
            refine sw_icmp_ge (tgt := 139) O (xx_dt dd_X14_keep 45 rfl) (by decide) (fun q3 => ?_) (fun q3 => ?_)
            · refine sw_iload O (xx_dt dd_X14_keep 74 rfl) rfl ?_
              refine sw_iload O (xx_dt dd_X14_keep 75 rfl) rfl ?_
              refine sw_icmp_lt (tgt := 149) O (xx_dt dd_X14_keep 76 rfl) (by decide) (fun q5 => ?_) (fun q5 => ?_)
              · refine sw_iload O (xx_dt dd_X14_keep 78 rfl) rfl ?_
                refine sw_istore (ls2 := [.ref 5000, .ref 9000, .int (nI i45), .int (nI (s66.1)), .int (x_Mkeep_79 σ s45 i45 B sp i66 0), .int (nI i66), .int (x_Mkeep_79 σ s45 i45 B sp i66 0), .int (nI i45)]) O (xx_dt dd_X14_keep 79 rfl) (by decide) rfl ?_
                refine sw_iload O (xx_dt dd_X14_keep 80 rfl) rfl ?_
                refine sw_istore_n (ls2 := [.ref 5000, .ref 9000, .int (nI i45), .int (nI i66), .int (x_Mkeep_79 σ s45 i45 B sp i66 0), .int (nI i66), .int (x_Mkeep_79 σ s45 i45 B sp i66 0), .int (nI i45)]) O (xx_dt dd_X14_keep 81 rfl) (by decide) rfl ?_
                refine sw_iinc (y := nI (i66 + 1)) (ls2 := [.ref 5000, .ref 9000, .int (nI i45), .int (nI i66), .int (x_Mkeep_79 σ s45 i45 B sp i66 0), .int (nI (i66 + 1)), .int (x_Mkeep_79 σ s45 i45 B sp i66 0), .int (nI i45)]) O (xx_dt dd_X14_keep 82 rfl) rfl (nI_1 _) (by decide) rfl ?_
                refine sw_goto (tgt := 66) O (xx_dt dd_X14_keep 83 rfl) (by decide) ?_
                refine sw_dum (ls2 := [.ref 5000, .ref 9000, .int (nI i45), .int (nI i66), .int (x_Mkeep_79 σ s45 i45 B sp i66 0), .int (nI (i66 + 1)), xx_d, xx_d]) ⟨.inr rfl, .inr rfl, .inr rfl, .inr rfl, .inr rfl, .inr rfl, .inl rfl, .inl rfl, trivial⟩ ?_
                simp only [if_pos q5] at kk66
                exact kk66
              · refine sw_goto (tgt := 156) O (xx_dt dd_X14_keep 77 rfl) (by decide) ?_
                refine sw_iinc (y := nI (i66 + 1)) (ls2 := [.ref 5000, .ref 9000, .int (nI i45), .int (nI (s66.1)), .int s66.2, .int (nI (i66 + 1)), .int (x_Mkeep_79 σ s45 i45 B sp i66 0), .int (nI i45)]) O (xx_dt dd_X14_keep 82 rfl) rfl (nI_1 _) (by decide) rfl ?_
                refine sw_goto (tgt := 66) O (xx_dt dd_X14_keep 83 rfl) (by decide) ?_
                refine sw_dum (ls2 := [.ref 5000, .ref 9000, .int (nI i45), .int (nI (s66.1)), .int s66.2, .int (nI (i66 + 1)), xx_d, xx_d]) ⟨.inr rfl, .inr rfl, .inr rfl, .inr rfl, .inr rfl, .inr rfl, .inl rfl, .inl rfl, trivial⟩ ?_
                simp only [if_neg q5] at kk66
                exact kk66
            · exact absurd (Int32.le_refl _) q3
      · show SW Y _ _ (setM z s45 h) 66 [.ref 5000, .ref 9000, .int (nI i45), .int (nI ((x_Mkeep_66 σ s45 i45 B sp (0, 999)).1)), .int ((x_Mkeep_66 σ s45 i45 B sp (0, 999)).2), .int (nI 6), xx_d, xx_d] []
        have hP66 : (x_Mkeep_66 σ s45 i45 B sp (0, 999)).1 < 6 := hP66
        refine sw_iload O (xx_dt dd_X14_keep 36 rfl) rfl ?_
        refine sw_bipush (x := 6) O (xx_dt dd_X14_keep 37 rfl) (by decide) ?_
        refine sw_icmp_ge (tgt := 162) O (xx_dt dd_X14_keep 38 rfl) (by decide) (fun q2 => ?_) (fun q2 => ?_)
        · refine sw_aload_n O (xx_dt dd_X14_keep 84 rfl) rfl ?_
          refine sw_get (v := .ref 5007) O (xx_dt dd_X14_keep 85 rfl) cl_X14 fl_X14_43 (lm_mod (σ := s45)) (by decide) rfl ?_
          refine sw_iload_n O (xx_dt dd_X14_keep 86 rfl) rfl ?_
          refine sw_iload_n O (xx_dt dd_X14_keep 87 rfl) rfl ?_
          refine sw_iastore (h2 := setM z (u2 s45 5007 i45 (nI ((x_Mkeep_66 σ s45 i45 B sp (0, 999)).1))) h) O (xx_dt dd_X14_keep 88 rfl) ((im_5007 (z := z) (σ := s45)).get _) (pk_in i45 _ (by omega)) (by omega) (by rw [nI_clamp (by omega)]; exact ((im_5007 (z := z) (σ := s45)).put (by omega))) ?_
          refine sw_iinc (y := nI (i45 + 1)) (ls2 := [.ref 5000, .ref 9000, .int (nI (i45 + 1)), .int (nI ((x_Mkeep_66 σ s45 i45 B sp (0, 999)).1)), .int ((x_Mkeep_66 σ s45 i45 B sp (0, 999)).2), .int (nI 6), xx_d, xx_d]) O (xx_dt dd_X14_keep 89 rfl) rfl (nI_1 _) (by decide) rfl ?_
          refine sw_goto (tgt := 45) O (xx_dt dd_X14_keep 90 rfl) (by decide) ?_
          refine sw_dum (ls2 := [.ref 5000, .ref 9000, .int (nI (i45 + 1)), xx_d, xx_d, xx_d, xx_d, xx_d]) ⟨.inr rfl, .inr rfl, .inr rfl, .inl rfl, .inl rfl, .inl rfl, .inr rfl, .inr rfl, trivial⟩ ?_
          exact kk45
        · exact absurd (Int32.le_refl _) q2
  · show SW Y _ _ (setM z (x_Mkeep_45 σ B R sp (uR (g_Cpay (uR (g_Cinit σ R B pk gr cd) 5005 (va_cpy ((g_Cinit σ R B pk gr cd) 9001) (σ 5005) 0 0 6)) wy 20000 B) 5006 (va_cpy ((g_Cpay (uR (g_Cinit σ R B pk gr cd) 5005 (va_cpy ((g_Cinit σ R B pk gr cd) 9001) (σ 5005) 0 0 6)) wy 20000 B) 20000) (σ 5006) 0 0 6))) h) 45 [.ref 5000, .ref 9000, .int (nI R), xx_d, xx_d, xx_d, xx_d, xx_d] []
    have hP45 : (∀ r9, r9 < 5 → (x_Mkeep_45 σ B R sp (uR (g_Cpay (uR (g_Cinit σ R B pk gr cd) 5005 (va_cpy ((g_Cinit σ R B pk gr cd) 9001) (σ 5005) 0 0 6)) wy 20000 B) 5006 (va_cpy ((g_Cpay (uR (g_Cinit σ R B pk gr cd) 5005 (va_cpy ((g_Cinit σ R B pk gr cd) 9001) (σ 5005) 0 0 6)) wy 20000 B) 20000) (σ 5006) 0 0 6))) 5007 r9 = nI (cn ((x_Mkeep_45 σ B R sp (uR (g_Cpay (uR (g_Cinit σ R B pk gr cd) 5005 (va_cpy ((g_Cinit σ R B pk gr cd) 9001) (σ 5005) 0 0 6)) wy 20000 B) 5006 (va_cpy ((g_Cpay (uR (g_Cinit σ R B pk gr cd) 5005 (va_cpy ((g_Cinit σ R B pk gr cd) 9001) (σ 5005) 0 0 6)) wy 20000 B) 20000) (σ 5006) 0 0 6))) 5007 r9)) ∧ cn ((x_Mkeep_45 σ B R sp (uR (g_Cpay (uR (g_Cinit σ R B pk gr cd) 5005 (va_cpy ((g_Cinit σ R B pk gr cd) 9001) (σ 5005) 0 0 6)) wy 20000 B) 5006 (va_cpy ((g_Cpay (uR (g_Cinit σ R B pk gr cd) 5005 (va_cpy ((g_Cinit σ R B pk gr cd) 9001) (σ 5005) 0 0 6)) wy 20000 B) 20000) (σ 5006) 0 0 6))) 5007 r9) < 6) ∧ (∀ q, q ≠ 5007 → (x_Mkeep_45 σ B R sp (uR (g_Cpay (uR (g_Cinit σ R B pk gr cd) 5005 (va_cpy ((g_Cinit σ R B pk gr cd) 9001) (σ 5005) 0 0 6)) wy 20000 B) 5006 (va_cpy ((g_Cpay (uR (g_Cinit σ R B pk gr cd) 5005 (va_cpy ((g_Cinit σ R B pk gr cd) 9001) (σ 5005) 0 0 6)) wy 20000 B) 20000) (σ 5006) 0 0 6))) q = (uR (g_Cpay (uR (g_Cinit σ R B pk gr cd) 5005 (va_cpy ((g_Cinit σ R B pk gr cd) 9001) (σ 5005) 0 0 6)) wy 20000 B) 5006 (va_cpy ((g_Cpay (uR (g_Cinit σ R B pk gr cd) 5005 (va_cpy ((g_Cinit σ R B pk gr cd) 9001) (σ 5005) 0 0 6)) wy 20000 B) 20000) (σ 5006) 0 0 6)) q) := hP45
    refine sw_iload_n O (xx_dt dd_X14_keep 25 rfl) rfl ?_
    refine sw_aload_n O (xx_dt dd_X14_keep 26 rfl) rfl ?_
    refine sw_get (v := .ref 5001) O (xx_dt dd_X14_keep 27 rfl) cl_X14 fl_X14_23 (lm_mod (σ := (x_Mkeep_45 σ B R sp (uR (g_Cpay (uR (g_Cinit σ R B pk gr cd) 5005 (va_cpy ((g_Cinit σ R B pk gr cd) 9001) (σ 5005) 0 0 6)) wy 20000 B) 5006 (va_cpy ((g_Cpay (uR (g_Cinit σ R B pk gr cd) 5005 (va_cpy ((g_Cinit σ R B pk gr cd) 9001) (σ 5005) 0 0 6)) wy 20000 B) 20000) (σ 5006) 0 0 6))))) (by decide) rfl ?_
    refine sw_callVL (ci := 6) (as := []) (st := [.int (nI R)]) (st2 := [.int (nI R), .int (nI R)]) O (ct_AL_size hl (lm_5001 (σ := (x_Mkeep_45 σ B R sp (uR (g_Cpay (uR (g_Cinit σ R B pk gr cd) 5005 (va_cpy ((g_Cinit σ R B pk gr cd) 9001) (σ 5005) 0 0 6)) wy 20000 B) 5006 (va_cpy ((g_Cpay (uR (g_Cinit σ R B pk gr cd) 5005 (va_cpy ((g_Cinit σ R B pk gr cd) 9001) (σ 5005) 0 0 6)) wy 20000 B) 20000) (σ 5006) 0 0 6)))) (R := R) ((((((congrFun (hP45.2 _ (by omega)) 900).trans (congrFun (uR_ne (by omega)) 900)).trans (congrFun (fr_Cpay ⟨by omega, by omega⟩) 900)).trans (congrFun (uR_ne (by omega)) 900)).trans (congrFun (fr_Cinit (by omega)) 900)).trans hR) (by omega))) ce_Jx4a65c_size_8abf5 ml_X14_57 iv_Jx4a65c_size_8abf5 cl_Jx4a65c rfl (lm_5001 (σ := (x_Mkeep_45 σ B R sp (uR (g_Cpay (uR (g_Cinit σ R B pk gr cd) 5005 (va_cpy ((g_Cinit σ R B pk gr cd) 9001) (σ 5005) 0 0 6)) wy 20000 B) 5006 (va_cpy ((g_Cpay (uR (g_Cinit σ R B pk gr cd) 5005 (va_cpy ((g_Cinit σ R B pk gr cd) 9001) (σ 5005) 0 0 6)) wy 20000 B) 20000) (σ 5006) 0 0 6)))) (R := R) ((((((congrFun (hP45.2 _ (by omega)) 900).trans (congrFun (uR_ne (by omega)) 900)).trans (congrFun (fr_Cpay ⟨by omega, by omega⟩) 900)).trans (congrFun (uR_ne (by omega)) 900)).trans (congrFun (fr_Cinit (by omega)) 900)).trans hR) (by omega)) (xx_dt dd_X14_keep 28 rfl) (by omega) rfl rfl (Nat.le_of_ble_eq_true rfl) rfl ?_
    refine sw_icmp_ge (tgt := 175) O (xx_dt dd_X14_keep 29 rfl) (by decide) (fun q1 => ?_) (fun q1 => ?_)
    · have me9 : mem_eq σ (u2 (u2 (x_Mkeep_45 σ B R sp (uR (g_Cpay (uR (g_Cinit σ R B pk gr cd) 5005 (va_cpy ((g_Cinit σ R B pk gr cd) 9001) (σ 5005) 0 0 6)) wy 20000 B) 5006 (va_cpy ((g_Cpay (uR (g_Cinit σ R B pk gr cd) 5005 (va_cpy ((g_Cinit σ R B pk gr cd) 9001) (σ 5005) 0 0 6)) wy 20000 B) 20000) (σ 5006) 0 0 6))) 9000 20 0) 20000 20 0) := (mem_eq.frame (τ0 := σ) hme (fun q h1 h2 h3 => by simp (disch := omega) only [u2_ne, uR_ne, fr_Cinit, fr_Cpay1, fr_Cpay2, fr_Cpay, fr_x45]) rfl (fun q h1 h2 => by by_cases e0 : q = 20000; (subst e0; rfl); ((simp (disch := omega) only [u2_ne, uR_ne, fr_Cinit, fr_Cpay1, fr_Cpay2, fr_Cpay, fr_x45]; exact (hme.2.2 q h1 h2).1))))
      exact sw_retD (h' := setM z (u2 (u2 (x_Mkeep_45 σ B R sp (uR (g_Cpay (uR (g_Cinit σ R B pk gr cd) 5005 (va_cpy ((g_Cinit σ R B pk gr cd) 9001) (σ 5005) 0 0 6)) wy 20000 B) 5006 (va_cpy ((g_Cpay (uR (g_Cinit σ R B pk gr cd) 5005 (va_cpy ((g_Cinit σ R B pk gr cd) 9001) (σ 5005) 0 0 6)) wy 20000 B) 20000) (σ 5006) 0 0 6))) 9000 20 0) 20000 20 0) h) O (xx_dt dd_X14_keep 91 rfl) rfl (xx_sub.trans (dropT (by omega) hfr) (drop9 hfr)) (me9.cls hcl) (by rw [hh]; exact fun r hr => me9.dom hr) (by rw [hQ]; exact ⟨rfl, by unfold g_Mkeep; rfl⟩)
    · exact absurd (Int32.le_refl _) q1
theorem fr_Mkeep {σ : XS9} {R B : Nat} {pk gr : Nat → Nat} {cd : Nat → Nat → Nat} {wy : Nat} {sp : Nat → Nat} {q : Nat} (h : (q < 5005 ∨ 5007 < q) ∧ (q < 9000 ∨ 9005 < q) ∧ (q < 20000 ∨ 20010 ≤ q) ∧ B ≤ 6) : g_Mkeep σ R B pk gr cd wy sp q = σ q := by
  unfold g_Mkeep
  simp (disch := omega) only [u2_ne, uR_ne, fr_x45, fr_Cpay, fr_Cinit]
def f_Msettle (σ : XS9) (x : Int32) (R B : Nat) (pk gr : Nat → Nat) (cd : Nat → Nat → Nat) (sp : Nat → Nat) : Int32 := (if n_bt x 0 2 then (if (σ 5000 1) = 2 then f_MwinnersKept (g_Mkeep (u2 (u2 (u2 σ 5000 0 0) 5000 1 3) 5000 7 (nI (cn x))) R B pk gr cd (cn x) sp) B else 0) else 0)
def g_Msettle (σ : XS9) (x : Int32) (R B : Nat) (pk gr : Nat → Nat) (cd : Nat → Nat → Nat) (sp : Nat → Nat) : XS9 := (if n_bt x 0 2 then (if (σ 5000 1) = 2 then g_Mkeep (u2 (u2 (u2 σ 5000 0 0) 5000 1 3) 5000 7 (nI (cn x))) R B pk gr cd (cn x) sp else u2 (u2 σ 5000 0 0) 5000 0 2) else u2 (u2 σ 5000 0 0) 5000 0 1)
theorem ct_X14_settle {l : Launch} {h : XH} (hl : l.stackTraces = false) {z : Int64} {σ : XS9} (hbs : xx_bs h) {x : Int32} (hfr : ∀ r, 5000 ≤ r → r < 20010 → h r = none) (hme : mem_eq σ σ) {R : Nat} (hR : σ 5001 900 = nI R) (hR5 : R ≤ 5) {B : Nat} (hB : σ 5002 900 = nI B) (hB6 : B ≤ 6) {pk : Nat → Nat} (hpk : ∀ j, j < B → σ (5030 + j) 900 = nI (2 * pk j) ∧ pk j ≤ 6) {gr : Nat → Nat} (hgr : ∀ j, j < B → σ (5020 + j) 3 = nI (gr j) ∧ gr j < 4) {cd : Nat → Nat → Nat} (hcd : ∀ j k, j < B → k < pk j → σ (5030 + j) (2 * k) = nI (cd j k) ∧ cd j k < 7776) (hpi : ∀ j, j < B → g_Cinit (u2 (u2 (u2 σ 5000 0 0) 5000 1 3) 5000 7 (nI (cn x))) R B pk gr cd 9001 j = -1 ∨ ∃ n, n < pk j ∧ g_Cinit (u2 (u2 (u2 σ 5000 0 0) 5000 1 3) 5000 7 (nI (cn x))) R B pk gr cd 9001 j = nI n) (hterm : ∃ r, xitR (p2_step 20000 B) 20000000 0 (g_Cpay20 (uR (g_Cinit (u2 (u2 (u2 σ 5000 0 0) 5000 1 3) 5000 7 (nI (cn x))) R B pk gr cd) 5005 (va_cpy (g_Cinit (u2 (u2 (u2 σ 5000 0 0) 5000 1 3) 5000 7 (nI (cn x))) R B pk gr cd 9001) ((u2 (u2 (u2 σ 5000 0 0) 5000 1 3) 5000 7 (nI (cn x))) 5005) 0 0 6)) 20000 B) = .inr r) (htn9 : ∀ r, r < 5 → σ 5007 r = nI (cn (σ 5007 r)) ∧ cn (σ 5007 r) < 6) {sp : Nat → Nat} (hsp : ∀ r, r < R → σ (5010 + r) 0 = nI (sp r) ∧ sp r ≤ 5)  : XEx l m_X14_settle 24 7 114 [.ref 5000, .int x] (setM z σ h) (some (.int (f_Msettle σ x R B pk gr cd sp))) (setM z (g_Msettle σ x R B pk gr cd sp) h) := by
  refine XMet.of hl rfl rfl (Nat.le_of_ble_eq_true rfl) (fun Y O hh hQ => ?_)
  show SW Y 7 114 (setM z σ h) 0 [.ref 5000, .int x] []
  refine sw_aload_n O (xx_dt dd_X14_settle 0 rfl) rfl ?_
  refine sw_iconst (x := 0) O (xx_dt dd_X14_settle 1 rfl) (by decide) ?_
  refine sw_put (h2 := setM z (u2 σ 5000 0 0) h) O (xx_dt dd_X14_settle 2 rfl) cl_X14 fl_X14_46 (lm_mod (σ := σ)) (by decide) (by omega) rfl (fun _ => ⟨rfl, rfl⟩) (pm_mod (σ := σ) (by omega)) ?_
  refine sw_iload_n O (xx_dt dd_X14_settle 3 rfl) rfl ?_
  refine sw_iconst (x := 0) O (xx_dt dd_X14_settle 4 rfl) (by decide) ?_
  refine sw_iconst (x := 2) O (xx_dt dd_X14_settle 5 rfl) (by decide) ?_
  refine sw_callSx (as := [.int x, .int 0, .int 2]) (st := []) (st2 := [.int (bZ (n_bt x 0 2))]) O (ct_X14_is hl) ce_X14_is ml_X14_70 st_X14_is (xx_dt dd_X14_settle 6 rfl) (by omega) rfl rfl (Nat.le_of_ble_eq_true rfl) rfl ?_
  refine sw_if_neB (tgt := 20) O (xx_dt dd_X14_settle 7 rfl) (by decide) (fun q1 => ?_) (fun q1 => ?_)
  · have hc11 := (bt_nat 2 q1 (by decide) rfl (by decide))
    refine sw_lsE (ls2 := [.ref 5000, .int (nI (cn x))]) (by rw [← hc11.1]) ?_
    have hd11 := hc11.2
    refine sw_aload_n O (xx_dt dd_X14_settle 12 rfl) rfl ?_
    refine sw_get (v := .int (σ 5000 1)) O (xx_dt dd_X14_settle 13 rfl) cl_X14 fl_X14_77 (lm_mod (σ := u2 σ 5000 0 0)) (by decide) rfl ?_
    refine sw_iconst (x := 2) O (xx_dt dd_X14_settle 14 rfl) (by decide) ?_
    refine sw_icmp_eq (tgt := 34) O (xx_dt dd_X14_settle 15 rfl) (by decide) (fun q2 => ?_) (fun q2 => ?_)
    · refine sw_aload_n O (xx_dt dd_X14_settle 20 rfl) rfl ?_
      refine sw_iconst (x := 3) O (xx_dt dd_X14_settle 21 rfl) (by decide) ?_
      refine sw_put (h2 := setM z (u2 (u2 σ 5000 0 0) 5000 1 3) h) O (xx_dt dd_X14_settle 22 rfl) cl_X14 fl_X14_77 (lm_mod (σ := u2 σ 5000 0 0)) (by decide) (by omega) rfl (fun _ => ⟨rfl, rfl⟩) (pm_mod (σ := u2 σ 5000 0 0) (by omega)) ?_
      refine sw_aload_n O (xx_dt dd_X14_settle 23 rfl) rfl ?_
      refine sw_iload_n O (xx_dt dd_X14_settle 24 rfl) rfl ?_
      refine sw_put (h2 := setM z (u2 (u2 (u2 σ 5000 0 0) 5000 1 3) 5000 7 (nI (cn x))) h) O (xx_dt dd_X14_settle 25 rfl) cl_X14 fl_X14_230 (lm_mod (σ := u2 (u2 σ 5000 0 0) 5000 1 3)) (by decide) (by omega) rfl (fun _ => ⟨rfl, rfl⟩) (pm_mod (σ := u2 (u2 σ 5000 0 0) 5000 1 3) (by omega)) ?_
      refine sw_aload_n O (xx_dt dd_X14_settle 26 rfl) rfl ?_
      refine sw_callVx (as := []) (st := []) (st2 := []) O (ct_X14_keep hl (z := z) (σ := u2 (u2 (u2 σ 5000 0 0) 5000 1 3) 5000 7 (nI (cn x))) hbs hfr (mem_eq.refl (mem_eq.int (r := 5000) (i := 7) (x := nI (cn x)) (mem_eq.int (r := 5000) (i := 1) (x := 3) (mem_eq.int (r := 5000) (i := 0) (x := 0) hme (notCtl (by omega) _)) (notCtl (by omega) _)) (notCtl (by omega) _))) (R := R) hR (by omega) (B := B) hB (by omega) (pk := pk) (gr := gr) (cd := cd) (fun j9 hj9 => by rw [(((u2_ne (by omega)).trans (u2_ne (by omega))).trans (u2_ne (by omega)))]; exact hpk j9 hj9) (fun j9 hj9 => by rw [show (u2 (u2 (u2 σ 5000 0 0) 5000 1 3) 5000 7 (nI (cn x))) (5020 + j9) 3 = σ (5020 + j9) 3 from (((congrFun (u2_ne (by omega)) 3).trans (congrFun (u2_ne (by omega)) 3)).trans (congrFun (u2_ne (by omega)) 3))]; exact hgr j9 hj9) (fun j9 k9 hj9 hk9 => by rw [(((u2_ne (by omega)).trans (u2_ne (by omega))).trans (u2_ne (by omega)))]; exact hcd j9 k9 hj9 hk9) hpi (wy := cn x) rfl (by omega) (fun _ => hterm) (fun r9 hr9 => by rw [show (u2 (u2 (u2 σ 5000 0 0) 5000 1 3) 5000 7 (nI (cn x))) 5007 = σ 5007 from rfl]; exact htn9 r9 hr9) (sp := sp) (fun j9 hj9 => by rw [show (u2 (u2 (u2 σ 5000 0 0) 5000 1 3) 5000 7 (nI (cn x))) (5010 + j9) 0 = σ (5010 + j9) 0 from (((congrFun (u2_ne (by omega)) 0).trans (congrFun (u2_ne (by omega)) 0)).trans (congrFun (u2_ne (by omega)) 0))]; exact hsp j9 hj9)) ce_X14_keep ml_X14_246 iv_X14_keep cl_X14 rfl (lm_mod (σ := u2 (u2 (u2 σ 5000 0 0) 5000 1 3) 5000 7 (nI (cn x)))) (xx_dt dd_X14_settle 27 rfl) (by omega) rfl rfl (Nat.le_of_ble_eq_true rfl) rfl ?_
      refine sw_aload_n O (xx_dt dd_X14_settle 28 rfl) rfl ?_
      refine sw_callVx (as := []) (st := []) (st2 := [.int (f_MwinnersKept (g_Mkeep (u2 (u2 (u2 σ 5000 0 0) 5000 1 3) 5000 7 (nI (cn x))) R B pk gr cd (cn x) sp) B)]) O (ct_X14_winnersKept hl (z := z) (σ := g_Mkeep (u2 (u2 (u2 σ 5000 0 0) 5000 1 3) 5000 7 (nI (cn x))) R B pk gr cd (cn x) sp) hbs (B := B) ((congrFun (fr_Mkeep ⟨by omega, by omega, by omega, by omega⟩) 900).trans hB) (by omega)  ) ce_X14_winnersKept ml_X14_249 iv_X14_winnersKept cl_X14 rfl (lm_mod (σ := g_Mkeep (u2 (u2 (u2 σ 5000 0 0) 5000 1 3) 5000 7 (nI (cn x))) R B pk gr cd (cn x) sp)) (xx_dt dd_X14_settle 29 rfl) (by omega) rfl rfl (Nat.le_of_ble_eq_true rfl) rfl ?_
      exact sw_iret O (xx_dt dd_X14_settle 30 rfl) rfl rfl (by rw [hQ]; exact ⟨by unfold f_Msettle; simp only [if_pos q1, if_pos q2], by unfold g_Msettle; simp only [if_pos q1, if_pos q2]⟩)
    · refine sw_aload_n O (xx_dt dd_X14_settle 16 rfl) rfl ?_
      refine sw_iconst (x := 2) O (xx_dt dd_X14_settle 17 rfl) (by decide) ?_
      refine sw_callVx (as := [.int 2]) (st := []) (st2 := [.int 0]) O (ct_X14_refuse hl (z := z) (σ := u2 σ 5000 0 0) hbs (x := 2)) ce_X14_refuse ml_X14_74 iv_X14_refuse cl_X14 rfl (lm_mod (σ := u2 σ 5000 0 0)) (xx_dt dd_X14_settle 18 rfl) (by omega) rfl rfl (Nat.le_of_ble_eq_true rfl) rfl ?_
      exact sw_iret O (xx_dt dd_X14_settle 19 rfl) rfl rfl (by rw [hQ]; exact ⟨by unfold f_Msettle; simp only [if_pos q1, if_neg q2], by unfold g_Msettle; simp only [if_pos q1, if_neg q2]⟩)
  · refine sw_aload_n O (xx_dt dd_X14_settle 8 rfl) rfl ?_
    refine sw_iconst (x := 1) O (xx_dt dd_X14_settle 9 rfl) (by decide) ?_
    refine sw_callVx (as := [.int 1]) (st := []) (st2 := [.int 0]) O (ct_X14_refuse hl (z := z) (σ := u2 σ 5000 0 0) hbs (x := 1)) ce_X14_refuse ml_X14_74 iv_X14_refuse cl_X14 rfl (lm_mod (σ := u2 σ 5000 0 0)) (xx_dt dd_X14_settle 10 rfl) (by omega) rfl rfl (Nat.le_of_ble_eq_true rfl) rfl ?_
    exact sw_iret O (xx_dt dd_X14_settle 11 rfl) rfl rfl (by rw [hQ]; exact ⟨by unfold f_Msettle; simp only [if_neg q1], by unfold g_Msettle; simp only [if_neg q1]⟩)
def f_Mfail (σ : XS9) (x : Int32) (R B : Nat) (pk gr : Nat → Nat) (cd : Nat → Nat → Nat) (wy : Nat) (sp : Nat → Nat) : Int32 := (if n_lt x B then (if (σ 5000 1) = 3 then (if (σ 5005 (cn x)) = (-1) then 0 else (f_Bamount (u2 σ 5000 0 0) (cn x) (cn (σ 5005 (cn x)))) / 10) else 0) else 0)
def g_Mfail (σ : XS9) (x : Int32) (R B : Nat) (pk gr : Nat → Nat) (cd : Nat → Nat → Nat) (wy : Nat) (sp : Nat → Nat) : XS9 := (if n_lt x B then (if (σ 5000 1) = 3 then (if (σ 5005 (cn x)) = (-1) then u2 (u2 σ 5000 0 0) 5000 0 2 else g_Mkeep (u2 (u2 (u2 σ 5000 0 0) 5000 5 ((σ 5000 5) + ((f_Bamount (u2 σ 5000 0 0) (cn x) (cn (σ 5005 (cn x)))) / 10))) (5020 + cn x) 4 1) R B pk gr cd wy sp) else u2 (u2 σ 5000 0 0) 5000 0 2) else u2 (u2 σ 5000 0 0) 5000 0 1)
theorem ct_X14_fail {l : Launch} {h : XH} (hl : l.stackTraces = false) {z : Int64} {σ : XS9} (hbs : xx_bs h) {x : Int32} (hfr : ∀ r, 5000 ≤ r → r < 20010 → h r = none) (hme : mem_eq σ σ) {R : Nat} (hR : σ 5001 900 = nI R) (hR5 : R ≤ 5) {B : Nat} (hB : σ 5002 900 = nI B) (hB6 : B ≤ 6) {pk : Nat → Nat} (hpk : ∀ j, j < B → σ (5030 + j) 900 = nI (2 * pk j) ∧ pk j ≤ 6) {gr : Nat → Nat} (hgr : ∀ j, j < B → σ (5020 + j) 3 = nI (gr j) ∧ gr j < 4) {cd : Nat → Nat → Nat} (hcd : ∀ j k, j < B → k < pk j → σ (5030 + j) (2 * k) = nI (cd j k) ∧ cd j k < 7776) (hpi : ∀ j, j < B → g_Cinit (u2 (u2 (u2 σ 5000 0 0) 5000 5 ((σ 5000 5) + ((f_Bamount (u2 σ 5000 0 0) (cn x) (cn (σ 5005 (cn x)))) / 10))) (5020 + cn x) 4 1) R B pk gr cd 9001 j = -1 ∨ ∃ n, n < pk j ∧ g_Cinit (u2 (u2 (u2 σ 5000 0 0) 5000 5 ((σ 5000 5) + ((f_Bamount (u2 σ 5000 0 0) (cn x) (cn (σ 5005 (cn x)))) / 10))) (5020 + cn x) 4 1) R B pk gr cd 9001 j = nI n) (hterm : ∃ r, xitR (p2_step 20000 B) 20000000 0 (g_Cpay20 (uR (g_Cinit (u2 (u2 (u2 σ 5000 0 0) 5000 5 ((σ 5000 5) + ((f_Bamount (u2 σ 5000 0 0) (cn x) (cn (σ 5005 (cn x)))) / 10))) (5020 + cn x) 4 1) R B pk gr cd) 5005 (va_cpy (g_Cinit (u2 (u2 (u2 σ 5000 0 0) 5000 5 ((σ 5000 5) + ((f_Bamount (u2 σ 5000 0 0) (cn x) (cn (σ 5005 (cn x)))) / 10))) (5020 + cn x) 4 1) R B pk gr cd 9001) ((u2 (u2 (u2 σ 5000 0 0) 5000 5 ((σ 5000 5) + ((f_Bamount (u2 σ 5000 0 0) (cn x) (cn (σ 5005 (cn x)))) / 10))) (5020 + cn x) 4 1) 5005) 0 0 6)) 20000 B) = .inr r) {wy : Nat} (hwy : σ 5000 7 = nI wy) (hwy3 : wy < 3) (htn9 : ∀ r, r < 5 → σ 5007 r = nI (cn (σ 5007 r)) ∧ cn (σ 5007 r) < 6) {sp : Nat → Nat} (hsp : ∀ r, r < R → σ (5010 + r) 0 = nI (sp r) ∧ sp r ≤ 5) (hkp : σ 5000 1 = 3 → ∀ j, j < B → σ 5005 j = -1 ∨ ∃ n, n < pk j ∧ σ 5005 j = nI n)  : XEx l m_X14_fail 24 7 114 [.ref 5000, .int x] (setM z σ h) (some (.int (f_Mfail σ x R B pk gr cd wy sp))) (setM z (g_Mfail σ x R B pk gr cd wy sp) h) := by
  refine XMet.of hl rfl rfl (Nat.le_of_ble_eq_true rfl) (fun Y O hh hQ => ?_)
  show SW Y 7 114 (setM z σ h) 0 [.ref 5000, .int x, xx_d] []
  refine sw_aload_n O (xx_dt dd_X14_fail 0 rfl) rfl ?_
  refine sw_iconst (x := 0) O (xx_dt dd_X14_fail 1 rfl) (by decide) ?_
  refine sw_put (h2 := setM z (u2 σ 5000 0 0) h) O (xx_dt dd_X14_fail 2 rfl) cl_X14 fl_X14_46 (lm_mod (σ := σ)) (by decide) (by omega) rfl (fun _ => ⟨rfl, rfl⟩) (pm_mod (σ := σ) (by omega)) ?_
  refine sw_aload_n O (xx_dt dd_X14_fail 3 rfl) rfl ?_
  refine sw_iload_n O (xx_dt dd_X14_fail 4 rfl) rfl ?_
  refine sw_callVx (as := [.int x]) (st := []) (st2 := [.int (bZ (n_lt x B))]) O (ct_X14_isBidder hl (z := z) (σ := u2 σ 5000 0 0) hbs (B := B) hB (by omega) (x := x)) ce_X14_isBidder ml_X14_156 iv_X14_isBidder cl_X14 rfl (lm_mod (σ := u2 σ 5000 0 0)) (xx_dt dd_X14_fail 5 rfl) (by omega) rfl rfl (Nat.le_of_ble_eq_true rfl) rfl ?_
  refine sw_if_neB (tgt := 19) O (xx_dt dd_X14_fail 6 rfl) (by decide) (fun q1 => ?_) (fun q1 => ?_)
  · have hc10 := q1
    refine sw_lsE (ls2 := [.ref 5000, .int (nI (cn x)), xx_d]) (by rw [← hc10.1]) ?_
    have hd10 := hc10.2
    refine sw_aload_n O (xx_dt dd_X14_fail 11 rfl) rfl ?_
    refine sw_get (v := .int (σ 5000 1)) O (xx_dt dd_X14_fail 12 rfl) cl_X14 fl_X14_77 (lm_mod (σ := u2 σ 5000 0 0)) (by decide) rfl ?_
    refine sw_iconst (x := 3) O (xx_dt dd_X14_fail 13 rfl) (by decide) ?_
    refine sw_icmp_ne (tgt := 37) O (xx_dt dd_X14_fail 14 rfl) (by decide) (fun q2 => ?_) (fun q2 => ?_)
    · refine sw_aload_n O (xx_dt dd_X14_fail 21 rfl) rfl ?_
      refine sw_iconst (x := 2) O (xx_dt dd_X14_fail 22 rfl) (by decide) ?_
      refine sw_callVx (as := [.int 2]) (st := []) (st2 := [.int 0]) O (ct_X14_refuse hl (z := z) (σ := u2 σ 5000 0 0) hbs (x := 2)) ce_X14_refuse ml_X14_74 iv_X14_refuse cl_X14 rfl (lm_mod (σ := u2 σ 5000 0 0)) (xx_dt dd_X14_fail 23 rfl) (by omega) rfl rfl (Nat.le_of_ble_eq_true rfl) rfl ?_
      exact sw_iret O (xx_dt dd_X14_fail 24 rfl) rfl rfl (by rw [hQ]; exact ⟨by unfold f_Mfail; simp only [if_pos q1, if_neg q2], by unfold g_Mfail; simp only [if_pos q1, if_neg q2]⟩)
    · refine sw_aload_n O (xx_dt dd_X14_fail 15 rfl) rfl ?_
      refine sw_get (v := .ref 5005) O (xx_dt dd_X14_fail 16 rfl) cl_X14 fl_X14_36 (lm_mod (σ := u2 σ 5000 0 0)) (by decide) rfl ?_
      refine sw_iload_n O (xx_dt dd_X14_fail 17 rfl) rfl ?_
      refine sw_iaload (v := .int (σ 5005 (cn x))) O (xx_dt dd_X14_fail 18 rfl) ((im_5005 (z := z) (σ := u2 σ 5000 0 0)).get _) (pk_in (cn x) _ (by omega)) (by rw [nI_clamp (by omega)]; try exact rfl) ?_
      refine sw_iconst (x := (-1)) O (xx_dt dd_X14_fail 19 rfl) (by decide) ?_
      refine sw_icmp_ne (tgt := 43) O (xx_dt dd_X14_fail 20 rfl) (by decide) (fun q3 => ?_) (fun q3 => ?_)
      · have hc34 := (kept_nat (hkp q2 _ (by omega)) q3 (by have := (hpk (cn x) (by omega)).2; omega))
        have hd34 := hc34.2
        refine sw_aload_n O (xx_dt dd_X14_fail 25 rfl) rfl ?_
        refine sw_get (v := .ref 5002) O (xx_dt dd_X14_fail 26 rfl) cl_X14 fl_X14_27 (lm_mod (σ := u2 σ 5000 0 0)) (by decide) rfl ?_
        refine sw_iload_n O (xx_dt dd_X14_fail 27 rfl) rfl ?_
        refine sw_callVL (ci := 6) (as := [.int (nI (cn x))]) (st := []) (st2 := [.ref (5020 + cn x)]) O (ct_get hl hbs (lm_5002 (σ := u2 σ 5000 0 0) (B := B) hB (by omega)) (by omega) (i := cn x) (x := 5020 + cn x) (by omega) (by omega) rfl) ce_Jx4a65c_get_915e3 ml_X14_61 iv_Jx4a65c_get_915e3 cl_Jx4a65c rfl (lm_5002 (σ := u2 σ 5000 0 0) (B := B) hB (by omega)) (xx_dt dd_X14_fail 28 rfl) (by omega) rfl rfl (Nat.le_of_ble_eq_true rfl) rfl ?_
        refine sw_castO O (xx_dt dd_X14_fail 29 rfl) cl_X9 (lm_bid (σ := u2 σ 5000 0 0) (B := B) hB (by omega) (j := cn x) (by omega)) cw_X14_118 ?_
        refine sw_aload_n O (xx_dt dd_X14_fail 30 rfl) rfl ?_
        refine sw_get (v := .ref 5005) O (xx_dt dd_X14_fail 31 rfl) cl_X14 fl_X14_36 (lm_mod (σ := u2 σ 5000 0 0)) (by decide) rfl ?_
        refine sw_iload_n O (xx_dt dd_X14_fail 32 rfl) rfl ?_
        refine sw_iaload (v := .int (nI (cn (σ 5005 (cn x))))) O (xx_dt dd_X14_fail 33 rfl) ((im_5005 (z := z) (σ := u2 σ 5000 0 0)).get _) (pk_in (cn x) _ (by omega)) (by rw [nI_clamp (by omega)]; exact (congrArg Value.int hc34.1)) ?_
        refine sw_callVx (as := [.int (nI (cn (σ 5005 (cn x))))]) (st := []) (st2 := [.int (f_Bamount (u2 σ 5000 0 0) (cn x) (cn (σ 5005 (cn x))))]) O (ct_X9_amount hl (z := z) (σ := u2 σ 5000 0 0) hbs (B := B) hB (by omega) (j := cn x) (by omega) (p := pk (cn x)) ((congrFun (u2_ne (by omega)) 900).trans (hpk (cn x) (by omega)).1) (by have h9 := (hpk (cn x) (by omega)).2; omega) (k := cn (σ 5005 (cn x))) (by first | omega | (have h9 := (hpk (cn x) (by omega)).2; omega))) ce_X9_amount ml_X14_252 iv_X9_amount cl_X9 rfl (lm_bid (σ := u2 σ 5000 0 0) (B := B) hB (by omega) (j := cn x) (by omega)) (xx_dt dd_X14_fail 34 rfl) (by omega) rfl rfl (Nat.le_of_ble_eq_true rfl) rfl ?_
        refine sw_bipush (x := 10) O (xx_dt dd_X14_fail 35 rfl) (by decide) ?_
        refine sw_idiv O (xx_dt dd_X14_fail 36 rfl) (by first | decide | assumption) ?_
        refine sw_istore_n (ls2 := [.ref 5000, .int (nI (cn x)), .int ((f_Bamount (u2 σ 5000 0 0) (cn x) (cn (σ 5005 (cn x)))) / 10)]) O (xx_dt dd_X14_fail 37 rfl) (by decide) rfl ?_
        refine sw_aload_n O (xx_dt dd_X14_fail 38 rfl) rfl ?_
        refine sw_dup O (xx_dt dd_X14_fail 39 rfl) rfl ?_
        refine sw_get (v := .int (σ 5000 5)) O (xx_dt dd_X14_fail 40 rfl) cl_X14 fl_X14_255 (lm_mod (σ := u2 σ 5000 0 0)) (by decide) rfl ?_
        refine sw_iload_n O (xx_dt dd_X14_fail 41 rfl) rfl ?_
        refine sw_iadd O (xx_dt dd_X14_fail 42 rfl) ?_
        refine sw_put (h2 := setM z (u2 (u2 σ 5000 0 0) 5000 5 ((σ 5000 5) + ((f_Bamount (u2 σ 5000 0 0) (cn x) (cn (σ 5005 (cn x)))) / 10))) h) O (xx_dt dd_X14_fail 43 rfl) cl_X14 fl_X14_255 (lm_mod (σ := u2 σ 5000 0 0)) (by decide) (by omega) rfl (fun _ => ⟨rfl, rfl⟩) (pm_mod (σ := u2 σ 5000 0 0) (by omega)) ?_
        refine sw_aload_n O (xx_dt dd_X14_fail 44 rfl) rfl ?_
        refine sw_get (v := .ref 5002) O (xx_dt dd_X14_fail 45 rfl) cl_X14 fl_X14_27 (lm_mod (σ := u2 (u2 σ 5000 0 0) 5000 5 ((σ 5000 5) + ((f_Bamount (u2 σ 5000 0 0) (cn x) (cn (σ 5005 (cn x)))) / 10)))) (by decide) rfl ?_
        refine sw_iload_n O (xx_dt dd_X14_fail 46 rfl) rfl ?_
        refine sw_callVL (ci := 6) (as := [.int (nI (cn x))]) (st := []) (st2 := [.ref (5020 + cn x)]) O (ct_get hl hbs (lm_5002 (σ := u2 (u2 σ 5000 0 0) 5000 5 ((σ 5000 5) + ((f_Bamount (u2 σ 5000 0 0) (cn x) (cn (σ 5005 (cn x)))) / 10))) (B := B) hB (by omega)) (by omega) (i := cn x) (x := 5020 + cn x) (by omega) (by omega) rfl) ce_Jx4a65c_get_915e3 ml_X14_61 iv_Jx4a65c_get_915e3 cl_Jx4a65c rfl (lm_5002 (σ := u2 (u2 σ 5000 0 0) 5000 5 ((σ 5000 5) + ((f_Bamount (u2 σ 5000 0 0) (cn x) (cn (σ 5005 (cn x)))) / 10))) (B := B) hB (by omega)) (xx_dt dd_X14_fail 47 rfl) (by omega) rfl rfl (Nat.le_of_ble_eq_true rfl) rfl ?_
        refine sw_castO O (xx_dt dd_X14_fail 48 rfl) cl_X9 (lm_bid (σ := u2 (u2 σ 5000 0 0) 5000 5 ((σ 5000 5) + ((f_Bamount (u2 σ 5000 0 0) (cn x) (cn (σ 5005 (cn x)))) / 10))) (B := B) hB (by omega) (j := cn x) (by omega)) cw_X14_118 ?_
        refine sw_iconst (x := 1) O (xx_dt dd_X14_fail 49 rfl) (by decide) ?_
        refine sw_put (h2 := setM z (u2 (u2 (u2 σ 5000 0 0) 5000 5 ((σ 5000 5) + ((f_Bamount (u2 σ 5000 0 0) (cn x) (cn (σ 5005 (cn x)))) / 10))) (5020 + cn x) 4 1) h) O (xx_dt dd_X14_fail 50 rfl) cl_X9 fl_X14_258 (lm_bid (σ := u2 (u2 σ 5000 0 0) 5000 5 ((σ 5000 5) + ((f_Bamount (u2 σ 5000 0 0) (cn x) (cn (σ 5005 (cn x)))) / 10))) (B := B) hB (by omega) (j := cn x) (by omega)) (by decide) (by omega) rfl (fun _ => ⟨rfl, rfl⟩) (pm_bid (σ := u2 (u2 σ 5000 0 0) 5000 5 ((σ 5000 5) + ((f_Bamount (u2 σ 5000 0 0) (cn x) (cn (σ 5005 (cn x)))) / 10))) (by omega) (B := B) hB (by omega) (j := cn x) (by omega)) ?_
        refine sw_aload_n O (xx_dt dd_X14_fail 51 rfl) rfl ?_
        refine sw_callVx (as := []) (st := []) (st2 := []) O (ct_X14_keep hl (z := z) (σ := u2 (u2 (u2 σ 5000 0 0) 5000 5 ((σ 5000 5) + ((f_Bamount (u2 σ 5000 0 0) (cn x) (cn (σ 5005 (cn x)))) / 10))) (5020 + cn x) 4 1) hbs hfr (mem_eq.refl (mem_eq.int (r := 5020 + cn x) (i := 4) (x := 1) (mem_eq.int (r := 5000) (i := 5) (x := (σ 5000 5) + ((f_Bamount (u2 σ 5000 0 0) (cn x) (cn (σ 5005 (cn x)))) / 10)) (mem_eq.int (r := 5000) (i := 0) (x := 0) hme (notCtl (by omega) _)) (notCtl (by omega) _)) (notCtl (by omega) _))) (R := R) ((congrFun (u2_ne (by omega)) 900).trans hR) (by omega) (B := B) ((congrFun (u2_ne (by omega)) 900).trans hB) (by omega) (pk := pk) (gr := gr) (cd := cd) (fun j9 hj9 => by rw [(((u2_ne (by omega)).trans (u2_ne (by omega))).trans (u2_ne (by omega)))]; exact hpk j9 hj9) (fun j9 hj9 => by rw [show (u2 (u2 (u2 σ 5000 0 0) 5000 5 ((σ 5000 5) + ((f_Bamount (u2 σ 5000 0 0) (cn x) (cn (σ 5005 (cn x)))) / 10))) (5020 + cn x) 4 1) (5020 + j9) 3 = σ (5020 + j9) 3 from (((u2_sl (by decide)).trans (congrFun (u2_ne (by omega)) 3)).trans (congrFun (u2_ne (by omega)) 3))]; exact hgr j9 hj9) (fun j9 k9 hj9 hk9 => by rw [(((u2_ne (by omega)).trans (u2_ne (by omega))).trans (u2_ne (by omega)))]; exact hcd j9 k9 hj9 hk9) hpi (wy := wy) ((congrFun (u2_ne (by omega)) 7).trans hwy) (by omega) (fun _ => hterm) (fun r9 hr9 => by rw [show (u2 (u2 (u2 σ 5000 0 0) 5000 5 ((σ 5000 5) + ((f_Bamount (u2 σ 5000 0 0) (cn x) (cn (σ 5005 (cn x)))) / 10))) (5020 + cn x) 4 1) 5007 = σ 5007 from (u2_ne (by omega))]; exact htn9 r9 hr9) (sp := sp) (fun j9 hj9 => by rw [show (u2 (u2 (u2 σ 5000 0 0) 5000 5 ((σ 5000 5) + ((f_Bamount (u2 σ 5000 0 0) (cn x) (cn (σ 5005 (cn x)))) / 10))) (5020 + cn x) 4 1) (5010 + j9) 0 = σ (5010 + j9) 0 from (((congrFun (u2_ne (by omega)) 0).trans (congrFun (u2_ne (by omega)) 0)).trans (congrFun (u2_ne (by omega)) 0))]; exact hsp j9 hj9)) ce_X14_keep ml_X14_246 iv_X14_keep cl_X14 rfl (lm_mod (σ := u2 (u2 (u2 σ 5000 0 0) 5000 5 ((σ 5000 5) + ((f_Bamount (u2 σ 5000 0 0) (cn x) (cn (σ 5005 (cn x)))) / 10))) (5020 + cn x) 4 1)) (xx_dt dd_X14_fail 52 rfl) (by omega) rfl rfl (Nat.le_of_ble_eq_true rfl) rfl ?_
        refine sw_iload_n O (xx_dt dd_X14_fail 53 rfl) rfl ?_
        exact sw_iret O (xx_dt dd_X14_fail 54 rfl) rfl rfl (by rw [hQ]; exact ⟨by unfold f_Mfail; simp only [if_pos q1, if_pos q2, if_neg q3], by unfold g_Mfail; simp only [if_pos q1, if_pos q2, if_neg q3]⟩)
      · refine sw_aload_n O (xx_dt dd_X14_fail 21 rfl) rfl ?_
        refine sw_iconst (x := 2) O (xx_dt dd_X14_fail 22 rfl) (by decide) ?_
        refine sw_callVx (as := [.int 2]) (st := []) (st2 := [.int 0]) O (ct_X14_refuse hl (z := z) (σ := u2 σ 5000 0 0) hbs (x := 2)) ce_X14_refuse ml_X14_74 iv_X14_refuse cl_X14 rfl (lm_mod (σ := u2 σ 5000 0 0)) (xx_dt dd_X14_fail 23 rfl) (by omega) rfl rfl (Nat.le_of_ble_eq_true rfl) rfl ?_
        exact sw_iret O (xx_dt dd_X14_fail 24 rfl) rfl rfl (by rw [hQ]; exact ⟨by unfold f_Mfail; simp only [if_pos q1, if_pos q2, if_pos q3], by unfold g_Mfail; simp only [if_pos q1, if_pos q2, if_pos q3]⟩)
  · refine sw_aload_n O (xx_dt dd_X14_fail 7 rfl) rfl ?_
    refine sw_iconst (x := 1) O (xx_dt dd_X14_fail 8 rfl) (by decide) ?_
    refine sw_callVx (as := [.int 1]) (st := []) (st2 := [.int 0]) O (ct_X14_refuse hl (z := z) (σ := u2 σ 5000 0 0) hbs (x := 1)) ce_X14_refuse ml_X14_74 iv_X14_refuse cl_X14 rfl (lm_mod (σ := u2 σ 5000 0 0)) (xx_dt dd_X14_fail 9 rfl) (by omega) rfl rfl (Nat.le_of_ble_eq_true rfl) rfl ?_
    exact sw_iret O (xx_dt dd_X14_fail 10 rfl) rfl rfl (by rw [hQ]; exact ⟨by unfold f_Mfail; simp only [if_neg q1], by unfold g_Mfail; simp only [if_neg q1]⟩)
end
