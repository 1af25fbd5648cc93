/-! ===== the reference: worth, wouldPay, objects, sale ===== -/
def g_Cpay (σ : XS9) (w qa B : Nat) : XS9 := if w = 2 then g_Cpay2 σ qa B else g_Cpay1 σ w qa B
theorem ct_X10_payments {l : Launch} {h : XH} (hl : l.stackTraces = false) {z : Int64} {σ : XS9} (hbs : xx_bs h) (hc : σ 9000 20 = nI 1) {B : Nat} (hB : σ 5002 900 = nI B) (hB6 : B ≤ 6) {pk : Nat → Nat} (hpk : ∀ j, j < B → σ (5030 + j) 900 = nI (2 * pk j) ∧ pk j ≤ 6) (hpi : ∀ j, j < B → σ 9001 j = -1 ∨ ∃ n, n < pk j ∧ σ 9001 j = nI n) {qa : Nat} (hqa : 20000 ≤ qa ∧ qa < 20010) (hfr : ∀ r, 5000 ≤ r → r < 20010 → h r = none) (hq0 : σ qa 20 = 0) {w : Nat} (hw3 : w < 3) (hterm : w = 2 → ∃ r, xitR (p2_step qa B) 20000000 0 (g_Cpay20 σ qa B) = .inr r) : XEx l m_X10_payments 6 1 6 [.ref 9000, .int (nI w)] (setM z σ h) (some (.ref qa)) (setM z (g_Cpay σ w qa B) h) := by
  unfold g_Cpay
  by_cases e : w = 2
  · rw [if_pos e]
    subst e
    exact ct_Cpay2 hl hbs hc hB hB6 hpk hpi hqa hfr hq0 (hterm rfl)
  · rw [if_neg e]
    exact ct_Cpay1 hl hbs hc hB hB6 hpk hpi hqa hfr hq0 (by omega)
theorem fr_Cpay {σ : XS9} {w qa B q : Nat} (h : q ≠ qa ∧ B ≤ 6) : g_Cpay σ w qa B q = σ q := by
  unfold g_Cpay
  split
  · exact fr_Cpay2 h
  · exact fr_Cpay1 h.1
theorem fl_Cpay {σ : XS9} {w qa B : Nat} (h : B ≤ 6) : g_Cpay σ w qa B qa 20 = nI 1 ∧ g_Cpay σ w qa B qa 21 = nI 6 := by
  unfold g_Cpay
  split
  · exact ⟨(in_Cpay2 h).1, (in_Cpay2 h).2.1⟩
  · exact in_Cpay1 h
def f_Mworth (σ : XS9) (x : Int32) (R B : Nat) (pk gr : Nat → Nat) (cd : Nat → Nat → Nat) : Int32 := (if n_lt x (2 ^ B) then f_Cworth (g_Cinit (u2 σ 5000 0 0) R B pk gr cd) (cn x) else 0)
def g_Mworth (σ : XS9) (x : Int32) (R B : Nat) (pk gr : Nat → Nat) (cd : Nat → Nat → Nat) : XS9 := (if n_lt x (2 ^ B) then u2 (g_Cinit (u2 σ 5000 0 0) R B pk gr cd) 9000 20 0 else u2 (u2 σ 5000 0 0) 5000 0 1)
theorem ct_X14_worth {l : Launch} {h : XH} (hl : l.stackTraces = false) {z : Int64} {σ : XS9} (hbs : xx_bs h) (hfr : ∀ r, 5000 ≤ r → r < 20010 → h r = none) (hme : mem_eq σ σ) {R : Nat} (hR : σ 5001 900 = nI R) (hR5 : R ≤ 5) {B : Nat} (hB : σ 5002 900 = nI B) (hB6 : B ≤ 6) {pk : Nat → Nat} (hpk : ∀ j, j < B → σ (5030 + j) 900 = nI (2 * pk j) ∧ pk j ≤ 6) {gr : Nat → Nat} (hgr : ∀ j, j < B → σ (5020 + j) 3 = nI (gr j) ∧ gr j < 4) {cd : Nat → Nat → Nat} (hcd : ∀ j k, j < B → k < pk j → σ (5030 + j) (2 * k) = nI (cd j k) ∧ cd j k < 7776) {x : Int32} : XEx l m_X14_worth 22 6 108 [.ref 5000, .int x] (setM z σ h) (some (.int (f_Mworth σ x R B pk gr cd))) (setM z (g_Mworth σ x R B pk gr cd) h) := by
  refine XMet.of hl rfl rfl (Nat.le_of_ble_eq_true rfl) (fun Y O hh hQ => ?_)
  refine sw_cls (fun hcl => ?_)
  show SW Y 6 108 (setM z σ h) 0 [.ref 5000, .int x] []
  refine sw_aload_n O (xx_dt dd_X14_worth 0 rfl) rfl ?_
  refine sw_iconst (x := 0) O (xx_dt dd_X14_worth 1 rfl) (by decide) ?_
  refine sw_put (h2 := setM z (u2 σ 5000 0 0) h) O (xx_dt dd_X14_worth 2 rfl) cl_X14 fl_X14_46 (lm_mod (σ := σ)) (by decide) (by omega) rfl (fun _ => ⟨rfl, rfl⟩) (pm_mod (σ := σ) (by omega)) ?_
  refine sw_aload_n O (xx_dt dd_X14_worth 3 rfl) rfl ?_
  refine sw_iload_n O (xx_dt dd_X14_worth 4 rfl) rfl ?_
  have hq7 := pow_le6 hB6
  refine sw_callVx (as := [.int x]) (st := []) (st2 := [.int (bZ (n_lt x (2 ^ B)))]) O (ct_X14_areBidders hl (z := z) (σ := u2 σ 5000 0 0) hbs (B := B) hB (by omega) (x := x)) ce_X14_areBidders ml_X14_377 iv_X14_areBidders cl_X14 rfl (lm_mod (σ := u2 σ 5000 0 0)) (xx_dt dd_X14_worth 5 rfl) (by omega) rfl rfl (Nat.le_of_ble_eq_true rfl) rfl ?_
  refine sw_if_eqB (tgt := 28) O (xx_dt dd_X14_worth 6 rfl) (by decide) (fun q1 => ?_) (fun q1 => ?_)
  · refine sw_aload_n O (xx_dt dd_X14_worth 14 rfl) rfl ?_
    refine sw_iconst (x := 1) O (xx_dt dd_X14_worth 15 rfl) (by decide) ?_
    refine sw_callVx (as := [.int 1]) (st := []) (st2 := [.int 0]) O (ct_X14_refuse hl (z := z) (σ := u2 σ 5000 0 0) hbs (x := 1)) ce_X14_refuse ml_X14_74 iv_X14_refuse cl_X14 rfl (lm_mod (σ := u2 σ 5000 0 0)) (xx_dt dd_X14_worth 16 rfl) (by omega) rfl rfl (Nat.le_of_ble_eq_true rfl) rfl ?_
    exact sw_iret O (xx_dt dd_X14_worth 17 rfl) rfl rfl (by rw [hQ]; exact ⟨by unfold f_Mworth; simp only [if_neg q1], by unfold g_Mworth; simp only [if_neg q1]⟩)
  · have hc10 := q1
    refine sw_lsE (ls2 := [.ref 5000, .int (nI (cn x))]) (by rw [← hc10.1]) ?_
    have hd10 := hc10.2
    refine sw_new (k := 5) (n := 101) (r := 9000) O (xx_dt dd_X14_worth 7 rfl) cl_X10 nw_X14_218 ((setM_c0 (z := z) (σ := u2 σ 5000 0 0) hme.2.1.1.1 (by omega)).trans (hfr 9000 (by omega) (by omega))) (by omega) ?_
    rw [xx_blk_up]
    refine sw_dup O (xx_dt dd_X14_worth 8 rfl) rfl ?_
    refine sw_aload_n O (xx_dt dd_X14_worth 9 rfl) rfl ?_
    refine sw_callIx (k := 0) (n := 0) (k' := 5) (n' := 101) (as := [.ref 5000]) (st := [.ref 9000]) (st2 := [.ref 9000]) O (ct_X10_init hl (z := z) (σ := u2 σ 5000 0 0) hbs hfr hme.2.1.1.1 (R := R) hR (by omega) (B := B) hB (by omega) (pk := pk) (gr := gr) (cd := cd) (fun j9 hj9 => by rw [(u2_ne (by omega))]; exact hpk j9 hj9) (fun j9 hj9 => by rw [show (u2 σ 5000 0 0) (5020 + j9) 3 = σ (5020 + j9) 3 from (congrFun (u2_ne (by omega)) 3)]; exact hgr j9 hj9) (fun j9 k9 hj9 hk9 => by rw [(u2_ne (by omega))]; exact hcd j9 k9 hj9 hk9)) ce_X10_init ml_X14_220 ii_X10_init (xx_dt dd_X14_worth 10 rfl) (by omega) rfl rfl (Nat.le_of_ble_eq_true rfl) rfl ?_
    refine sw_iload_n O (xx_dt dd_X14_worth 11 rfl) rfl ?_
    refine sw_callVx (as := [.int (nI (cn x))]) (st := []) (st2 := [.int (f_Cworth (g_Cinit (u2 σ 5000 0 0) R B pk gr cd) (cn x))]) O (ct_X10_worth hl (z := z) (σ := g_Cinit (u2 σ 5000 0 0) R B pk gr cd) hbs cf_Cinit (S := cn x) (by first | omega | assumption)) ce_X10_worth ml_X14_365 iv_X10_worth cl_X10 rfl (lm_9000 (σ := g_Cinit (u2 σ 5000 0 0) R B pk gr cd) (fl1 cf_Cinit)) (xx_dt dd_X14_worth 12 rfl) (by omega) rfl rfl (Nat.le_of_ble_eq_true rfl) rfl ?_
    refine sw_goto (tgt := 33) O (xx_dt dd_X14_worth 13 rfl) (by decide) ?_
    have me9 : mem_eq σ (u2 (g_Cinit (u2 σ 5000 0 0) R B pk gr cd) 9000 20 0) := (mem_eq.frame (τ0 := u2 σ 5000 0 0) (mem_eq.int (r := 5000) (i := 0) (x := 0) hme rfl) (fun q h1 h2 h3 => by simp (disch := omega) only [u2_ne, uR_ne, fr_Cinit, fr_Cpay1, fr_Cpay2]) rfl (fun q h1 h2 => by (simp (disch := omega) only [u2_ne, uR_ne, fr_Cinit, fr_Cpay1, fr_Cpay2]; exact (hme.2.2 q h1 h2).1)))
    exact sw_iretD (h' := setM z (u2 (g_Cinit (u2 σ 5000 0 0) R B pk gr cd) 9000 20 0) h) O (xx_dt dd_X14_worth 17 rfl) rfl rfl (drop9 hfr) (me9.cls hcl) (by rw [hh]; exact fun r hr => me9.dom hr) (by rw [hQ]; exact ⟨by unfold f_Mworth; simp only [if_pos q1], by unfold g_Mworth; simp only [if_pos q1]⟩)
def f_MwouldPay (σ : XS9) (x y : Int32) (R B : Nat) (pk gr : Nat → Nat) (cd : Nat → Nat → Nat) : Int32 := (if n_lt x B then (if n_bt y 0 2 then (g_Cpay (g_Cinit (u2 σ 5000 0 0) R B pk gr cd) (cn y) 20000 B) 20000 (cn x) else 0) else 0)
def g_MwouldPay (σ : XS9) (x y : Int32) (R B : Nat) (pk gr : Nat → Nat) (cd : Nat → Nat → Nat) : XS9 := (if n_lt x B then (if n_bt y 0 2 then u2 (u2 (g_Cpay (g_Cinit (u2 σ 5000 0 0) R B pk gr cd) (cn y) 20000 B) 9000 20 0) 20000 20 0 else u2 (u2 σ 5000 0 0) 5000 0 2) else u2 (u2 σ 5000 0 0) 5000 0 1)
theorem ct_X14_wouldPay {l : Launch} {h : XH} (hl : l.stackTraces = false) {z : Int64} {σ : XS9} (hbs : xx_bs h) (hfr : ∀ r, 5000 ≤ r → r < 20010 → h r = none) (hme : mem_eq σ σ) {R : Nat} (hR : σ 5001 900 = nI R) (hR5 : R ≤ 5) {B : Nat} (hB : σ 5002 900 = nI B) (hB6 : B ≤ 6) {pk : Nat → Nat} (hpk : ∀ j, j < B → σ (5030 + j) 900 = nI (2 * pk j) ∧ pk j ≤ 6) {gr : Nat → Nat} (hgr : ∀ j, j < B → σ (5020 + j) 3 = nI (gr j) ∧ gr j < 4) {cd : Nat → Nat → Nat} (hcd : ∀ j k, j < B → k < pk j → σ (5030 + j) (2 * k) = nI (cd j k) ∧ cd j k < 7776) (hpi : ∀ j, j < B → g_Cinit (u2 σ 5000 0 0) R B pk gr cd 9001 j = -1 ∨ ∃ n, n < pk j ∧ g_Cinit (u2 σ 5000 0 0) R B pk gr cd 9001 j = nI n) (hterm : ∃ r, xitR (p2_step 20000 B) 20000000 0 (g_Cpay20 (g_Cinit (u2 σ 5000 0 0) R B pk gr cd) 20000 B) = .inr r) {x y : Int32}  : XEx l m_X14_wouldPay 22 7 114 [.ref 5000, .int x, .int y] (setM z σ h) (some (.int (f_MwouldPay σ x y R B pk gr cd))) (setM z (g_MwouldPay σ x y R B pk gr cd) h) := by
  refine XMet.of hl rfl rfl (Nat.le_of_ble_eq_true rfl) (fun Y O hh hQ => ?_)
  refine sw_cls (fun hcl => ?_)
  show SW Y 7 114 (setM z σ h) 0 [.ref 5000, .int x, .int y] []
  refine sw_aload_n O (xx_dt dd_X14_wouldPay 0 rfl) rfl ?_
  refine sw_iconst (x := 0) O (xx_dt dd_X14_wouldPay 1 rfl) (by decide) ?_
  refine sw_put (h2 := setM z (u2 σ 5000 0 0) h) O (xx_dt dd_X14_wouldPay 2 rfl) cl_X14 fl_X14_46 (lm_mod (σ := σ)) (by decide) (by omega) rfl (fun _ => ⟨rfl, rfl⟩) (pm_mod (σ := σ) (by omega)) ?_
  refine sw_aload_n O (xx_dt dd_X14_wouldPay 3 rfl) rfl ?_
  refine sw_iload_n O (xx_dt dd_X14_wouldPay 4 rfl) rfl ?_
  refine sw_callVx (as := [.int x]) (st := []) (st2 := [.int (bZ (n_lt x B))]) O (ct_X14_isBidder hl (z := z) (σ := u2 σ 5000 0 0) hbs (B := B) hB (by omega) (x := x)) ce_X14_isBidder ml_X14_156 iv_X14_isBidder cl_X14 rfl (lm_mod (σ := u2 σ 5000 0 0)) (xx_dt dd_X14_wouldPay 5 rfl) (by omega) rfl rfl (Nat.le_of_ble_eq_true rfl) rfl ?_
  refine sw_if_neB (tgt := 19) O (xx_dt dd_X14_wouldPay 6 rfl) (by decide) (fun q1 => ?_) (fun q1 => ?_)
  · have hc10 := q1
    refine sw_lsE (ls2 := [.ref 5000, .int (nI (cn x)), .int y]) (by rw [← hc10.1]) ?_
    have hd10 := hc10.2
    refine sw_iload_n O (xx_dt dd_X14_wouldPay 11 rfl) rfl ?_
    refine sw_iconst (x := 0) O (xx_dt dd_X14_wouldPay 12 rfl) (by decide) ?_
    refine sw_iconst (x := 2) O (xx_dt dd_X14_wouldPay 13 rfl) (by decide) ?_
    refine sw_callSx (as := [.int y, .int 0, .int 2]) (st := []) (st2 := [.int (bZ (n_bt y 0 2))]) O (ct_X14_is hl) ce_X14_is ml_X14_70 st_X14_is (xx_dt dd_X14_wouldPay 14 rfl) (by omega) rfl rfl (Nat.le_of_ble_eq_true rfl) rfl ?_
    refine sw_if_eqB (tgt := 45) O (xx_dt dd_X14_wouldPay 15 rfl) (by decide) (fun q2 => ?_) (fun q2 => ?_)
    · refine sw_aload_n O (xx_dt dd_X14_wouldPay 25 rfl) rfl ?_
      refine sw_iconst (x := 2) O (xx_dt dd_X14_wouldPay 26 rfl) (by decide) ?_
      refine sw_callVx (as := [.int 2]) (st := []) (st2 := [.int 0]) O (ct_X14_refuse hl (z := z) (σ := u2 σ 5000 0 0) hbs (x := 2)) ce_X14_refuse ml_X14_74 iv_X14_refuse cl_X14 rfl (lm_mod (σ := u2 σ 5000 0 0)) (xx_dt dd_X14_wouldPay 27 rfl) (by omega) rfl rfl (Nat.le_of_ble_eq_true rfl) rfl ?_
      exact sw_iret O (xx_dt dd_X14_wouldPay 28 rfl) rfl rfl (by rw [hQ]; exact ⟨by unfold f_MwouldPay; simp only [if_pos q1, if_neg q2], by unfold g_MwouldPay; simp only [if_pos q1, if_neg q2]⟩)
    · have hc25 := (bt_nat 2 q2 (by decide) rfl (by decide))
      refine sw_lsE (ls2 := [.ref 5000, .int (nI (cn x)), .int (nI (cn y))]) (by rw [← hc25.1]) ?_
      have hd25 := hc25.2
      refine sw_new (k := 6) (n := 107) (r := 9000) O (xx_dt dd_X14_wouldPay 16 rfl) cl_X10 nw_X14_218 ((setM_c0 (z := z) (σ := u2 σ 5000 0 0) hme.2.1.1.1 (by omega)).trans (hfr 9000 (by omega) (by omega))) (by omega) ?_
      rw [xx_blk_up]
      refine sw_dup O (xx_dt dd_X14_wouldPay 17 rfl) rfl ?_
      refine sw_aload_n O (xx_dt dd_X14_wouldPay 18 rfl) rfl ?_
      refine sw_callIx (k := 1) (n := 6) (k' := 5) (n' := 101) (as := [.ref 5000]) (st := [.ref 9000]) (st2 := [.ref 9000]) O (ct_X10_init hl (z := z) (σ := u2 σ 5000 0 0) hbs hfr hme.2.1.1.1 (R := R) hR (by omega) (B := B) hB (by omega) (pk := pk) (gr := gr) (cd := cd) (fun j9 hj9 => by rw [(u2_ne (by omega))]; exact hpk j9 hj9) (fun j9 hj9 => by rw [show (u2 σ 5000 0 0) (5020 + j9) 3 = σ (5020 + j9) 3 from (congrFun (u2_ne (by omega)) 3)]; exact hgr j9 hj9) (fun j9 k9 hj9 hk9 => by rw [(u2_ne (by omega))]; exact hcd j9 k9 hj9 hk9)) ce_X10_init ml_X14_220 ii_X10_init (xx_dt dd_X14_wouldPay 19 rfl) (by omega) rfl rfl (Nat.le_of_ble_eq_true rfl) rfl ?_
      refine sw_iload_n O (xx_dt dd_X14_wouldPay 20 rfl) rfl ?_
      refine sw_callVx (as := [.int (nI (cn y))]) (st := []) (st2 := [.ref 20000]) O (ct_X10_payments hl (z := z) (σ := g_Cinit (u2 σ 5000 0 0) R B pk gr cd) hbs cf_Cinit (B := B) ((congrFun (fr_Cinit (by omega)) 900).trans hB) (by omega) (pk := pk) (fun j9 hj9 => by rw [show (g_Cinit (u2 σ 5000 0 0) R B pk gr cd) (5030 + j9) 900 = σ (5030 + j9) 900 from ((congrFun (fr_Cinit (by omega)) 900).trans (congrFun (u2_ne (by omega)) 900))]; exact hpk j9 hj9) hpi (qa := 20000) (by omega) hfr ((congrFun (fr_Cinit (by omega)) 20).trans (hme.2.2 20000 (by omega) (by omega)).2) (w := cn y) (by omega) (fun _ => hterm)) ce_X10_payments ml_X14_233 iv_X10_payments cl_X10 rfl (lm_9000 (σ := g_Cinit (u2 σ 5000 0 0) R B pk gr cd) (fl1 cf_Cinit)) (xx_dt dd_X14_wouldPay 21 rfl) (by omega) rfl rfl (Nat.le_of_ble_eq_true rfl) rfl ?_
      refine sw_iload_n O (xx_dt dd_X14_wouldPay 22 rfl) rfl ?_
      refine sw_iaload (v := .int ((g_Cpay (g_Cinit (u2 σ 5000 0 0) R B pk gr cd) (cn y) 20000 B) 20000 (cn x))) O (xx_dt dd_X14_wouldPay 23 rfl) ((lm_tmp (z := z) (σ := g_Cpay (g_Cinit (u2 σ 5000 0 0) R B pk gr cd) (cn y) 20000 B) (h := h) (q := 20000) (by omega) (fl1 (fl_Cpay (by omega)).1) (fl_Cpay (by omega)).2 (by omega)).get _) (pk_in (cn x) _ (by omega)) (by rw [nI_clamp (by omega)]; try exact rfl) ?_
      refine sw_goto (tgt := 50) O (xx_dt dd_X14_wouldPay 24 rfl) (by decide) ?_
      have me9 : mem_eq σ (u2 (u2 (g_Cpay (g_Cinit (u2 σ 5000 0 0) R B pk gr cd) (cn y) 20000 B) 9000 20 0) 20000 20 0) := (mem_eq.frame (τ0 := u2 σ 5000 0 0) (mem_eq.int (r := 5000) (i := 0) (x := 0) hme rfl) (fun q h1 h2 h3 => by simp (disch := omega) only [u2_ne, uR_ne, fr_Cinit, fr_Cpay1, fr_Cpay2, fr_Cpay]) rfl (fun q h1 h2 => by by_cases e0 : q = 20000; (subst e0; rfl); ((simp (disch := omega) only [u2_ne, uR_ne, fr_Cinit, fr_Cpay1, fr_Cpay2, fr_Cpay]; exact (hme.2.2 q h1 h2).1))))
      exact sw_iretD (h' := setM z (u2 (u2 (g_Cpay (g_Cinit (u2 σ 5000 0 0) R B pk gr cd) (cn y) 20000 B) 9000 20 0) 20000 20 0) h) O (xx_dt dd_X14_wouldPay 28 rfl) rfl rfl (xx_sub.trans (dropT (by omega) hfr) (drop9 hfr)) (me9.cls hcl) (by rw [hh]; exact fun r hr => me9.dom hr) (by rw [hQ]; exact ⟨by unfold f_MwouldPay; simp only [if_pos q1, if_pos q2], by unfold g_MwouldPay; simp only [if_pos q1, if_pos q2]⟩)
  · refine sw_aload_n O (xx_dt dd_X14_wouldPay 7 rfl) rfl ?_
    refine sw_iconst (x := 1) O (xx_dt dd_X14_wouldPay 8 rfl) (by decide) ?_
    refine sw_callVx (as := [.int 1]) (st := []) (st2 := [.int 0]) O (ct_X14_refuse hl (z := z) (σ := u2 σ 5000 0 0) hbs (x := 1)) ce_X14_refuse ml_X14_74 iv_X14_refuse cl_X14 rfl (lm_mod (σ := u2 σ 5000 0 0)) (xx_dt dd_X14_wouldPay 9 rfl) (by omega) rfl rfl (Nat.le_of_ble_eq_true rfl) rfl ?_
    exact sw_iret O (xx_dt dd_X14_wouldPay 10 rfl) rfl rfl (by rw [hQ]; exact ⟨by unfold f_MwouldPay; simp only [if_neg q1], by unfold g_MwouldPay; simp only [if_neg q1]⟩)
def f_Mobjects (σ : XS9) (x y : Int32) (R B : Nat) (pk gr : Nat → Nat) (cd : Nat → Nat → Nat) : Int32 := (if n_lt x (2 ^ B) then (if n_bt y 0 2 then if 0 < (f_Cobjection (g_Cpay (g_Cinit (u2 σ 5000 0 0) R B pk gr cd) (cn y) 20000 B) (cn x) 20000 B) then (f_Cobjection (g_Cpay (g_Cinit (u2 σ 5000 0 0) R B pk gr cd) (cn y) 20000 B) (cn x) 20000 B) else 0 else 0) else 0)
def g_Mobjects (σ : XS9) (x y : Int32) (R B : Nat) (pk gr : Nat → Nat) (cd : Nat → Nat → Nat) : XS9 := (if n_lt x (2 ^ B) then (if n_bt y 0 2 then u2 (u2 (g_Cpay (g_Cinit (u2 σ 5000 0 0) R B pk gr cd) (cn y) 20000 B) 9000 20 0) 20000 20 0 else u2 (u2 σ 5000 0 0) 5000 0 1) else u2 (u2 σ 5000 0 0) 5000 0 1)
theorem ct_X14_objects {l : Launch} {h : XH} (hl : l.stackTraces = false) {z : Int64} {σ : XS9} (hbs : xx_bs h) (hfr : ∀ r, 5000 ≤ r → r < 20010 → h r = none) (hme : mem_eq σ σ) {R : Nat} (hR : σ 5001 900 = nI R) (hR5 : R ≤ 5) {B : Nat} (hB : σ 5002 900 = nI B) (hB6 : B ≤ 6) {pk : Nat → Nat} (hpk : ∀ j, j < B → σ (5030 + j) 900 = nI (2 * pk j) ∧ pk j ≤ 6) {gr : Nat → Nat} (hgr : ∀ j, j < B → σ (5020 + j) 3 = nI (gr j) ∧ gr j < 4) {cd : Nat → Nat → Nat} (hcd : ∀ j k, j < B → k < pk j → σ (5030 + j) (2 * k) = nI (cd j k) ∧ cd j k < 7776) (hpi : ∀ j, j < B → g_Cinit (u2 σ 5000 0 0) R B pk gr cd 9001 j = -1 ∨ ∃ n, n < pk j ∧ g_Cinit (u2 σ 5000 0 0) R B pk gr cd 9001 j = nI n) (hterm : ∃ r, xitR (p2_step 20000 B) 20000000 0 (g_Cpay20 (g_Cinit (u2 σ 5000 0 0) R B pk gr cd) 20000 B) = .inr r) {x y : Int32}  : XEx l m_X14_objects 22 7 114 [.ref 5000, .int x, .int y] (setM z σ h) (some (.int (f_Mobjects σ x y R B pk gr cd))) (setM z (g_Mobjects σ x y R B pk gr cd) h) := by
  refine XMet.of hl rfl rfl (Nat.le_of_ble_eq_true rfl) (fun Y O hh hQ => ?_)
  refine sw_cls (fun hcl => ?_)
  show SW Y 7 114 (setM z σ h) 0 [.ref 5000, .int x, .int y, xx_d] []
  refine sw_aload_n O (xx_dt dd_X14_objects 0 rfl) rfl ?_
  refine sw_iconst (x := 0) O (xx_dt dd_X14_objects 1 rfl) (by decide) ?_
  refine sw_put (h2 := setM z (u2 σ 5000 0 0) h) O (xx_dt dd_X14_objects 2 rfl) cl_X14 fl_X14_46 (lm_mod (σ := σ)) (by decide) (by omega) rfl (fun _ => ⟨rfl, rfl⟩) (pm_mod (σ := σ) (by omega)) ?_
  refine sw_aload_n O (xx_dt dd_X14_objects 3 rfl) rfl ?_
  refine sw_iload_n O (xx_dt dd_X14_objects 4 rfl) rfl ?_
  have hq7 := pow_le6 hB6
  refine sw_callVx (as := [.int x]) (st := []) (st2 := [.int (bZ (n_lt x (2 ^ B)))]) O (ct_X14_areBidders hl (z := z) (σ := u2 σ 5000 0 0) hbs (B := B) hB (by omega) (x := x)) ce_X14_areBidders ml_X14_377 iv_X14_areBidders cl_X14 rfl (lm_mod (σ := u2 σ 5000 0 0)) (xx_dt dd_X14_objects 5 rfl) (by omega) rfl rfl (Nat.le_of_ble_eq_true rfl) rfl ?_
  refine sw_if_eqB (tgt := 22) O (xx_dt dd_X14_objects 6 rfl) (by decide) (fun q1 => ?_) (fun q1 => ?_)
  · refine sw_aload_n O (xx_dt dd_X14_objects 12 rfl) rfl ?_
    refine sw_iconst (x := 1) O (xx_dt dd_X14_objects 13 rfl) (by decide) ?_
    refine sw_callVx (as := [.int 1]) (st := []) (st2 := [.int 0]) O (ct_X14_refuse hl (z := z) (σ := u2 σ 5000 0 0) hbs (x := 1)) ce_X14_refuse ml_X14_74 iv_X14_refuse cl_X14 rfl (lm_mod (σ := u2 σ 5000 0 0)) (xx_dt dd_X14_objects 14 rfl) (by omega) rfl rfl (Nat.le_of_ble_eq_true rfl) rfl ?_
    exact sw_iret O (xx_dt dd_X14_objects 15 rfl) rfl rfl (by rw [hQ]; exact ⟨by unfold f_Mobjects; simp only [if_neg q1], by unfold g_Mobjects; simp only [if_neg q1]⟩)
  · have hc10 := q1
    refine sw_lsE (ls2 := [.ref 5000, .int (nI (cn x)), .int y, xx_d]) (by rw [← hc10.1]) ?_
    have hd10 := hc10.2
    refine sw_iload_n O (xx_dt dd_X14_objects 7 rfl) rfl ?_
    refine sw_iconst (x := 0) O (xx_dt dd_X14_objects 8 rfl) (by decide) ?_
    refine sw_iconst (x := 2) O (xx_dt dd_X14_objects 9 rfl) (by decide) ?_
    refine sw_callSx (as := [.int y, .int 0, .int 2]) (st := []) (st2 := [.int (bZ (n_bt y 0 2))]) O (ct_X14_is hl) ce_X14_is ml_X14_70 st_X14_is (xx_dt dd_X14_objects 10 rfl) (by omega) rfl rfl (Nat.le_of_ble_eq_true rfl) rfl ?_
    refine sw_if_neB (tgt := 28) O (xx_dt dd_X14_objects 11 rfl) (by decide) (fun q2 => ?_) (fun q2 => ?_)
    · have hc19 := (bt_nat 2 q2 (by decide) rfl (by decide))
      refine sw_lsE (ls2 := [.ref 5000, .int (nI (cn x)), .int (nI (cn y)), xx_d]) (by rw [← hc19.1]) ?_
      have hd19 := hc19.2
      refine sw_new (k := 6) (n := 107) (r := 9000) O (xx_dt dd_X14_objects 16 rfl) cl_X10 nw_X14_218 ((setM_c0 (z := z) (σ := u2 σ 5000 0 0) hme.2.1.1.1 (by omega)).trans (hfr 9000 (by omega) (by omega))) (by omega) ?_
      rw [xx_blk_up]
      refine sw_dup O (xx_dt dd_X14_objects 17 rfl) rfl ?_
      refine sw_aload_n O (xx_dt dd_X14_objects 18 rfl) rfl ?_
      refine sw_callIx (k := 1) (n := 6) (k' := 5) (n' := 101) (as := [.ref 5000]) (st := [.ref 9000]) (st2 := [.ref 9000]) O (ct_X10_init hl (z := z) (σ := u2 σ 5000 0 0) hbs hfr hme.2.1.1.1 (R := R) hR (by omega) (B := B) hB (by omega) (pk := pk) (gr := gr) (cd := cd) (fun j9 hj9 => by rw [(u2_ne (by omega))]; exact hpk j9 hj9) (fun j9 hj9 => by rw [show (u2 σ 5000 0 0) (5020 + j9) 3 = σ (5020 + j9) 3 from (congrFun (u2_ne (by omega)) 3)]; exact hgr j9 hj9) (fun j9 k9 hj9 hk9 => by rw [(u2_ne (by omega))]; exact hcd j9 k9 hj9 hk9)) ce_X10_init ml_X14_220 ii_X10_init (xx_dt dd_X14_objects 19 rfl) (by omega) rfl rfl (Nat.le_of_ble_eq_true rfl) rfl ?_
      refine sw_astore_n (ls2 := [.ref 5000, .int (nI (cn x)), .int (nI (cn y)), .ref 9000]) O (xx_dt dd_X14_objects 20 rfl) (by decide) rfl ?_
      refine sw_iconst (x := 0) O (xx_dt dd_X14_objects 21 rfl) (by decide) ?_
      refine sw_aload_n O (xx_dt dd_X14_objects 22 rfl) rfl ?_
      refine sw_iload_n O (xx_dt dd_X14_objects 23 rfl) rfl ?_
      refine sw_aload_n O (xx_dt dd_X14_objects 24 rfl) rfl ?_
      refine sw_iload_n O (xx_dt dd_X14_objects 25 rfl) rfl ?_
      refine sw_callVx (as := [.int (nI (cn y))]) (st := [.int (nI (cn x)), .ref 9000, .int 0]) (st2 := [.ref 20000, .int (nI (cn x)), .ref 9000, .int 0]) O (ct_X10_payments hl (z := z) (σ := g_Cinit (u2 σ 5000 0 0) R B pk gr cd) hbs cf_Cinit (B := B) ((congrFun (fr_Cinit (by omega)) 900).trans hB) (by omega) (pk := pk) (fun j9 hj9 => by rw [show (g_Cinit (u2 σ 5000 0 0) R B pk gr cd) (5030 + j9) 900 = σ (5030 + j9) 900 from ((congrFun (fr_Cinit (by omega)) 900).trans (congrFun (u2_ne (by omega)) 900))]; exact hpk j9 hj9) hpi (qa := 20000) (by omega) hfr ((congrFun (fr_Cinit (by omega)) 20).trans (hme.2.2 20000 (by omega) (by omega)).2) (w := cn y) (by omega) (fun _ => hterm)) ce_X10_payments ml_X14_233 iv_X10_payments cl_X10 rfl (lm_9000 (σ := g_Cinit (u2 σ 5000 0 0) R B pk gr cd) (fl1 cf_Cinit)) (xx_dt dd_X14_objects 26 rfl) (by omega) rfl rfl (Nat.le_of_ble_eq_true rfl) rfl ?_
      refine sw_callVx (as := [.int (nI (cn x)), .ref 20000]) (st := [.int 0]) (st2 := [.int (f_Cobjection (g_Cpay (g_Cinit (u2 σ 5000 0 0) R B pk gr cd) (cn y) 20000 B) (cn x) 20000 B), .int 0]) O (ct_X10_objection hl (z := z) (σ := g_Cpay (g_Cinit (u2 σ 5000 0 0) R B pk gr cd) (cn y) 20000 B) hbs ((congrFun (fr_Cpay ⟨by omega, by omega⟩) 20).trans cf_Cinit) (B := B) (((congrFun (fr_Cpay ⟨by omega, by omega⟩) 900).trans (congrFun (fr_Cinit (by omega)) 900)).trans hB) (by omega) (pk := pk) (fun j9 hj9 => by rw [show (g_Cpay (g_Cinit (u2 σ 5000 0 0) R B pk gr cd) (cn y) 20000 B) (5030 + j9) 900 = σ (5030 + j9) 900 from (((congrFun (fr_Cpay ⟨by omega, by omega⟩) 900).trans (congrFun (fr_Cinit (by omega)) 900)).trans (congrFun (u2_ne (by omega)) 900))]; exact hpk j9 hj9) (fun j9 hj9 => by rw [show (g_Cpay (g_Cinit (u2 σ 5000 0 0) R B pk gr cd) (cn y) 20000 B) 9001 = (g_Cinit (u2 σ 5000 0 0) R B pk gr cd) 9001 from (fr_Cpay ⟨by omega, by omega⟩)]; exact hpi j9 hj9) (qa := 20000) (by omega) (fl_Cpay (by omega)).1 (fl_Cpay (by omega)).2 (S := cn x) (by omega)) ce_X10_objection ml_X14_380 iv_X10_objection cl_X10 rfl (lm_9000 (σ := g_Cpay (g_Cinit (u2 σ 5000 0 0) R B pk gr cd) (cn y) 20000 B) (fl1 ((congrFun (fr_Cpay ⟨by omega, by omega⟩) 20).trans cf_Cinit))) (xx_dt dd_X14_objects 27 rfl) (by omega) rfl rfl (Nat.le_of_ble_eq_true rfl) rfl ?_
      refine sw_max O mm_X14_384 (xx_dt dd_X14_objects 28 rfl) (by omega) (Nat.le_of_ble_eq_true rfl) ?_
      have me9 : mem_eq σ (u2 (u2 (g_Cpay (g_Cinit (u2 σ 5000 0 0) R B pk gr cd) (cn y) 20000 B) 9000 20 0) 20000 20 0) := (mem_eq.frame (τ0 := u2 σ 5000 0 0) (mem_eq.int (r := 5000) (i := 0) (x := 0) hme rfl) (fun q h1 h2 h3 => by simp (disch := omega) only [u2_ne, uR_ne, fr_Cinit, fr_Cpay1, fr_Cpay2, fr_Cpay]) rfl (fun q h1 h2 => by by_cases e0 : q = 20000; (subst e0; rfl); ((simp (disch := omega) only [u2_ne, uR_ne, fr_Cinit, fr_Cpay1, fr_Cpay2, fr_Cpay]; exact (hme.2.2 q h1 h2).1))))
      exact sw_iretD (h' := setM z (u2 (u2 (g_Cpay (g_Cinit (u2 σ 5000 0 0) R B pk gr cd) (cn y) 20000 B) 9000 20 0) 20000 20 0) h) O (xx_dt dd_X14_objects 29 rfl) rfl rfl (xx_sub.trans (dropT (by omega) hfr) (drop9 hfr)) (me9.cls hcl) (by rw [hh]; exact fun r hr => me9.dom hr) (by rw [hQ]; exact ⟨by unfold f_Mobjects; simp only [if_pos q1, if_pos q2], by unfold g_Mobjects; simp only [if_pos q1, if_pos q2]⟩)
    · refine sw_aload_n O (xx_dt dd_X14_objects 12 rfl) rfl ?_
      refine sw_iconst (x := 1) O (xx_dt dd_X14_objects 13 rfl) (by decide) ?_
      refine sw_callVx (as := [.int 1]) (st := []) (st2 := [.int 0]) O (ct_X14_refuse hl (z := z) (σ := u2 σ 5000 0 0) hbs (x := 1)) ce_X14_refuse ml_X14_74 iv_X14_refuse cl_X14 rfl (lm_mod (σ := u2 σ 5000 0 0)) (xx_dt dd_X14_objects 14 rfl) (by omega) rfl rfl (Nat.le_of_ble_eq_true rfl) rfl ?_
      exact sw_iret O (xx_dt dd_X14_objects 15 rfl) rfl rfl (by rw [hQ]; exact ⟨by unfold f_Mobjects; simp only [if_pos q1, if_neg q2], by unfold g_Mobjects; simp only [if_pos q1, if_neg q2]⟩)
