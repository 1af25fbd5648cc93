/-! ===== the reference: what wants a choice ===== -/
theorem two_le {x : Int32} (h : ¬ x ≤ 1) : (2 : Int32) ≤ x := by
  rw [i_le] at h ⊢
  have h1 : (1 : Int32).toInt = 1 := rfl
  have h2 : (2 : Int32).toInt = 2 := rfl
  omega
theorem not_two {x : Int32} (h : x ≤ 1) : ¬ (2 : Int32) ≤ x := by
  rw [i_le] at h ⊢
  have h1 : (1 : Int32).toInt = 1 := rfl
  have h2 : (2 : Int32).toInt = 2 := rfl
  omega
def xitBR {S R : Type} (step : Nat → S → S ⊕ (S ⊕ R)) : Nat → Nat → S → S ⊕ R
  | 0, _, s => .inl s
  | f + 1, i, s => match step i s with
    | .inl s' => xitBR step f (i + 1) s'
    | .inr (.inl s') => .inl s'
    | .inr (.inr r) => .inr r
theorem sw_forBR {Y : XY} {k n : Nat} {S R : Type} (step : Nat → S → S ⊕ (S ⊕ R)) (P : Nat → S → Prop) (PX : S → Prop) {FR : R → Prop} {hd ex : Nat} {hp : S → XH} {lc : Nat → S → List Value} {lx : S → List Value} {N : Nat}
    (hstep : ∀ i s, i < N → P i s → ((∀ s', step i s = .inl s' → P (i + 1) s') ∧ ∀ s', step i s = .inr (.inl s') → PX s') ∧ ((∀ s', step i s = .inl s' → SW Y k n (hp s') hd (lc (i + 1) s') []) → (∀ s', step i s = .inr (.inl s') → SW Y k n (hp s') ex (lx s') []) → (∀ r, step i s = .inr (.inr r) → FR r) → SW Y k n (hp s) hd (lc i s) []))
    (hexit : ∀ s, P N s → PX s ∧ (SW Y k n (hp s) ex (lx s) [] → SW Y k n (hp s) hd (lc N s) [])) :
    ∀ (f i : Nat) (s : S), i + f = N → P i s → (∀ s', xitBR step f i s = .inl s' → PX s' → SW Y k n (hp s') ex (lx s') []) → (∀ r, xitBR step f i s = .inr r → FR r) → SW Y k n (hp s) hd (lc i s) []
  | 0, i, s, e, hP, kk, kr => by
    obtain rfl : i = N := by omega
    exact (hexit s hP).2 (kk s rfl (hexit s hP).1)
  | f + 1, i, s, e, hP, kk, kr => by
    obtain ⟨⟨h1, h2⟩, h3⟩ := hstep i s (by omega) hP
    unfold xitBR at kk kr
    refine h3 (fun s' e' => ?_) (fun s' e' => ?_) (fun r e' => ?_)
    · rw [e'] at kk kr
      exact sw_forBR step P PX hstep hexit f (i + 1) s' (by omega) (h1 s' e') kk kr
    · rw [e'] at kk
      exact kk s' rfl (h2 s' e')
    · rw [e'] at kr
      exact kr r rfl
def g_Cinit (σ : XS9) (R B : Nat) (pk gr : Nat → Nat) (cd : Nat → Nat → Nat) : XS9 := if σ 5000 1 ≤ 1 then g_CinitB σ R B pk gr cd else g_CinitA σ R B pk gr cd
theorem ct_X10_init {l : Launch} {h : XH} (hl : l.stackTraces = false) {z : Int64} {σ : XS9} (hbs : xx_bs h) (hfr : ∀ r, 5000 ≤ r → r < 20010 → h r = none) (hc0 : σ 9000 20 = 0) {R : Nat} (hR : σ 5001 900 = nI R) (hR5 : R ≤ 5) {B : Nat} (hB : σ 5002 900 = nI B) (hB6 : B ≤ 6) {pk : Nat → Nat} (hpk : ∀ j, j < B → σ (5030 + j) 900 = nI (2 * pk j) ∧ pk j ≤ 6) {gr : Nat → Nat} (hgr : ∀ j, j < B → σ (5020 + j) 3 = nI (gr j) ∧ gr j < 4) {cd : Nat → Nat → Nat} (hcd : ∀ j k, j < B → k < pk j → σ (5030 + j) (2 * k) = nI (cd j k) ∧ cd j k < 7776) : XEx l m_X10_init 20 5 101 [.ref 9000, .ref 5000] (xx_up (setM z σ h) 9000 (16, 7, fun j => defaultValue (tyX10 j))) none (setM z (g_Cinit σ R B pk gr cd) h) := by
  unfold g_Cinit
  by_cases hst : σ 5000 1 ≤ 1
  · rw [if_pos hst]
    exact ct_CinitB hl hbs hfr hc0 hR hR5 hB hB6 hpk hgr hcd hst (not_two hst)
  · rw [if_neg hst]
    exact ct_CinitA hl hbs hfr hc0 hR hR5 hB hB6 hpk hgr hcd hst (two_le hst)
theorem fx_Cinit {σ : XS9} {R : Nat} {s0 : XS9} {q : Nat} (h : q < 9000 ∨ 9005 < q ∨ q = 9000) : x_CinitA_138 σ s0 q = s0 q ∧ x_CinitB_138 σ s0 q = s0 q ∧ x_CinitA_55 σ R s0 q = s0 q ∧ x_CinitB_55 σ R s0 q = s0 q ∧ x_CinitB_109 σ s0 q = s0 q := by
  refine ⟨?_, ?_, ?_, ?_, ?_⟩
  · exact xit_keep (fun s : XS9 => s q) (fun i s => by (try dsimp only); first | exact fx_CinitA_149 (by omega) | simp (disch := omega) only [u2_ne]) _ _ _
  · exact xit_keep (fun s : XS9 => s q) (fun i s => by (try dsimp only); first | exact fx_CinitB_149 (by omega) | simp (disch := omega) only [u2_ne]) _ _ _
  · exact xit_keep (fun s : XS9 => s q) (fun i s => by (try dsimp only); simp (disch := omega) only [u2_ne]) _ _ _
  · exact xit_keep (fun s : XS9 => s q) (fun i s => by (try dsimp only); simp (disch := omega) only [u2_ne]) _ _ _
  · exact xit_keep (fun s : XS9 => s q) (fun i s => by (try dsimp only); simp (disch := omega) only [u2_ne]) _ _ _
theorem fr_Cinit {σ : XS9} {R B : Nat} {pk gr : Nat → Nat} {cd : Nat → Nat → Nat} {q : Nat} (h : q < 9000 ∨ 9005 < q) : g_Cinit σ R B pk gr cd q = σ q := by
  unfold g_Cinit
  split
  · unfold g_CinitB
    rw [(fx_Cinit (R := R) (by omega)).2.1, (fx_Cinit (R := R) (by omega)).2.2.2.2, (fx_Cinit (by omega)).2.2.2.1, u2_ne (by omega), fr_cho0 h]
  · unfold g_CinitA
    rw [(fx_Cinit (R := R) (by omega)).1, fr_Cpick h, (fx_Cinit (by omega)).2.2.1, u2_ne (by omega), fr_cho0 h]
theorem cf_Cinit {σ : XS9} {R B : Nat} {pk gr : Nat → Nat} {cd : Nat → Nat → Nat} : g_Cinit σ R B pk gr cd 9000 20 = nI 1 := by
  unfold g_Cinit
  split
  · unfold g_CinitB
    rw [(fx_Cinit (R := R) (by omega)).2.1, (fx_Cinit (R := R) (by omega)).2.2.2.2, (fx_Cinit (by omega)).2.2.2.1]
    rfl
  · unfold g_CinitA
    rw [(fx_Cinit (R := R) (by omega)).1, (fr2_Cpick _ _ (q := 0)).2, (fx_Cinit (by omega)).2.2.1]
    rfl
theorem mem_eq.frame {σ τ0 τ' : XS9} (h : mem_eq σ τ0) (hf : ∀ q, (q < 9000 ∨ 9005 < q) → ¬ (20000 ≤ q ∧ q < 20010) → ¬ (5005 ≤ q ∧ q ≤ 5007) → τ' q = τ0 q) (h9 : τ' 9000 20 = 0) (hT : ∀ q, 20000 ≤ q → q < 20010 → τ' q 20 = 0) : mem_eq σ τ' := by
  refine ⟨fun q i h1 h2 h3 => ?_, ⟨⟨h9, h.2.1.1.2⟩, by rw [hf 8000 (by omega) (by omega) (by omega)]; exact h.2.1.2.1, h.2.1.2.2⟩, fun q h1 h2 => ⟨hT q h1 h2, (h.2.2 q h1 h2).2⟩⟩
  rw [← h.1 q i h1 h2 h3]
  unfold ctl
  by_cases e : (q < 9000 ∨ 9005 < q) ∧ ¬ (5005 ≤ q ∧ q ≤ 5007)
  · rw [hf q e.1 (by omega) e.2]
  · have : isCtl q i = false := notCtl (by omega) i
    rw [this]
    rfl
theorem xitR_inv {S : Type} {step : Nat → S → S ⊕ S} (P : S → Prop) (h : ∀ i s, P s → (∀ s', step i s = .inl s' → P s') ∧ ∀ s', step i s = .inr s' → P s') : ∀ (f i : Nat) (s : S), P s → (∀ s', xitR step f i s = .inl s' → P s') ∧ ∀ s', xitR step f i s = .inr s' → P s'
  | 0, _, _, hP => ⟨fun s' e => by have e9 := Sum.inl.inj e; subst e9; exact hP, fun s' e => by cases e⟩
  | f + 1, i, s, hP => by
    unfold xitR
    cases e : step i s with
    | inl s' => exact xitR_inv P h f (i + 1) s' ((h i s hP).1 s' e)
    | inr r => exact ⟨fun s' e2 => (by cases e2), fun s' e2 => by have e9 := Sum.inr.inj e2; subst e9; exact (h i s hP).2 r e⟩
theorem fr_Cpay1 {σ : XS9} {w qa B q : Nat} (h : q ≠ qa) : g_Cpay1 σ w qa B q = σ q := by
  have H : ∀ s0, x_Cpay1_7 σ w qa B s0 q = s0 q := fun s0 => xit_keep (fun s : XS9 => s q) (fun i s => by (try dsimp only); (repeat' split) <;> first | rfl | simp (disch := omega) only [u2_ne]) _ _ _
  unfold g_Cpay1
  rw [H, uR_ne h]
theorem fl_Cpay20 {σ : XS9} {qa B : Nat} (hB6 : B ≤ 6) : g_Cpay20 σ qa B qa 20 = nI 1 ∧ g_Cpay20 σ qa B qa 21 = nI 6 ∧ ∀ q, q ≠ qa → g_Cpay20 σ qa B q = σ q := by
  unfold g_Cpay20 x_Cpay2_7
  refine xit_inv (fun s : XS9 => s qa 20 = nI 1 ∧ s qa 21 = nI 6 ∧ ∀ q, q ≠ qa → s q = σ q) (N := B) (fun i s hi hP => ?_) B 0 _ (by omega) ⟨(congrFun (uR_eq _ _ _) 20), (congrFun (uR_eq _ _ _) 21), fun q hq => uR_ne hq⟩
  (try dsimp only)
  (repeat' split) <;> first | exact hP | exact ⟨by rw [u2_oi (by omega)]; exact hP.1, by rw [u2_oi (by omega)]; exact hP.2.1, fun q hq => by rw [u2_ne hq]; exact hP.2.2 q hq⟩
theorem in_Cpay2 {σ : XS9} {qa B : Nat} (hB6 : B ≤ 6) : g_Cpay2 σ qa B qa 20 = nI 1 ∧ g_Cpay2 σ qa B qa 21 = nI 6 ∧ ∀ q, q ≠ qa → g_Cpay2 σ qa B q = σ q := by
  have K := xitR_inv (step := p2_step qa B) (fun s : XS9 => s qa 20 = nI 1 ∧ s qa 21 = nI 6 ∧ ∀ q, q ≠ qa → s q = σ q) (fun i s hP => ⟨fun s' e => ?_, fun s' e => ?_⟩) 20000000 0 _ (fl_Cpay20 (σ := σ) hB6)
  · unfold g_Cpay2
    cases e : xitR (p2_step qa B) 20000000 0 (g_Cpay20 σ qa B) with
    | inl s => exact K.1 s e
    | inr s => exact K.2 s e
  · unfold p2_step at e
    revert e
    (try dsimp only)
    split <;> intro e <;> first | (cases e; done) | (have e9 := Sum.inl.inj e; subst e9; have hn := pos_nat (Int32.not_le.mpr (by assumption)); have H := raise_out (σ := s) (S := x_Cpay2_94 s qa B 0) (x := cn (f_Cobjection s (x_Cpay2_94 s qa B 0) qa B)) (qa := qa) (B := B) hB6 hn.2 hP.1 hP.2.1; exact ⟨H.1, H.2.1, fun q hq => (H.2.2 q hq).trans (hP.2.2 q hq)⟩)
  · unfold p2_step at e
    revert e
    (try dsimp only)
    split <;> intro e <;> first | (cases e; done) | (have e9 := Sum.inr.inj e; subst e9; exact hP)
theorem fr_Cpay2 {σ : XS9} {qa B q : Nat} (h : q ≠ qa ∧ B ≤ 6) : g_Cpay2 σ qa B q = σ q := (in_Cpay2 h.2).2.2 q h.1
theorem in_Cpay1 {σ : XS9} {w qa B : Nat} (hB6 : B ≤ 6) : g_Cpay1 σ w qa B qa 20 = nI 1 ∧ g_Cpay1 σ w qa B qa 21 = nI 6 := by
  unfold g_Cpay1 x_Cpay1_7
  refine xit_inv (fun s : XS9 => s qa 20 = nI 1 ∧ s qa 21 = nI 6) (N := B) (fun i s hi hP => ?_) B 0 _ (by omega) ⟨(congrFun (uR_eq _ _ _) 20), (congrFun (uR_eq _ _ _) 21)⟩
  (try dsimp only)
  (repeat' split) <;> first | exact hP | exact ⟨by rw [u2_oi (by omega)]; exact hP.1, by rw [u2_oi (by omega)]; exact hP.2⟩
def f_Mwins (σ : XS9) (x : Int32) (R B : Nat) (pk gr : Nat → Nat) (cd : Nat → Nat → Nat) : Int32 := (if n_lt x B then f_MwinsNow (g_Cinit (u2 σ 5000 0 0) R B pk gr cd) (cn x) else 0)
def g_Mwins (σ : XS9) (x : Int32) (R B : Nat) (pk gr : Nat → Nat) (cd : Nat → Nat → Nat) : XS9 := (if n_lt x B then u2 (g_Cinit (u2 σ 5000 0 0) R B pk gr cd) 9000 20 0 else u2 (u2 σ 5000 0 0) 5000 0 1)
theorem ct_X14_wins {l : Launch} {h : XH} (hl : l.stackTraces = false) {z : Int64} {σ : XS9} (hbs : xx_bs h) (hfr : ∀ r, 5000 ≤ r → r < 20010 → h r = none) (hme : mem_eq σ σ) {R : Nat} (hR : σ 5001 900 = nI R) (hR5 : R ≤ 5) {B : Nat} (hB : σ 5002 900 = nI B) (hB6 : B ≤ 6) {pk : Nat → Nat} (hpk : ∀ j, j < B → σ (5030 + j) 900 = nI (2 * pk j) ∧ pk j ≤ 6) {gr : Nat → Nat} (hgr : ∀ j, j < B → σ (5020 + j) 3 = nI (gr j) ∧ gr j < 4) {cd : Nat → Nat → Nat} (hcd : ∀ j k, j < B → k < pk j → σ (5030 + j) (2 * k) = nI (cd j k) ∧ cd j k < 7776) {x : Int32} : XEx l m_X14_wins 22 6 108 [.ref 5000, .int x] (setM z σ h) (some (.int (f_Mwins σ x R B pk gr cd))) (setM z (g_Mwins σ x R B pk gr cd) h) := by
  refine XMet.of hl rfl rfl (Nat.le_of_ble_eq_true rfl) (fun Y O hh hQ => ?_)
  refine sw_cls (fun hcl => ?_)
  show SW Y 6 108 (setM z σ h) 0 [.ref 5000, .int x] []
  refine sw_aload_n O (xx_dt dd_X14_wins 0 rfl) rfl ?_
  refine sw_iconst (x := 0) O (xx_dt dd_X14_wins 1 rfl) (by decide) ?_
  refine sw_put (h2 := setM z (u2 σ 5000 0 0) h) O (xx_dt dd_X14_wins 2 rfl) cl_X14 fl_X14_46 (lm_mod (σ := σ)) (by decide) (by omega) rfl (fun _ => ⟨rfl, rfl⟩) (pm_mod (σ := σ) (by omega)) ?_
  refine sw_aload_n O (xx_dt dd_X14_wins 3 rfl) rfl ?_
  refine sw_iload_n O (xx_dt dd_X14_wins 4 rfl) rfl ?_
  refine sw_callVx (as := [.int x]) (st := []) (st2 := [.int (bZ (n_lt x B))]) O (ct_X14_isBidder hl (z := z) (σ := u2 σ 5000 0 0) hbs (B := B) hB (by omega) (x := x)) ce_X14_isBidder ml_X14_156 iv_X14_isBidder cl_X14 rfl (lm_mod (σ := u2 σ 5000 0 0)) (xx_dt dd_X14_wins 5 rfl) (by decide) rfl rfl (Nat.le_of_ble_eq_true rfl) rfl ?_
  refine sw_if_eqB (tgt := 29) O (xx_dt dd_X14_wins 6 rfl) (by decide) (fun q1 => ?_) (fun q1 => ?_)
  · refine sw_aload_n O (xx_dt dd_X14_wins 15 rfl) rfl ?_
    refine sw_iconst (x := 1) O (xx_dt dd_X14_wins 16 rfl) (by decide) ?_
    refine sw_callVx (as := [.int 1]) (st := []) (st2 := [.int 0]) O (ct_X14_refuse hl (z := z) (σ := u2 σ 5000 0 0) hbs (x := 1)) ce_X14_refuse ml_X14_74 iv_X14_refuse cl_X14 rfl (lm_mod (σ := u2 σ 5000 0 0)) (xx_dt dd_X14_wins 17 rfl) (by decide) rfl rfl (Nat.le_of_ble_eq_true rfl) rfl ?_
    exact sw_iret O (xx_dt dd_X14_wins 18 rfl) rfl rfl (by rw [hQ]; exact ⟨by unfold f_Mwins; simp only [if_neg q1], by unfold g_Mwins; simp only [if_neg q1]⟩)
  · have hc10 := q1
    refine sw_lsE (ls2 := [.ref 5000, .int (nI (cn x))]) (by rw [← hc10.1]) ?_
    have hd10 := hc10.2
    refine sw_aload_n O (xx_dt dd_X14_wins 7 rfl) rfl ?_
    refine sw_iload_n O (xx_dt dd_X14_wins 8 rfl) rfl ?_
    refine sw_new (k := 5) (n := 101) (r := 9000) O (xx_dt dd_X14_wins 9 rfl) cl_X10 nw_X14_218 ((setM_c0 (z := z) (σ := u2 σ 5000 0 0) hme.2.1.1.1 (by omega)).trans (hfr 9000 (by omega) (by omega))) (by omega) ?_
    rw [xx_blk_up]
    refine sw_dup O (xx_dt dd_X14_wins 10 rfl) rfl ?_
    refine sw_aload_n O (xx_dt dd_X14_wins 11 rfl) rfl ?_
    refine sw_callIx (k := 0) (n := 0) (k' := 5) (n' := 101) (as := [.ref 5000]) (st := [.ref 9000, .int (nI (cn x)), .ref 5000]) (st2 := [.ref 9000, .int (nI (cn x)), .ref 5000]) O (ct_X10_init hl (z := z) (σ := u2 σ 5000 0 0) hbs hfr hme.2.1.1.1 (R := R) hR (by omega) (B := B) hB (by omega) (pk := pk) (gr := gr) (cd := cd) (fun j9 hj9 => by rw [(u2_ne (by omega))]; exact hpk j9 hj9) (fun j9 hj9 => by rw [show (u2 σ 5000 0 0) (5020 + j9) 3 = σ (5020 + j9) 3 from (congrFun (u2_ne (by omega)) 3)]; exact hgr j9 hj9) (fun j9 k9 hj9 hk9 => by rw [(u2_ne (by omega))]; exact hcd j9 k9 hj9 hk9)) ce_X10_init ml_X14_220 ii_X10_init (xx_dt dd_X14_wins 12 rfl) (by decide) rfl rfl (Nat.le_of_ble_eq_true rfl) rfl ?_
    refine sw_callVx (as := [.int (nI (cn x)), .ref 9000]) (st := []) (st2 := [.int (f_MwinsNow (g_Cinit (u2 σ 5000 0 0) R B pk gr cd) (cn x))]) O (ct_X14_winsNow hl (z := z) (σ := g_Cinit (u2 σ 5000 0 0) R B pk gr cd) hbs cf_Cinit (i := cn x) (by omega)) ce_X14_winsNow ml_X14_317 iv_X14_winsNow cl_X14 rfl (lm_mod (σ := g_Cinit (u2 σ 5000 0 0) R B pk gr cd)) (xx_dt dd_X14_wins 13 rfl) (by decide) rfl rfl (Nat.le_of_ble_eq_true rfl) rfl ?_
    refine sw_goto (tgt := 34) O (xx_dt dd_X14_wins 14 rfl) (by decide) ?_
    have me9 : mem_eq σ (u2 (g_Cinit (u2 σ 5000 0 0) R B pk gr cd) 9000 20 0) := (mem_eq.frame (τ0 := u2 σ 5000 0 0) (mem_eq.int (r := 5000) (i := 0) (x := 0) hme rfl) (fun q h1 h2 h3 => by simp (disch := omega) only [u2_ne, uR_ne, fr_Cinit, fr_Cpay1, fr_Cpay2]) rfl (fun q h1 h2 => by (simp (disch := omega) only [u2_ne, uR_ne, fr_Cinit, fr_Cpay1, fr_Cpay2]; exact (hme.2.2 q h1 h2).1)))
    exact sw_iretD (h' := setM z (u2 (g_Cinit (u2 σ 5000 0 0) R B pk gr cd) 9000 20 0) h) O (xx_dt dd_X14_wins 18 rfl) rfl rfl (drop9 hfr) (me9.cls hcl) (by rw [hh]; exact fun r hr => me9.dom hr) (by rw [hQ]; exact ⟨by unfold f_Mwins; simp only [if_pos q1], by unfold g_Mwins; simp only [if_pos q1]⟩)
