section
/-! ===== the reference: chartNow ===== -/
def hBM (h : XH) (c : Nat) (b : Int32) (G : Nat → Value) : XH := xx_up (xx_up h 20100 (1, 4, xx_sb 20101 c b)) 20101 (102, 16, G)
def hTM (h : XH) (c : Nat) (G : Nat → Value) : XH := xx_up (xx_up h 20102 (0, 4, xx_so 20103)) 20103 (102, c, fun j => if j < c then G j else .int 0)
section
variable {z : Int64} {σ : XS9} {h : XH} {c c' : Nat} {b b' : Int32} {G G' : Nat → Value}
theorem setM_u {r : Nat} {d : XC} (hr : 20010 ≤ r) : setM z σ (xx_up h r d) = xx_up (setM z σ h) r d := setM_up (.inl (by omega))
theorem hBM_e : setM z σ (hBM h c b G) = xx_up (xx_up (setM z σ h) 20100 (1, 4, xx_sb 20101 c b)) 20101 (102, 16, G) := by
  unfold hBM
  rw [setM_u (by omega), setM_u (by omega)]
theorem hBM_r : setM z σ (hBM h c b G) 20100 = some (1, 4, xx_sb 20101 c b) := by rw [hBM_e, xx_up_ne (by omega), xx_up_eq]
theorem hBM_v : setM z σ (hBM h c b G) 20101 = some (102, 16, G) := by rw [hBM_e, xx_up_eq]
theorem hBM_o {q : Nat} (h2 : q ≠ 20100) (h3 : q ≠ 20101) : setM z σ (hBM h c b G) q = setM z σ h q := by rw [hBM_e, xx_up_ne h3, xx_up_ne h2]
theorem hBM_up : xx_up (xx_up (setM z σ (hBM h c b G)) 20100 (1, 4, xx_sb 20101 c' b')) 20101 (102, 16, G') = setM z σ (hBM h c' b' G') := by
  rw [hBM_e, hBM_e]
  funext q
  unfold xx_up
  by_cases a1 : q = 20101 <;> by_cases a2 : q = 20100 <;> simp_all
theorem hBM_new {c0 : XC} : xx_up (xx_up (xx_up (setM z σ h) 20100 c0) 20100 (1, 4, xx_sb 20101 c b)) 20101 (102, 16, G) = setM z σ (hBM h c b G) := by rw [hBM_e, xx_up_up]
theorem bs_BM (hb : xx_bs h) : xx_bs (hBM h c b G) := bs_up (bs_up hb (by omega) (by omega) (by omega)) (by omega) (by omega) (by omega)
theorem cls_BM (hcl : xx_cls (setM z σ h)) (hG : ∀ j, j < 16 → ∃ x : Int32, G j = .int x) : xx_cls (setM z σ (hBM h c b G)) := by
  rw [hBM_e, xx_up_sw (by omega)]
  refine xx_cls.up (xx_cls.up hcl (fun j hj => ?_)) (fun j hj => ?_)
  · obtain ⟨x, e⟩ := hG j hj
    show xx_in _ (G j)
    rw [e]
    trivial
  · match j, hj with
    | 0, _ => exact (by rw [xx_up_ne (by omega), xx_up_eq]; rfl : ((xx_up (xx_up (setM z σ h) 20101 (102, 16, G)) 20100 (1, 4, xx_sb 20101 c b)) 20101).isSome = true)
    | 1, _ => trivial
    | 2, _ => trivial
    | 3, _ => trivial
theorem tx_at {H1 H2 : XH} {t u m : Nat} {F : Nat → Value} (hx : xx_tx H1 t u m F) (e1 : H2 t = H1 t) (e2 : H2 u = H1 u) : xx_tx H2 t u m F := by
  obtain ⟨⟨f, a1, a2, a3⟩, a4, a5⟩ := hx
  exact ⟨⟨f, e1.trans a1, a2, a3⟩, e2.trans a4, a5⟩
theorem cs_app {l : Launch} (hl : l.stackTraces = false) {t u m : Nat} {F : Nat → Value} (ht : xx_tx (setM z σ (hBM h c b G)) t u m F) (hc : c + m ≤ 16) : XEx l m_J4_append_15ec4 4 0 0 [.ref 20100, .ref t] (setM z σ (hBM h c b G)) (some (.ref 20100)) (setM z σ (hBM h (c + m) b (apG F G c m))) := by
  have t9 := sb_appendS hl hBM_r hBM_v (by omega) (by omega) (by omega) ht hc
  rw [hBM_up] at t9
  exact t9
theorem gD_I {f : Nat → Int32} {s : Nat} : ∀ j, ∃ x : Int32, gD f (fun _ => .int 0) s j = .int x := fun j => by
  unfold gD
  split
  · exact ⟨_, rfl⟩
  · exact ⟨_, rfl⟩
theorem cs_1 {f : Nat → Int32} {W : Nat → Value} {G : Nat → Value} {s : Nat} (hs : 0 < s) (hw : W 0 = .int (sgn (f s))) : apG W (apG (fun _ => .int 44) (gD f G s) (2 * s - 1) 1) (2 * s - 1 + 1) 1 = gD f G (s + 1) := by
  funext j
  unfold apG va_cpy gD
  by_cases e : j = 2 * s
  · rw [if_pos (by omega), if_pos (by omega), if_neg (by omega), show 0 + (j - (2 * s - 1 + 1)) = 0 by omega, hw, show j / 2 = s by omega]
  · rw [if_neg (by omega)]
    by_cases e2 : j = 2 * s - 1
    · rw [if_pos (by omega), if_pos (by omega), if_pos (by omega)]
    · rw [if_neg (by omega)]
      by_cases e3 : j < 2 * s - 1
      · rw [if_pos e3, if_pos (show j < 2 * (s + 1) - 1 by omega)]
      · rw [if_neg e3, if_neg (by omega)]
theorem cs_0 {f : Nat → Int32} {W E : Nat → Value} {G : Nat → Value} {s : Nat} (hs : s = 0) (hw : W 0 = .int (sgn (f s))) : apG W (apG E (gD f G s) (2 * s - 1) 0) (2 * s - 1 + 0) 1 = gD f G (s + 1) := by
  subst hs
  funext j
  unfold apG va_cpy gD
  by_cases e : j = 0
  · rw [if_pos (by omega), if_pos (by omega), if_neg (by omega), e, show 0 + (0 - (2 * 0 - 1 + 0)) = 0 by omega, hw]
  · rw [if_neg (by omega), if_neg (by omega), if_neg (by omega), if_neg (by omega)]
/-- the small builder and its text -/
def hIM (H : XH) (c : Nat) (G : Nat → Value) : XH := xx_up (xx_up H 20104 (1, 4, xx_sb 20105 c 0)) 20105 (102, 16, G)
def hJM (H : XH) (c : Nat) (F : Nat → Value) : XH := xx_up (xx_up H 20106 (0, 4, xx_so 20107)) 20107 (102, c, F)
variable {H : XH}
theorem hIM_r : hIM H c G 20104 = some (1, 4, xx_sb 20105 c 0) := (xx_up_ne (by omega)).trans (xx_up_eq _ _ _)
theorem hIM_v : hIM H c G 20105 = some (102, 16, G) := xx_up_eq _ _ _
theorem hIM_o {q : Nat} (h2 : q ≠ 20104) (h3 : q ≠ 20105) : hIM H c G q = H q := (xx_up_ne h3).trans (xx_up_ne h2)
theorem hIM_up : xx_up (xx_up (hIM H c G) 20104 (1, 4, xx_sb 20105 c' 0)) 20105 (102, 16, G') = hIM H c' G' := by
  funext q
  unfold hIM xx_up
  by_cases a1 : q = 20105 <;> by_cases a2 : q = 20104 <;> simp_all
theorem hIM_new {c0 : XC} : xx_up (xx_up (xx_up H 20104 c0) 20104 (1, 4, xx_sb 20105 c 0)) 20105 (102, 16, G) = hIM H c G := by unfold hIM; rw [xx_up_up]
theorem hJM_t : hJM H c G 20106 = some (0, 4, xx_so 20107) := (xx_up_ne (by omega)).trans (xx_up_eq _ _ _)
theorem hJM_u : hJM H c G 20107 = some (102, c, G) := xx_up_eq _ _ _
theorem hJM_o {q : Nat} (h2 : q ≠ 20106) (h3 : q ≠ 20107) : hJM H c G q = H q := (xx_up_ne h3).trans (xx_up_ne h2)
theorem sub_IJ {F2 : Nat → Value} {c2 m : Nat} {F : Nat → Value} (h4 : ∀ q, 20104 ≤ q → q < 20108 → h q = none) : xx_sub (setM z σ (hBM h c2 b F2)) (xx_up (xx_up (hJM (hIM (setM z σ (hBM h c b G)) c' G') m F) 20100 (1, 4, xx_sb 20101 c2 b)) 20101 (102, 16, F2)) := by
  intro q d hq
  have n4 : 20104 ≤ q → q < 20108 → False := fun a1 a2 => by
    rw [hBM_o (by omega) (by omega), setM_out (by omega), h4 q a1 a2] at hq
    cases hq
  by_cases a1 : q = 20101
  · rw [a1, hBM_v] at hq
    rw [a1, xx_up_eq]
    exact hq
  · rw [xx_up_ne a1]
    by_cases a2 : q = 20100
    · rw [a2, hBM_r] at hq
      rw [a2, xx_up_eq]
      exact hq
    · rw [xx_up_ne a2, hJM_o (fun e => n4 (by omega) (by omega)) (fun e => n4 (by omega) (by omega)), hIM_o (fun e => n4 (by omega) (by omega)) (fun e => n4 (by omega) (by omega)), hBM_o a2 a1]
      rw [hBM_o a2 a1] at hq
      exact hq
theorem hTM_e : xx_up (xx_up (setM z σ h) 20102 (0, 4, xx_so 20103)) 20103 (102, c, fun j => if j < c then G j else .int 0) = setM z σ (hTM h c G) := by
  unfold hTM
  rw [setM_u (by omega), setM_u (by omega)]
theorem hTM_sub (h4 : ∀ q, 20100 ≤ q → q < 20108 → h q = none) : xx_sub (setM z σ (hTM h c G)) (setM z σ (hTM (hBM h c' b G') c G)) := by
  rw [← hTM_e, ← hTM_e]
  intro q d hq
  by_cases a1 : q = 20103
  · rw [a1, xx_up_eq] at hq
    rw [a1, xx_up_eq]
    exact hq
  · rw [xx_up_ne a1] at hq ⊢
    by_cases a2 : q = 20102
    · rw [a2, xx_up_eq] at hq
      rw [a2, xx_up_eq]
      exact hq
    · rw [xx_up_ne a2] at hq ⊢
      have n4 : 20100 ≤ q → q < 20108 → False := fun a3 a4 => by
        rw [setM_out (by omega), h4 q a3 a4] at hq
        cases hq
      rw [hBM_o (fun e => n4 (by omega) (by omega)) (fun e => n4 (by omega) (by omega))]
      exact hq
theorem hTM_cls (hcl : xx_cls (setM z σ h)) (hG : ∀ j, j < c → ∃ x : Int32, G j = .int x) : xx_cls (setM z σ (hTM h c G)) := by
  rw [← hTM_e, xx_up_sw (by omega)]
  refine xx_cls.up (xx_cls.up hcl (fun j hj => ?_)) (fun j hj => ?_)
  · show xx_in _ (if j < c then G j else .int 0)
    rw [if_pos hj]
    obtain ⟨x, e⟩ := hG j hj
    rw [e]
    trivial
  · match j, hj with
    | 0, _ => exact (by rw [xx_up_ne (by omega), xx_up_eq]; rfl : ((xx_up (xx_up (setM z σ h) 20103 (102, c, fun j => if j < c then G j else .int 0)) 20102 (0, 4, xx_so 20103)) 20103).isSome = true)
    | 1, _ => trivial
    | 2, _ => trivial
    | 3, _ => trivial
theorem hTM_dom (h4 : ∀ q, 20100 ≤ q → q < 20108 → h q = none) (r : Nat) (hr : (setM z σ h r).isSome = true) : (setM z σ (hTM h c G) r).isSome = true := by
  rw [← hTM_e]
  by_cases a1 : r = 20103
  · rw [a1, xx_up_eq]; rfl
  · rw [xx_up_ne a1]
    by_cases a2 : r = 20102
    · rw [a2, xx_up_eq]; rfl
    · rw [xx_up_ne a2]; exact hr
end
/-- the three texts, and the row of digits' signs -/
def xx_tl (h : XH) : Prop := (xx_tx h 5 8 1 (fun _ => .int 44) ∧ xx_tx h 6 9 0 (fun _ => .int 0) ∧ xx_tx h 7 10 1 (fun _ => .int 45)) ∧ xx_dig h
theorem tl_C {h : XH} (hq : xx_tl h) {z : Int64} {σ : XS9} {c : Nat} {b : Int32} {G : Nat → Value} : xx_tl (setM z σ (hBM h c b G)) := by
  have e : ∀ q, q < 1000 → setM z σ (hBM h c b G) q = h q := fun q h1 => (hBM_o (by omega) (by omega)).trans (setM_out (by omega))
  obtain ⟨⟨a1, a2, a3⟩, F, a4, a5⟩ := hq
  exact ⟨⟨tx_at a1 (e _ (by omega)) (e _ (by omega)), tx_at a2 (e _ (by omega)) (e _ (by omega)), tx_at a3 (e _ (by omega)) (e _ (by omega))⟩, F, (e _ (by omega)).trans a4, a5⟩
theorem tx_c {h : XH} {t u m : Nat} {F : Nat → Value} (a : xx_tx h t u m F) : ∃ c, h t = some c := by
  obtain ⟨⟨f, a1, _⟩, _⟩ := a
  exact ⟨_, a1⟩
theorem fit_dig {x : Nat} (hx : x < 10) : fits .byte (.int (48 + nI x)) = true := by
  have : ∀ a : Fin 10, fits .byte (.int (48 + nI a.1)) = true := by decide +kernel
  exact this ⟨x, hx⟩
theorem chart_dom {z : Int64} {σ : XS9} {h : XH} {c : Nat} {b : Int32} {G : Nat → Value} {r : Nat} (hr : (setM z σ h r).isSome = true) : (setM z σ (hBM h c b G) r).isSome = true := by
  rw [hBM_e]
  by_cases a1 : r = 20101
  · rw [a1, xx_up_eq]; rfl
  · rw [xx_up_ne a1]
    by_cases a2 : r = 20100
    · rw [a2, xx_up_eq]; rfl
    · rw [xx_up_ne a2]; exact hr
theorem in_BM {z : Int64} {σ : XS9} {h : XH} {c : Nat} {b : Int32} {G : Nat → Value} : xx_in (setM z σ (hBM h c b G)) (.ref 20100) := by
  show (setM z σ (hBM h c b G) 20100).isSome = true
  rw [hBM_r]
  rfl
theorem ct_X14_chartNow {l : Launch} {h : XH} (hl : l.stackTraces = false) {z : Int64} {σ : XS9} (hbs : xx_bs h) (htl : xx_tl h) (hf4 : ∀ q, 20100 ≤ q → q < 20108 → h q = none) {R : Nat} (hR : σ 5001 900 = nI R) (hR5 : R ≤ 5) {B : Nat} (hB : σ 5002 900 = nI B) (hB6 : B ≤ 6) {pk : Nat → Nat} (hpk : ∀ j, j < B → σ (5030 + j) 900 = nI (2 * pk j) ∧ pk j ≤ 6) (hkp : σ 5000 1 = 3 → ∀ j, j < B → σ 5005 j = -1 ∨ ∃ n, n < pk j ∧ σ 5005 j = nI n) {tn : Nat → Nat} (htn : ∀ r, r < 5 → σ 5007 r = nI (tn r) ∧ tn r < 6) {sp : Nat → Nat} (hsp : ∀ r, r < R → σ (5010 + r) 0 = nI (sp r) ∧ sp r ≤ 5) {rg : Nat} (hr : rg < R) (hho : ∀ s, s < sp rg → f_MholderNow σ rg (nI s) B tn = -1 ∨ n_lt (f_MholderNow σ rg (nI s) B tn) 6) : XEx l m_X14_chartNow 8 24 158 [.ref 5000, .int (nI rg)] (setM z σ h) (some (.ref 20102)) (setM z σ (hTM h (2 * sp rg - 1) (gD (fun s => f_MholderNow σ rg (nI s) B tn) (fun _ => Value.int 0) (sp rg)))) := by
  refine XMet.of hl rfl rfl (Nat.le_of_ble_eq_true rfl) (fun Y O hh hQ => ?_)
  show SW Y 24 158 (setM z σ h) 0 [.ref 5000, .int (nI rg), xx_d, xx_d, xx_d] []
  refine sw_cls (fun hcl => ?_)
  have hs5 := (hsp rg (by omega)).2
  have hbs0 := hbs
  refine sw_new (k := 23) (n := 154) (r := 20100) O (xx_dt dd_X14_chartNow 0 rfl) cl_J4 nw_X14_332 ((setM_out (by omega)).trans (hf4 20100 (by omega) (by omega))) (by omega) ?_
  rw [xx_blk_up]
  refine sw_dup O (xx_dt dd_X14_chartNow 1 rfl) rfl ?_
  refine sw_callIx (k := 22) (n := 138) (k' := 1) (n' := 16) (as := []) (st := [.ref 20100]) (st2 := [.ref 20100]) O (sb_init hl (h := xx_up (setM z σ h) 20100 (1, 4, fun j => defaultValue (tyJ4 j))) (r := 20100) (v := 20101) (xx_up_eq _ _ _) (by omega) ((xx_up_ne (by omega)).trans ((setM_out (by omega)).trans (hf4 20101 (by omega) (by omega)))) (by omega)) ce_J4_init_da8c8 ml_X14_334 ii_J4_init_da8c8 (xx_dt dd_X14_chartNow 2 rfl) (by decide) rfl rfl (Nat.le_of_ble_eq_true rfl) rfl ?_
  rw [hBM_new]
  refine sw_astore_n (ls2 := [.ref 5000, .int (nI rg), .ref 20100, xx_d, xx_d]) O (xx_dt dd_X14_chartNow 3 rfl) (by decide) rfl ?_
  refine sw_iconst (x := 0) O (xx_dt dd_X14_chartNow 4 rfl) (by decide) ?_
  refine sw_istore_n (ls2 := [.ref 5000, .int (nI rg), .ref 20100, .int 0, xx_d]) O (xx_dt dd_X14_chartNow 5 rfl) (by decide) rfl ?_
  rw [show hBM h 0 0 (fun _ => Value.int 0) = hBM h (2 * 0 - 1) 0 (gD (fun s => f_MholderNow σ rg (nI s) B tn) (fun _ => Value.int 0) 0) by rw [gD_0]]
  have hbs : ∀ {c : Nat} {b : Int32} {G : Nat → Value}, xx_bs (hBM h c b G) := fun {c b G} => bs_BM hbs0
  have htx : ∀ {c : Nat} {b : Int32} {G : Nat → Value}, xx_tl (setM z σ (hBM h c b G)) := fun {c b G} => tl_C htl
  refine xx_wid (k' := 2 + 4 * (sp rg - 0)) (n' := 13 + 25 * (sp rg - 0)) (by omega) (by omega) ?_
  refine sw_forV (kf := fun i => 2 + 4 * (sp rg - i)) (nf := fun i => 13 + 25 * (sp rg - i)) (fun _ s => s + 1) (fun i s => s = i) (hp := fun s => setM z σ (hBM h (2 * s - 1) 0 (gD (fun s => f_MholderNow σ rg (nI s) B tn) (fun _ => Value.int 0) s))) (hd := 10) (lc := fun i s => [.ref 5000, .int (nI rg), .ref 20100, .int (nI i), xx_d]) (N := sp rg) (fun i s hi hP => ⟨by rw [hP], fun kk => ?_⟩) (sp rg) 0 0 (by omega) rfl (fun hP => ?_)
  · subst hP
    obtain ⟨kA, ekA⟩ : ∃ k, k = 2 + 4 * (sp rg - (s + 1)) := ⟨_, rfl⟩
    obtain ⟨nA, enA⟩ : ∃ k, k = 13 + 25 * (sp rg - (s + 1)) := ⟨_, rfl⟩
    obtain ⟨kB, ekB⟩ : ∃ k, k = kA + 4 := ⟨_, rfl⟩
    obtain ⟨nB, enB⟩ : ∃ k, k = nA + 25 := ⟨_, rfl⟩
    refine xx_wid (k' := kB) (n' := nB) (by show _ ≤ 2 + 4 * (sp rg - s); omega) (by show _ ≤ 13 + 25 * (sp rg - s); omega) ?_
    have hbs : xx_bs (hBM h (2 * s - 1) 0 (gD (fun s => f_MholderNow σ rg (nI s) B tn) (fun _ => Value.int 0) s)) := hbs
    show SW Y _ _ (setM z σ (hBM h (2 * s - 1) 0 (gD (fun s => f_MholderNow σ rg (nI s) B tn) (fun _ => Value.int 0) s))) 10 [.ref 5000, .int (nI rg), .ref 20100, .int (nI s), xx_d] []
    refine sw_iload_n O (xx_dt dd_X14_chartNow 6 rfl) rfl ?_
    refine sw_aload_n O (xx_dt dd_X14_chartNow 7 rfl) rfl ?_
    refine sw_get (v := .ref 5001) O (xx_dt dd_X14_chartNow 8 rfl) cl_X14 fl_X14_23 (lm_mod (σ := σ)) (by decide) rfl ?_
    refine sw_iload_n O (xx_dt dd_X14_chartNow 9 rfl) rfl ?_
    refine sw_callVL (ci := 6) (as := [.int (nI rg)]) (st := [.int (nI s)]) (st2 := [.ref (5010 + rg), .int (nI s)]) O (ct_get (z := z) (σ := σ) (h := (hBM h (2 * s - 1) 0 (gD (fun s => f_MholderNow σ rg (nI s) B tn) (fun _ => Value.int 0) s))) hl hbs (lm_5001 (z := z) (σ := σ) (h := (hBM h (2 * s - 1) 0 (gD (fun s => f_MholderNow σ rg (nI s) B tn) (fun _ => Value.int 0) s))) (R := R) hR (by omega)) (by omega) (i := rg) (x := 5010 + rg) (by omega) (by omega) rfl) ce_Jx4a65c_get_915e3 ml_X14_61 iv_Jx4a65c_get_915e3 cl_Jx4a65c rfl (lm_5001 (z := z) (σ := σ) (h := (hBM h (2 * s - 1) 0 (gD (fun s => f_MholderNow σ rg (nI s) B tn) (fun _ => Value.int 0) s))) (R := R) hR (by omega)) (xx_dt dd_X14_chartNow 10 rfl) (by decide) rfl rfl (Nat.le_of_ble_eq_true rfl) rfl ?_
    refine sw_castO O (xx_dt dd_X14_chartNow 11 rfl) cl_X12 (lm_reg (σ := σ) (R := R) hR (by omega) (j := rg) (by omega)) cw_X14_65 ?_
    have hz22 := (hsp rg (by omega)).2
    refine sw_get (v := .int (nI (sp rg))) O (xx_dt dd_X14_chartNow 12 rfl) cl_X12 fl_X14_81 (lm_reg (σ := σ) (R := R) hR (by omega) (j := rg) (by omega)) (by decide) (congrArg Value.int (hsp rg (by omega)).1) ?_
    refine sw_icmp_ge (tgt := 96) O (xx_dt dd_X14_chartNow 13 rfl) (by decide) (fun q => absurd q (nI_ge (b := sp rg) hi (by omega))) (fun _ => ?_)
    refine sw_aload_n O (xx_dt dd_X14_chartNow 14 rfl) rfl ?_
    refine sw_iload_n O (xx_dt dd_X14_chartNow 15 rfl) rfl ?_
    refine sw_iload_n O (xx_dt dd_X14_chartNow 16 rfl) rfl ?_
    refine sw_callVx (as := [.int (nI rg), .int (nI s)]) (st := []) (st2 := [.int (f_MholderNow σ rg (nI s) B tn)]) O (ct_X14_holderNow hl (z := z) (σ := σ) hbs (R := R) hR (by omega) (B := B) hB (by omega) (pk := pk) hpk hkp (tn := tn) htn (r := rg) (y := nI s) (by omega)) ce_X14_holderNow ml_X14_329 iv_X14_holderNow cl_X14 rfl (lm_mod (σ := σ)) (xx_dt dd_X14_chartNow 17 rfl) (by decide) rfl rfl (Nat.le_of_ble_eq_true rfl) rfl ?_
    refine sw_istore (ls2 := [.ref 5000, .int (nI rg), .ref 20100, .int (nI s), .int (f_MholderNow σ rg (nI s) B tn)]) O (xx_dt dd_X14_chartNow 18 rfl) (by decide) rfl ?_
    refine sw_aload_n O (xx_dt dd_X14_chartNow 19 rfl) rfl ?_
    refine sw_iload_n O (xx_dt dd_X14_chartNow 20 rfl) rfl ?_
    refine sw_if_le (tgt := 47) O (xx_dt dd_X14_chartNow 21 rfl) (by decide) (fun q => ?_) (fun q => ?_)
    · have hs0 : s = 0 := by have := (nI_leI (a := s) (b := 0) (by omega) (by omega)).mp q; omega
      obtain ⟨c6, hc6⟩ := tx_c ((htx (c := 2 * s - 1) (b := 0) (G := (gD (fun s => f_MholderNow σ rg (nI s) B tn) (fun _ => Value.int 0) s))).1.2.1) 
      refine sw_ldcT (a := 6) O (xx_dt dd_X14_chartNow 24 rfl) (.tail _ (.head _)) hc6 (by omega) ?_
      refine sw_callVx (as := [.ref 6]) (st := []) (st2 := [.ref 20100]) O (cs_app hl (c := 2 * s - 1) (b := 0) (G := (gD (fun s => f_MholderNow σ rg (nI s) B tn) (fun _ => Value.int 0) s)) (htx).1.2.1 (by omega)) ce_J4_append_15ec4 ml_X14_339 iv_J4_append_15ec4 cl_J4 rfl hBM_r (xx_dt dd_X14_chartNow 25 rfl) (by decide) rfl rfl (Nat.le_of_ble_eq_true rfl) rfl ?_
      refine sw_iload O (xx_dt dd_X14_chartNow 26 rfl) rfl ?_
      refine sw_iconst (x := (-1)) O (xx_dt dd_X14_chartNow 27 rfl) (by decide) ?_
      refine sw_icmp_ne (tgt := 65) O (xx_dt dd_X14_chartNow 28 rfl) (by decide) (fun q2 => ?_) (fun q2 => ?_)
      · obtain hn := (hho s hi).resolve_left q2
        obtain ⟨x, hx, ex⟩ : ∃ x, x < 10 ∧ f_MholderNow σ rg (nI s) B tn = nI x := ⟨_, by have := hn.2; omega, hn.1⟩
        have hsg : 48 + nI x = sgn (f_MholderNow σ rg (nI s) B tn) := by unfold sgn; rw [if_neg q2, ex]
        obtain ⟨H9, eH9⟩ : ∃ H9, H9 = (setM z σ (hBM h (2 * s - 1 + 0) 0 (apG (fun _ => .int 0) (gD (fun s => f_MholderNow σ rg (nI s) B tn) (fun _ => Value.int 0) s) (2 * s - 1) 0))) := ⟨_, rfl⟩
        have h9f : ∀ q, 20104 ≤ q → q < 20108 → H9 q = none := fun q a1 a2 => by rw [eH9, hBM_o (by omega) (by omega), setM_out (by omega)]; exact hf4 q (by omega) a2
        have h9t : xx_tl H9 := by rw [eH9]; exact htx
        rw [← eH9]
        refine xx_wid (k' := kA + 4) (n' := nA + 25) (by omega) (by omega) ?_
        refine sw_new (k := kA + 3) (n := nA + 21) (r := 20104) O (xx_dt dd_X14_chartNow 31 rfl) cl_J4 nw_X14_332 (h9f 20104 (by omega) (by omega)) (by omega) ?_
        rw [xx_blk_up]
        refine sw_dup O (xx_dt dd_X14_chartNow 32 rfl) rfl ?_
        refine sw_callIx (k := kA + 2) (n := nA + 5) (k' := 1) (n' := 16) (as := []) (st := [.ref 20104, .ref 20100]) (st2 := [.ref 20104, .ref 20100]) O (sb_init hl (h := xx_up H9 20104 (1, 4, fun j => defaultValue (tyJ4 j))) (r := 20104) (v := 20105) (xx_up_eq _ _ _) (by omega) ((xx_up_ne (by omega)).trans (h9f 20105 (by omega) (by omega))) (by omega)) ce_J4_init_da8c8 ml_X14_334 ii_J4_init_da8c8 (xx_dt dd_X14_chartNow 33 rfl) (by decide) rfl rfl (Nat.le_of_ble_eq_true rfl) rfl ?_
        rw [hIM_new]
        obtain ⟨kC, ekC⟩ : ∃ k, k = kA + 2 := ⟨_, rfl⟩
        obtain ⟨nC, enC⟩ : ∃ k, k = nA + 5 := ⟨_, rfl⟩
        refine xx_wid (k' := kC) (n' := nC) (by omega) (by omega) ?_
        have h6 : xx_tx (hIM H9 0 (fun _ => Value.int 0)) 6 9 0 (fun _ => .int 0) := tx_at h9t.1.2.1 (hIM_o (by omega) (by omega)) (hIM_o (by omega) (by omega))
        obtain ⟨c6, hc6⟩ := tx_c h6
        refine sw_ldcT (a := 6) O (xx_dt dd_X14_chartNow 34 rfl) (.tail _ (.head _)) hc6 (by omega) ?_
        refine sw_callVx (as := [.ref 6]) (st := [.ref 20100]) (st2 := [.ref 20104, .ref 20100]) O (sb_appendS hl hIM_r hIM_v (by omega) (by omega) (by omega) h6 (by omega)) ce_J4_append_15ec4 ml_X14_339 iv_J4_append_15ec4 cl_J4 rfl hIM_r (xx_dt dd_X14_chartNow 35 rfl) (by decide) rfl rfl (Nat.le_of_ble_eq_true rfl) rfl ?_
        rw [hIM_up]
        refine sw_iload O (xx_dt dd_X14_chartNow 36 rfl) rfl ?_
        rw [ex]
        obtain ⟨F4, h4, hF4⟩ := h9t.2
        refine sw_callVx (as := [.int (nI x)]) (st := [.ref 20100]) (st2 := [.ref 20104, .ref 20100]) O (sb_appendI hl (r := 20104) (v := 20105) (c := 0 + 0) (b := 0) (G := (apG (fun _ => Value.int 0) (fun _ => Value.int 0) 0 0)) hIM_r hIM_v (by omega) (by omega) (by omega) (by omega) hx ((hIM_o (by omega) (by omega)).trans h4) (hF4 x hx) (nar_dig hx)) ce_J4_append_bf812 ml_X14_345 iv_J4_append_bf812 cl_J4 rfl hIM_r (xx_dt dd_X14_chartNow 37 rfl) (by decide) rfl rfl (Nat.le_of_ble_eq_true rfl) rfl ?_
        rw [hIM_up]
        refine xx_wid (k' := kA + 2) (n' := nA + (0 + 0 + 1 + 4)) (by omega) (by omega) (sw_callVx (k := kA) (n := nA) (as := []) (st := [.ref 20100]) (st2 := [.ref 20106, .ref 20100]) O (sb_toString hl (r := 20104) (v := 20105) (t := 20106) (u := 20107) (c := 0 + 0 + 1) (b := 0) (G := (updV (apG (fun _ => Value.int 0) (fun _ => Value.int 0) 0 0) (0 + 0) (.int (48 + nI x)))) hIM_r hIM_v ((hIM_o (by omega) (by omega)).trans (h9f 20106 (by omega) (by omega))) ((hIM_o (by omega) (by omega)).trans (h9f 20107 (by omega) (by omega))) (by omega) (by omega) (by omega) (fun j hj => ⟨48 + nI x, by unfold updV; rw [if_pos (by omega)], fit_dig hx⟩) (by omega)) ce_J4_toString_0e30d ml_X14_348 iv_J4_toString_0e30d cl_J4 rfl hIM_r (xx_dt dd_X14_chartNow 38 rfl) (by decide) rfl rfl (Nat.le_of_ble_eq_true rfl) rfl ?_)
        obtain ⟨W, eW⟩ : ∃ W : Nat → Value, W = (fun j => if j < 0 + 0 + 1 then (updV (apG (fun _ => Value.int 0) (fun _ => Value.int 0) 0 0) (0 + 0) (.int (48 + nI x))) j else .int 0) := ⟨_, rfl⟩
        have hW0 : W 0 = .int (48 + nI x) := by rw [eW]; rfl
        rw [← eW]
        show SW Y _ _ (hJM (hIM H9 (0 + 0 + 1) (updV (apG (fun _ => Value.int 0) (fun _ => Value.int 0) 0 0) (0 + 0) (.int (48 + nI x)))) 1 W) _ _ _
        have hj : xx_tx (hJM (hIM H9 (0 + 0 + 1) (updV (apG (fun _ => Value.int 0) (fun _ => Value.int 0) 0 0) (0 + 0) (.int (48 + nI x)))) 1 W) 20106 20107 1 W := ⟨⟨_, hJM_t, rfl, rfl⟩, hJM_u, fun j hj => (by rw [show j = 0 by omega]; exact ⟨_, hW0, fit_dig hx⟩), by omega⟩
        have hr9 : hJM (hIM H9 (0 + 0 + 1) (updV (apG (fun _ => Value.int 0) (fun _ => Value.int 0) 0 0) (0 + 0) (.int (48 + nI x)))) 1 W 20100 = some (1, 4, xx_sb 20101 (2 * s - 1 + 0) 0) := (hJM_o (by omega) (by omega)).trans ((hIM_o (by omega) (by omega)).trans (by rw [eH9]; exact hBM_r))
        have hv9 : hJM (hIM H9 (0 + 0 + 1) (updV (apG (fun _ => Value.int 0) (fun _ => Value.int 0) 0 0) (0 + 0) (.int (48 + nI x)))) 1 W 20101 = some (102, 16, (apG (fun _ => .int 0) (gD (fun s => f_MholderNow σ rg (nI s) B tn) (fun _ => Value.int 0) s) (2 * s - 1) 0)) := (hJM_o (by omega) (by omega)).trans ((hIM_o (by omega) (by omega)).trans (by rw [eH9]; exact hBM_v))
        refine sw_callVx (as := [.ref 20106]) (st := []) (st2 := [.ref 20100]) O (sb_appendS hl hr9 hv9 (by omega) (by omega) (by omega) hj (by omega)) ce_J4_append_15ec4 ml_X14_339 iv_J4_append_15ec4 cl_J4 rfl hr9 (xx_dt dd_X14_chartNow 39 rfl) (by decide) rfl rfl (Nat.le_of_ble_eq_true rfl) rfl ?_
        refine sw_pop O (xx_dt dd_X14_chartNow 40 rfl) rfl ?_
        subst eH9
        rw [cs_0 hs0 (hW0.trans (congrArg Value.int hsg)), show 2 * s - 1 + 0 + 1 = 2 * (s + 1) - 1 by omega]
        refine sw_drop (h2 := setM z σ (hBM h (2 * (s + 1) - 1) 0 (gD (fun s => f_MholderNow σ rg (nI s) B tn) (fun _ => Value.int 0) (s + 1)))) (sub_IJ (fun q a1 a2 => hf4 q (by omega) a2)) (cls_BM hcl (fun j _ => gD_I j)) (by rw [hh]; exact fun r hr9 => chart_dom hr9) (by intro v9 hv9; simp only [List.mem_cons, List.not_mem_nil, or_false] at hv9; rcases hv9 with rfl | rfl | rfl | rfl | rfl <;> first | exact in_mod | exact in_BM | trivial) (by intro v9 hv9; cases hv9) ?_
        refine sw_iinc (y := nI (s + 1)) (ls2 := [.ref 5000, .int (nI rg), .ref 20100, .int (nI (s + 1)), .int (nI x)]) O (xx_dt dd_X14_chartNow 41 rfl) rfl (nI_1 _) (by decide) rfl ?_
        refine sw_goto (tgt := 10) O (xx_dt dd_X14_chartNow 42 rfl) (by decide) ?_
        refine sw_dum (ls2 := [.ref 5000, .int (nI rg), .ref 20100, .int (nI (s + 1)), xx_d]) ⟨.inr rfl, .inr rfl, .inr rfl, .inr rfl, .inl rfl, trivial⟩ ?_
        refine xx_wid (k' := 2 + 4 * (sp rg - (s + 1))) (n' := 13 + 25 * (sp rg - (s + 1))) (by omega) (by omega) ?_
        exact kk
      · have hsg : (45 : Int32) = sgn (f_MholderNow σ rg (nI s) B tn) := by unfold sgn; rw [if_pos q2]
        obtain ⟨c7, hc7⟩ := tx_c ((htx (c := 2 * s - 1 + 0) (b := 0) (G := (apG (fun _ => .int 0) (gD (fun s => f_MholderNow σ rg (nI s) B tn) (fun _ => Value.int 0) s) (2 * s - 1) 0))).1.2.2) 
        refine sw_ldcT (a := 7) O (xx_dt dd_X14_chartNow 29 rfl) (.tail _ (.tail _ (.head _))) hc7 (by omega) ?_
        refine sw_goto (tgt := 86) O (xx_dt dd_X14_chartNow 30 rfl) (by decide) ?_
        refine sw_callVx (as := [.ref 7]) (st := []) (st2 := [.ref 20100]) O (cs_app hl (c := 2 * s - 1 + 0) (b := 0) (G := (apG (fun _ => .int 0) (gD (fun s => f_MholderNow σ rg (nI s) B tn) (fun _ => Value.int 0) s) (2 * s - 1) 0)) (htx).1.2.2 (by omega)) ce_J4_append_15ec4 ml_X14_339 iv_J4_append_15ec4 cl_J4 rfl hBM_r (xx_dt dd_X14_chartNow 39 rfl) (by decide) rfl rfl (Nat.le_of_ble_eq_true rfl) rfl ?_
        rw [cs_0 hs0 (congrArg Value.int hsg), show 2 * s - 1 + 0 + 1 = 2 * (s + 1) - 1 by omega]
        refine sw_pop O (xx_dt dd_X14_chartNow 40 rfl) rfl ?_
        refine sw_iinc (y := nI (s + 1)) (ls2 := [.ref 5000, .int (nI rg), .ref 20100, .int (nI (s + 1)), .int (f_MholderNow σ rg (nI s) B tn)]) O (xx_dt dd_X14_chartNow 41 rfl) rfl (nI_1 _) (by decide) rfl ?_
        refine sw_goto (tgt := 10) O (xx_dt dd_X14_chartNow 42 rfl) (by decide) ?_
        refine sw_dum (ls2 := [.ref 5000, .int (nI rg), .ref 20100, .int (nI (s + 1)), xx_d]) ⟨.inr rfl, .inr rfl, .inr rfl, .inr rfl, .inl rfl, trivial⟩ ?_
        refine xx_wid (k' := 2 + 4 * (sp rg - (s + 1))) (n' := 13 + 25 * (sp rg - (s + 1))) (by omega) (by omega) ?_
        exact kk
    · have hs : 0 < s := Nat.pos_of_ne_zero (fun e => q (by rw [e]; exact Int32.le_refl _))
      obtain ⟨c5, hc5⟩ := tx_c ((htx (c := 2 * s - 1) (b := 0) (G := (gD (fun s => f_MholderNow σ rg (nI s) B tn) (fun _ => Value.int 0) s))).1.1) 
      refine sw_ldcT (a := 5) O (xx_dt dd_X14_chartNow 22 rfl) (.head _) hc5 (by omega) ?_
      refine sw_goto (tgt := 50) O (xx_dt dd_X14_chartNow 23 rfl) (by decide) ?_
      refine sw_callVx (as := [.ref 5]) (st := []) (st2 := [.ref 20100]) O (cs_app hl (c := 2 * s - 1) (b := 0) (G := (gD (fun s => f_MholderNow σ rg (nI s) B tn) (fun _ => Value.int 0) s)) (htx).1.1 (by omega)) ce_J4_append_15ec4 ml_X14_339 iv_J4_append_15ec4 cl_J4 rfl hBM_r (xx_dt dd_X14_chartNow 25 rfl) (by decide) rfl rfl (Nat.le_of_ble_eq_true rfl) rfl ?_
      refine sw_iload O (xx_dt dd_X14_chartNow 26 rfl) rfl ?_
      refine sw_iconst (x := (-1)) O (xx_dt dd_X14_chartNow 27 rfl) (by decide) ?_
      refine sw_icmp_ne (tgt := 65) O (xx_dt dd_X14_chartNow 28 rfl) (by decide) (fun q2 => ?_) (fun q2 => ?_)
      · obtain hn := (hho s hi).resolve_left q2
        obtain ⟨x, hx, ex⟩ : ∃ x, x < 10 ∧ f_MholderNow σ rg (nI s) B tn = nI x := ⟨_, by have := hn.2; omega, hn.1⟩
        have hsg : 48 + nI x = sgn (f_MholderNow σ rg (nI s) B tn) := by unfold sgn; rw [if_neg q2, ex]
        obtain ⟨H9, eH9⟩ : ∃ H9, H9 = (setM z σ (hBM h (2 * s - 1 + 1) 0 (apG (fun _ => .int 44) (gD (fun s => f_MholderNow σ rg (nI s) B tn) (fun _ => Value.int 0) s) (2 * s - 1) 1))) := ⟨_, rfl⟩
        have h9f : ∀ q, 20104 ≤ q → q < 20108 → H9 q = none := fun q a1 a2 => by rw [eH9, hBM_o (by omega) (by omega), setM_out (by omega)]; exact hf4 q (by omega) a2
        have h9t : xx_tl H9 := by rw [eH9]; exact htx
        rw [← eH9]
        refine xx_wid (k' := kA + 4) (n' := nA + 25) (by omega) (by omega) ?_
        refine sw_new (k := kA + 3) (n := nA + 21) (r := 20104) O (xx_dt dd_X14_chartNow 31 rfl) cl_J4 nw_X14_332 (h9f 20104 (by omega) (by omega)) (by omega) ?_
        rw [xx_blk_up]
        refine sw_dup O (xx_dt dd_X14_chartNow 32 rfl) rfl ?_
        refine sw_callIx (k := kA + 2) (n := nA + 5) (k' := 1) (n' := 16) (as := []) (st := [.ref 20104, .ref 20100]) (st2 := [.ref 20104, .ref 20100]) O (sb_init hl (h := xx_up H9 20104 (1, 4, fun j => defaultValue (tyJ4 j))) (r := 20104) (v := 20105) (xx_up_eq _ _ _) (by omega) ((xx_up_ne (by omega)).trans (h9f 20105 (by omega) (by omega))) (by omega)) ce_J4_init_da8c8 ml_X14_334 ii_J4_init_da8c8 (xx_dt dd_X14_chartNow 33 rfl) (by decide) rfl rfl (Nat.le_of_ble_eq_true rfl) rfl ?_
        rw [hIM_new]
        obtain ⟨kC, ekC⟩ : ∃ k, k = kA + 2 := ⟨_, rfl⟩
        obtain ⟨nC, enC⟩ : ∃ k, k = nA + 5 := ⟨_, rfl⟩
        refine xx_wid (k' := kC) (n' := nC) (by omega) (by omega) ?_
        have h6 : xx_tx (hIM H9 0 (fun _ => Value.int 0)) 6 9 0 (fun _ => .int 0) := tx_at h9t.1.2.1 (hIM_o (by omega) (by omega)) (hIM_o (by omega) (by omega))
        obtain ⟨c6, hc6⟩ := tx_c h6
        refine sw_ldcT (a := 6) O (xx_dt dd_X14_chartNow 34 rfl) (.tail _ (.head _)) hc6 (by omega) ?_
        refine sw_callVx (as := [.ref 6]) (st := [.ref 20100]) (st2 := [.ref 20104, .ref 20100]) O (sb_appendS hl hIM_r hIM_v (by omega) (by omega) (by omega) h6 (by omega)) ce_J4_append_15ec4 ml_X14_339 iv_J4_append_15ec4 cl_J4 rfl hIM_r (xx_dt dd_X14_chartNow 35 rfl) (by decide) rfl rfl (Nat.le_of_ble_eq_true rfl) rfl ?_
        rw [hIM_up]
        refine sw_iload O (xx_dt dd_X14_chartNow 36 rfl) rfl ?_
        rw [ex]
        obtain ⟨F4, h4, hF4⟩ := h9t.2
        refine sw_callVx (as := [.int (nI x)]) (st := [.ref 20100]) (st2 := [.ref 20104, .ref 20100]) O (sb_appendI hl (r := 20104) (v := 20105) (c := 0 + 0) (b := 0) (G := (apG (fun _ => Value.int 0) (fun _ => Value.int 0) 0 0)) hIM_r hIM_v (by omega) (by omega) (by omega) (by omega) hx ((hIM_o (by omega) (by omega)).trans h4) (hF4 x hx) (nar_dig hx)) ce_J4_append_bf812 ml_X14_345 iv_J4_append_bf812 cl_J4 rfl hIM_r (xx_dt dd_X14_chartNow 37 rfl) (by decide) rfl rfl (Nat.le_of_ble_eq_true rfl) rfl ?_
        rw [hIM_up]
        refine xx_wid (k' := kA + 2) (n' := nA + (0 + 0 + 1 + 4)) (by omega) (by omega) (sw_callVx (k := kA) (n := nA) (as := []) (st := [.ref 20100]) (st2 := [.ref 20106, .ref 20100]) O (sb_toString hl (r := 20104) (v := 20105) (t := 20106) (u := 20107) (c := 0 + 0 + 1) (b := 0) (G := (updV (apG (fun _ => Value.int 0) (fun _ => Value.int 0) 0 0) (0 + 0) (.int (48 + nI x)))) hIM_r hIM_v ((hIM_o (by omega) (by omega)).trans (h9f 20106 (by omega) (by omega))) ((hIM_o (by omega) (by omega)).trans (h9f 20107 (by omega) (by omega))) (by omega) (by omega) (by omega) (fun j hj => ⟨48 + nI x, by unfold updV; rw [if_pos (by omega)], fit_dig hx⟩) (by omega)) ce_J4_toString_0e30d ml_X14_348 iv_J4_toString_0e30d cl_J4 rfl hIM_r (xx_dt dd_X14_chartNow 38 rfl) (by decide) rfl rfl (Nat.le_of_ble_eq_true rfl) rfl ?_)
        obtain ⟨W, eW⟩ : ∃ W : Nat → Value, W = (fun j => if j < 0 + 0 + 1 then (updV (apG (fun _ => Value.int 0) (fun _ => Value.int 0) 0 0) (0 + 0) (.int (48 + nI x))) j else .int 0) := ⟨_, rfl⟩
        have hW0 : W 0 = .int (48 + nI x) := by rw [eW]; rfl
        rw [← eW]
        show SW Y _ _ (hJM (hIM H9 (0 + 0 + 1) (updV (apG (fun _ => Value.int 0) (fun _ => Value.int 0) 0 0) (0 + 0) (.int (48 + nI x)))) 1 W) _ _ _
        have hj : xx_tx (hJM (hIM H9 (0 + 0 + 1) (updV (apG (fun _ => Value.int 0) (fun _ => Value.int 0) 0 0) (0 + 0) (.int (48 + nI x)))) 1 W) 20106 20107 1 W := ⟨⟨_, hJM_t, rfl, rfl⟩, hJM_u, fun j hj => (by rw [show j = 0 by omega]; exact ⟨_, hW0, fit_dig hx⟩), by omega⟩
        have hr9 : hJM (hIM H9 (0 + 0 + 1) (updV (apG (fun _ => Value.int 0) (fun _ => Value.int 0) 0 0) (0 + 0) (.int (48 + nI x)))) 1 W 20100 = some (1, 4, xx_sb 20101 (2 * s - 1 + 1) 0) := (hJM_o (by omega) (by omega)).trans ((hIM_o (by omega) (by omega)).trans (by rw [eH9]; exact hBM_r))
        have hv9 : hJM (hIM H9 (0 + 0 + 1) (updV (apG (fun _ => Value.int 0) (fun _ => Value.int 0) 0 0) (0 + 0) (.int (48 + nI x)))) 1 W 20101 = some (102, 16, (apG (fun _ => .int 44) (gD (fun s => f_MholderNow σ rg (nI s) B tn) (fun _ => Value.int 0) s) (2 * s - 1) 1)) := (hJM_o (by omega) (by omega)).trans ((hIM_o (by omega) (by omega)).trans (by rw [eH9]; exact hBM_v))
        refine sw_callVx (as := [.ref 20106]) (st := []) (st2 := [.ref 20100]) O (sb_appendS hl hr9 hv9 (by omega) (by omega) (by omega) hj (by omega)) ce_J4_append_15ec4 ml_X14_339 iv_J4_append_15ec4 cl_J4 rfl hr9 (xx_dt dd_X14_chartNow 39 rfl) (by decide) rfl rfl (Nat.le_of_ble_eq_true rfl) rfl ?_
        refine sw_pop O (xx_dt dd_X14_chartNow 40 rfl) rfl ?_
        subst eH9
        rw [cs_1 hs (hW0.trans (congrArg Value.int hsg)), show 2 * s - 1 + 1 + 1 = 2 * (s + 1) - 1 by omega]
        refine sw_drop (h2 := setM z σ (hBM h (2 * (s + 1) - 1) 0 (gD (fun s => f_MholderNow σ rg (nI s) B tn) (fun _ => Value.int 0) (s + 1)))) (sub_IJ (fun q a1 a2 => hf4 q (by omega) a2)) (cls_BM hcl (fun j _ => gD_I j)) (by rw [hh]; exact fun r hr9 => chart_dom hr9) (by intro v9 hv9; simp only [List.mem_cons, List.not_mem_nil, or_false] at hv9; rcases hv9 with rfl | rfl | rfl | rfl | rfl <;> first | exact in_mod | exact in_BM | trivial) (by intro v9 hv9; cases hv9) ?_
        refine sw_iinc (y := nI (s + 1)) (ls2 := [.ref 5000, .int (nI rg), .ref 20100, .int (nI (s + 1)), .int (nI x)]) O (xx_dt dd_X14_chartNow 41 rfl) rfl (nI_1 _) (by decide) rfl ?_
        refine sw_goto (tgt := 10) O (xx_dt dd_X14_chartNow 42 rfl) (by decide) ?_
        refine sw_dum (ls2 := [.ref 5000, .int (nI rg), .ref 20100, .int (nI (s + 1)), xx_d]) ⟨.inr rfl, .inr rfl, .inr rfl, .inr rfl, .inl rfl, trivial⟩ ?_
        refine xx_wid (k' := 2 + 4 * (sp rg - (s + 1))) (n' := 13 + 25 * (sp rg - (s + 1))) (by omega) (by omega) ?_
        exact kk
      · have hsg : (45 : Int32) = sgn (f_MholderNow σ rg (nI s) B tn) := by unfold sgn; rw [if_pos q2]
        obtain ⟨c7, hc7⟩ := tx_c ((htx (c := 2 * s - 1 + 1) (b := 0) (G := (apG (fun _ => .int 44) (gD (fun s => f_MholderNow σ rg (nI s) B tn) (fun _ => Value.int 0) s) (2 * s - 1) 1))).1.2.2) 
        refine sw_ldcT (a := 7) O (xx_dt dd_X14_chartNow 29 rfl) (.tail _ (.tail _ (.head _))) hc7 (by omega) ?_
        refine sw_goto (tgt := 86) O (xx_dt dd_X14_chartNow 30 rfl) (by decide) ?_
        refine sw_callVx (as := [.ref 7]) (st := []) (st2 := [.ref 20100]) O (cs_app hl (c := 2 * s - 1 + 1) (b := 0) (G := (apG (fun _ => .int 44) (gD (fun s => f_MholderNow σ rg (nI s) B tn) (fun _ => Value.int 0) s) (2 * s - 1) 1)) (htx).1.2.2 (by omega)) ce_J4_append_15ec4 ml_X14_339 iv_J4_append_15ec4 cl_J4 rfl hBM_r (xx_dt dd_X14_chartNow 39 rfl) (by decide) rfl rfl (Nat.le_of_ble_eq_true rfl) rfl ?_
        rw [cs_1 hs (congrArg Value.int hsg), show 2 * s - 1 + 1 + 1 = 2 * (s + 1) - 1 by omega]
        refine sw_pop O (xx_dt dd_X14_chartNow 40 rfl) rfl ?_
        refine sw_iinc (y := nI (s + 1)) (ls2 := [.ref 5000, .int (nI rg), .ref 20100, .int (nI (s + 1)), .int (f_MholderNow σ rg (nI s) B tn)]) O (xx_dt dd_X14_chartNow 41 rfl) rfl (nI_1 _) (by decide) rfl ?_
        refine sw_goto (tgt := 10) O (xx_dt dd_X14_chartNow 42 rfl) (by decide) ?_
        refine sw_dum (ls2 := [.ref 5000, .int (nI rg), .ref 20100, .int (nI (s + 1)), xx_d]) ⟨.inr rfl, .inr rfl, .inr rfl, .inr rfl, .inl rfl, trivial⟩ ?_
        refine xx_wid (k' := 2 + 4 * (sp rg - (s + 1))) (n' := 13 + 25 * (sp rg - (s + 1))) (by omega) (by omega) ?_
        exact kk
  · have hx : ∀ f i s, s = i → xit (fun _ s => s + 1) f i s = i + f := by
      intro f
      induction f with
      | zero => intro i s e; exact e
      | succ f ih => intro i s e; show xit _ f (i + 1) (s + 1) = _; rw [ih (i + 1) (s + 1) (by rw [e])]; omega
    rw [hx (sp rg) 0 0 rfl, Nat.zero_add]
    refine xx_wid (k' := 2) (n' := 13) (by show _ ≤ 2 + 4 * (sp rg - sp rg); omega) (by show _ ≤ 13 + 25 * (sp rg - sp rg); omega) ?_
    have hbs : xx_bs (hBM h (2 * (sp rg) - 1) 0 (gD (fun s => f_MholderNow σ rg (nI s) B tn) (fun _ => Value.int 0) (sp rg))) := hbs
    show SW Y _ _ (setM z σ (hBM h (2 * (sp rg) - 1) 0 (gD (fun s => f_MholderNow σ rg (nI s) B tn) (fun _ => Value.int 0) (sp rg)))) 10 [.ref 5000, .int (nI rg), .ref 20100, .int (nI ((sp rg))), xx_d] []
    refine sw_iload_n O (xx_dt dd_X14_chartNow 6 rfl) rfl ?_
    refine sw_aload_n O (xx_dt dd_X14_chartNow 7 rfl) rfl ?_
    refine sw_get (v := .ref 5001) O (xx_dt dd_X14_chartNow 8 rfl) cl_X14 fl_X14_23 (lm_mod (σ := σ)) (by decide) rfl ?_
    refine sw_iload_n O (xx_dt dd_X14_chartNow 9 rfl) rfl ?_
    refine sw_callVL (ci := 6) (as := [.int (nI rg)]) (st := [.int (nI ((sp rg)))]) (st2 := [.ref (5010 + rg), .int (nI ((sp rg)))]) O (ct_get (z := z) (σ := σ) (h := (hBM h (2 * (sp rg) - 1) 0 (gD (fun s => f_MholderNow σ rg (nI s) B tn) (fun _ => Value.int 0) (sp rg)))) hl hbs (lm_5001 (z := z) (σ := σ) (h := (hBM h (2 * (sp rg) - 1) 0 (gD (fun s => f_MholderNow σ rg (nI s) B tn) (fun _ => Value.int 0) (sp rg)))) (R := R) hR (by omega)) (by omega) (i := rg) (x := 5010 + rg) (by omega) (by omega) rfl) ce_Jx4a65c_get_915e3 ml_X14_61 iv_Jx4a65c_get_915e3 cl_Jx4a65c rfl (lm_5001 (z := z) (σ := σ) (h := (hBM h (2 * (sp rg) - 1) 0 (gD (fun s => f_MholderNow σ rg (nI s) B tn) (fun _ => Value.int 0) (sp rg)))) (R := R) hR (by omega)) (xx_dt dd_X14_chartNow 10 rfl) (by decide) rfl rfl (Nat.le_of_ble_eq_true rfl) rfl ?_
    refine sw_castO O (xx_dt dd_X14_chartNow 11 rfl) cl_X12 (lm_reg (σ := σ) (R := R) hR (by omega) (j := rg) (by omega)) cw_X14_65 ?_
    have hz22 := (hsp rg (by omega)).2
    refine sw_get (v := .int (nI (sp rg))) O (xx_dt dd_X14_chartNow 12 rfl) cl_X12 fl_X14_81 (lm_reg (σ := σ) (R := R) hR (by omega) (j := rg) (by omega)) (by decide) (congrArg Value.int (hsp rg (by omega)).1) ?_
    refine sw_icmp_ge (tgt := 96) O (xx_dt dd_X14_chartNow 13 rfl) (by decide) (fun _ => ?_) (fun q => absurd (Int32.le_refl _) q)
    refine sw_aload_n O (xx_dt dd_X14_chartNow 43 rfl) rfl ?_
    have hGI := gD_int (f := (fun s => f_MholderNow σ rg (nI s) B tn)) (G := (fun _ => Value.int 0)) (s := sp rg) (fun k hk => (hho k hk).imp id (fun e => ⟨_, by have := e.2; omega, e.1⟩))
    refine xx_wid (k' := 0 + 2) (n' := 0 + (2 * sp rg - 1 + 4)) (by omega) (by omega) (sw_callVx (k := 0) (n := 0) (as := []) (st := []) (st2 := [.ref 20102]) O (sb_toString hl (r := 20100) (v := 20101) (t := 20102) (u := 20103) (c := 2 * sp rg - 1) (b := 0) (G := (gD (fun s => f_MholderNow σ rg (nI s) B tn) (fun _ => Value.int 0) (sp rg))) hBM_r hBM_v ((hBM_o (by omega) (by omega)).trans ((setM_out (by omega)).trans (hf4 20102 (by omega) (by omega)))) ((hBM_o (by omega) (by omega)).trans ((setM_out (by omega)).trans (hf4 20103 (by omega) (by omega)))) (by omega) (by omega) (by omega) hGI (by omega)) ce_J4_toString_0e30d ml_X14_348 iv_J4_toString_0e30d cl_J4 rfl hBM_r (xx_dt dd_X14_chartNow 44 rfl) (by decide) rfl rfl (Nat.le_of_ble_eq_true rfl) rfl ?_)
    rw [hTM_e]
    exact sw_aretD (h' := setM z σ (hTM h (2 * sp rg - 1) (gD (fun s => f_MholderNow σ rg (nI s) B tn) (fun _ => Value.int 0) (sp rg)))) O (xx_dt dd_X14_chartNow 45 rfl) rfl (.inl ⟨_, rfl⟩) (hTM_sub hf4) (hTM_cls hcl (fun j hj => (hGI j hj).imp fun _ e => e.1)) (by rw [hh]; exact hTM_dom hf4) (by rw [← hTM_e, xx_up_ne (by omega), xx_up_eq]; rfl) (by rw [hQ]; exact ⟨rfl, rfl⟩)
end
section
/-! ===== the reference: chart; digest, first part ===== -/
theorem ct_X14_chart {l : Launch} {h : XH} (hl : l.stackTraces = false) {z : Int64} {σ : XS9} (hbs : xx_bs h) (htl : xx_tl h) (hf4 : ∀ q, 20100 ≤ q → q < 20108 → h q = none) {R : Nat} (hR : σ 5001 900 = nI R) (hR5 : R ≤ 5) {B : Nat} (hB : σ 5002 900 = nI B) (hB6 : B ≤ 6) {pk : Nat → Nat} (hpk : ∀ j, j < B → σ (5030 + j) 900 = nI (2 * pk j) ∧ pk j ≤ 6) (hkp : σ 5000 1 = 3 → ∀ j, j < B → σ 5005 j = -1 ∨ ∃ n, n < pk j ∧ σ 5005 j = nI n) {tn : Nat → Nat} (htn : ∀ r, r < 5 → σ 5007 r = nI (tn r) ∧ tn r < 6) {sp : Nat → Nat} (hsp : ∀ r, r < R → σ (5010 + r) 0 = nI (sp r) ∧ sp r ≤ 5) {x : Int32} (hho : ∀ i s, i < R → s < sp i → f_MholderNow (u2 σ 5000 0 0) i (nI s) B tn = -1 ∨ n_lt (f_MholderNow (u2 σ 5000 0 0) i (nI s) B tn) 6) : XEx l m_X14_chart 9 24 158 [.ref 5000, .int x] (setM z σ h) (some (.ref (if n_lt x R then 20102 else 6))) (if n_lt x R then setM z (u2 σ 5000 0 0) (hTM h (2 * sp (cn x) - 1) (gD (fun s => f_MholderNow (u2 σ 5000 0 0) (cn x) (nI s) B tn) (fun _ => Value.int 0) (sp (cn x)))) else setM z (u2 σ 5000 0 1) h) := by
  refine XMet.of hl rfl rfl (Nat.le_of_ble_eq_true rfl) (fun Y O hh hQ => ?_)
  show SW Y 24 158 (setM z σ h) 0 [.ref 5000, .int x] []
  refine sw_aload_n O (xx_dt dd_X14_chart 0 rfl) rfl ?_
  refine sw_aload_n O (xx_dt dd_X14_chart 1 rfl) rfl ?_
  refine sw_iload_n O (xx_dt dd_X14_chart 2 rfl) rfl ?_
  refine sw_callVx (as := [.int x]) (st := [.ref 5000]) (st2 := [.int (bZ (n_lt x R)), .ref 5000]) O (ct_X14_isRegion hl (z := z) (σ := σ) hbs (R := R) hR (by omega) (x := x)) ce_X14_isRegion ml_X14_91 iv_X14_isRegion cl_X14 rfl (lm_mod (σ := σ)) (xx_dt dd_X14_chart 3 rfl) (by decide) rfl rfl (Nat.le_of_ble_eq_true rfl) rfl ?_
  refine sw_if_eqB (tgt := 13) O (xx_dt dd_X14_chart 4 rfl) (by decide) (fun q => ?_) (fun q => ?_)
  · refine sw_iconst (x := 1) O (xx_dt dd_X14_chart 7 rfl) (by decide) ?_
    refine sw_put (h2 := setM z (u2 σ 5000 0 1) h) O (xx_dt dd_X14_chart 8 rfl) cl_X14 fl_X14_46 (lm_mod (σ := σ)) (by decide) (by omega) rfl (fun _ => ⟨rfl, rfl⟩) (pm_mod (σ := σ) (by omega)) ?_
    refine sw_aload_n O (xx_dt dd_X14_chart 9 rfl) rfl ?_
    refine sw_get (v := .int 1) O (xx_dt dd_X14_chart 10 rfl) cl_X14 fl_X14_46 (lm_mod (σ := u2 σ 5000 0 1)) (by decide) rfl ?_
    refine sw_if_ne (tgt := 32) O (xx_dt dd_X14_chart 11 rfl) (by decide) (fun _ => ?_) (fun q9 => absurd q9 (by decide))
    obtain ⟨c6, hc6⟩ := tx_c htl.1.2.1
    refine sw_ldcT (a := 6) O (xx_dt dd_X14_chart 16 rfl) (.tail _ (.head _)) ((setM_out (by omega)).trans hc6) (by omega) ?_
    exact sw_aret O (xx_dt dd_X14_chart 17 rfl) rfl (.inl ⟨_, rfl⟩) (by rw [hQ]; exact ⟨by rw [if_neg q], by rw [if_neg q]⟩)
  · have hc9 := q
    refine sw_lsE (ls2 := [.ref 5000, .int (nI ((cn x)))]) (by rw [← hc9.1]) ?_
    have hd9 := hc9.2
    refine sw_iconst (x := 0) O (xx_dt dd_X14_chart 5 rfl) (by decide) ?_
    refine sw_goto (tgt := 14) O (xx_dt dd_X14_chart 6 rfl) (by decide) ?_
    refine sw_put (h2 := setM z (u2 σ 5000 0 0) h) O (xx_dt dd_X14_chart 8 rfl) cl_X14 fl_X14_46 (lm_mod (σ := σ)) (by decide) (by omega) rfl (fun _ => ⟨rfl, rfl⟩) (pm_mod (σ := σ) (by omega)) ?_
    refine sw_aload_n O (xx_dt dd_X14_chart 9 rfl) rfl ?_
    refine sw_get (v := .int 0) O (xx_dt dd_X14_chart 10 rfl) cl_X14 fl_X14_46 (lm_mod (σ := u2 σ 5000 0 0)) (by decide) rfl ?_
    refine sw_if_ne (tgt := 32) O (xx_dt dd_X14_chart 11 rfl) (by decide) (fun q9 => absurd rfl q9) (fun _ => ?_)
    refine sw_aload_n O (xx_dt dd_X14_chart 12 rfl) rfl ?_
    refine sw_iload_n O (xx_dt dd_X14_chart 13 rfl) rfl ?_
    refine sw_callVx (k := 0) (n := 0) (k' := 24) (n' := 158) (as := [.int (nI (cn x))]) (st := []) (st2 := [.ref 20102]) O (ct_X14_chartNow hl (z := z) (σ := u2 σ 5000 0 0) hbs htl hf4 (R := R) hR (by omega) (B := B) hB (by omega) (pk := pk) (fun j9 hj9 => by rw [show (u2 σ 5000 0 0) (5030 + j9) 900 = σ (5030 + j9) 900 from (congrFun (u2_ne (by omega)) 900)]; exact hpk j9 hj9) hkp (tn := tn) htn (sp := sp) (fun j9 hj9 => by rw [show (u2 σ 5000 0 0) (5010 + j9) 0 = σ (5010 + j9) 0 from (congrFun (u2_ne (by omega)) 0)]; exact hsp j9 hj9) (rg := cn x) (by omega) (fun s9 h9 => hho (cn x) s9 (by omega) h9)) ce_X14_chartNow ml_X14_352 iv_X14_chartNow cl_X14 rfl (lm_mod (σ := u2 σ 5000 0 0)) (xx_dt dd_X14_chart 14 rfl) (by decide) rfl rfl (Nat.le_of_ble_eq_true rfl) rfl ?_
    refine sw_goto (tgt := 35) O (xx_dt dd_X14_chart 15 rfl) (by decide) ?_
    exact sw_aret O (xx_dt dd_X14_chart 17 rfl) rfl (.inl ⟨_, rfl⟩) (by rw [hQ]; exact ⟨by rw [if_pos q], by rw [if_pos q]⟩)
theorem hTM_tx {z : Int64} {σ : XS9} {h : XH} {s : Nat} {f : Nat → Int32} {G : Nat → Value} (hf : ∀ k, k < s → f k = -1 ∨ ∃ x, x < 10 ∧ f k = nI x) (hs : s ≤ 5) : xx_tx (setM z σ (hTM h (2 * s - 1) (gD f G s))) 20102 20103 (2 * s - 1) (fun j => if j < 2 * s - 1 then gD f G s j else .int 0) := by
  rw [← hTM_e]
  refine ⟨⟨_, (xx_up_ne (by omega)).trans (xx_up_eq _ _ _), rfl, rfl⟩, xx_up_eq _ _ _, fun j hj => ?_, by omega⟩
  show ∃ x : Int32, (if j < 2 * s - 1 then gD f G s j else Value.int 0) = .int x ∧ _
  rw [if_pos hj]
  exact gD_int hf j hj
theorem hTM_drop {z : Int64} {σ : XS9} {h : XH} {c : Nat} {G : Nat → Value} (h4 : ∀ q, 20100 ≤ q → q < 20108 → h q = none) : xx_sub (setM z σ h) (setM z σ (hTM h c G)) := by
  intro q d hq
  rw [← hTM_e]
  have n4 : 20100 ≤ q → q < 20108 → False := fun a1 a2 => by
    rw [setM_out (by omega), h4 q a1 a2] at hq
    cases hq
  rw [xx_up_ne (fun e => n4 (by omega) (by omega)), xx_up_ne (fun e => n4 (by omega) (by omega))]
  exact hq
theorem in_cho {z : Int64} {σ : XS9} {h : XH} (hc : σ 9000 20 = nI 1) : xx_in (setM z σ h) (.ref 9000) := by
  show (setM z σ h 9000).isSome = true
  rw [lm_9000 (fl1 hc)]
  rfl
theorem xx_cls_z {z y : Int64} {σ : XS9} {h : XH} (hcl : xx_cls (setM z σ h)) : xx_cls (setM y σ h) := by
  intro q d j hq hj
  have dom : ∀ r, (setM z σ h r).isSome = true → (setM y σ h r).isSome = true := fun r hr => by
    by_cases a : r = 5000
    · rw [a, lm_mod]; rfl
    · unfold setM at hr ⊢
      rw [lyQ_z (z := y) (y := z) a]
      exact hr
  by_cases a : q = 5000
  · subst a
    rw [lm_mod] at hq
    cases hq
    have t := hcl 5000 _ j (lm_mod (z := z) (σ := σ) (h := h)) hj
    revert t
    match j, hj with
    | 0, _ | 1, _ | 2, _ | 3, _ | 4, _ | 5, _ | 6, _ | 7, _ | 16, _ => exact fun _ => trivial
    | 8, _ | 9, _ | 10, _ | 11, _ | 13, _ | 14, _ | 15, _ => exact fun t => dom _ t
    | 12, _ =>
      show xx_in (setM z σ h) (if σ 7000 25 = 0 then .null else .ref 7000) → xx_in (setM y σ h) (if σ 7000 25 = 0 then .null else .ref 7000)
      by_cases e : σ 7000 25 = 0
      · rw [if_pos e]; exact fun _ => trivial
      · rw [if_neg e]; exact fun t => dom _ t
    | k + 17, h9 => exact absurd (show k + 17 < 17 from h9) (by omega)
  · have e : setM z σ h q = setM y σ h q := by unfold setM; rw [lyQ_z (z := y) (y := z) a]
    have t := hcl q d j (e.trans hq) hj
    revert t
    cases d.2.2 j with
    | ref r => exact fun t => dom r t
    | _ => exact fun _ => trivial
def x_dig_23 (σ : XS9) (R B K C : Nat) (pk : Nat → Nat) (g : Nat) (tn sp : Nat → Nat) (y0 : Int64) : Int64 := xit (fun i23 y23 => (y23 * 31) + (Int32.toInt64 (f_MsaleNow σ R B K C pk g tn sp i23))) 17 0 y0
def x_dig_61 (σ : XS9) (R B K C : Nat) (pk : Nat → Nat) (g : Nat) (tn sp : Nat → Nat) (i48 : Nat) (y0 : Int64) : Int64 := xit (fun i61 y61 => (y61 * 31) + (Int32.toInt64 (f_MofRegionNow σ i48 R B C g i61))) 9 0 y0
def x_dig_99 (σ : XS9) (R B K C : Nat) (pk : Nat → Nat) (g : Nat) (tn sp : Nat → Nat) (i48 : Nat) (y0 : Int64) : Int64 := xit (fun i99 y99 => (y99 * 31) + (Int32.toInt64 (f_MholderNow σ i48 (nI i99) B tn))) (sp i48) 0 y0
def x_dig_48 (σ : XS9) (R B K C : Nat) (pk : Nat → Nat) (g : Nat) (tn sp : Nat → Nat) (y0 : Int64) : Int64 := xit (fun i48 y48 => x_dig_99 σ R B K C pk g tn sp i48 ((x_dig_61 σ R B K C pk g tn sp i48 y48 * 31) + (Int32.toInt64 (nI (2 * sp i48 - 1))))) R 0 y0
def x_digA (σ : XS9) (R B K C : Nat) (pk : Nat → Nat) (g : Nat) (tn sp : Nat → Nat) (y0 : Int64) : Int64 := x_dig_48 σ R B K C pk g tn sp (x_dig_23 σ R B K C pk g tn sp y0)
theorem dgA {Y : XY} {l : Launch} {h : XH} (O : xx_O Y m_X14_digest l 22) (hl : l.stackTraces = false) {z : Int64} {σ : XS9} (hbs : xx_bs h) (htl : xx_tl h) (hf4 : ∀ q, 20100 ≤ q → q < 20108 → h q = none) {R : Nat} (hR : σ 5001 900 = nI R) (hR5 : R ≤ 5) {B : Nat} (hB : σ 5002 900 = nI B) (hB6 : B ≤ 6) {K : Nat} (hK : σ 5003 900 = nI K) (hK60 : K ≤ 60) {C : Nat} (hS : σ 5004 900 = nI (2 * C)) (hC10 : C ≤ 10) {pk : Nat → Nat} (hpk : ∀ j, j < B → σ (5030 + j) 900 = nI (2 * pk j) ∧ pk j ≤ 6) (hfl : σ 7000 25 = nI 0 ∨ (σ 7000 25 = nI 1 ∧ σ 7000 20 = nI 1)) {g : Nat} (hg : σ 7000 23 = nI g) (hg1 : g < 200) {w : Nat} (hw : σ 7000 24 = nI w) (hw1 : w < 200) (hkp : σ 5000 1 = 3 → ∀ j, j < B → σ 5005 j = -1 ∨ ∃ n, n < pk j ∧ σ 5005 j = nI n) {tn : Nat → Nat} (htn : ∀ r, r < 5 → σ 5007 r = nI (tn r) ∧ tn r < 6) {sp : Nat → Nat} (hsp : ∀ r, r < R → σ (5010 + r) 0 = nI (sp r) ∧ sp r ≤ 5) (hc : σ 9000 20 = nI 1) (hho : ∀ i s, i < R → s < sp i → f_MholderNow σ i (nI s) B tn = -1 ∨ n_lt (f_MholderNow σ i (nI s) B tn) 6) (hcl : ∀ y, xx_cls (setM y σ h)) (hdom : ∀ y r, (xy_h Y r).isSome = true → (setM y σ h r).isSome = true) {k n : Nat} (kk : SW Y k n (setM (x_digA σ R B K C pk g tn sp z) σ h) 140 [.ref 5000, .ref 9000, xx_d, xx_d, xx_d, xx_d] []) : SW Y (k + 120) (n + 790) (setM z σ h) 21 [.ref 5000, .ref 9000, xx_d, xx_d, xx_d, xx_d] [] := by
  obtain ⟨kT, ekT⟩ : ∃ q, q = k + 120 := ⟨_, rfl⟩
  obtain ⟨nT, enT⟩ : ∃ q, q = n + 790 := ⟨_, rfl⟩
  refine xx_wid (k' := kT) (n' := nT) (by omega) (by omega) ?_
  refine sw_iconst (x := 0) O (xx_dt dd_X14_digest 11 rfl) (by decide) ?_
  refine sw_istore_n (ls2 := [.ref 5000, .ref 9000, .int 0, xx_d, xx_d, xx_d]) O (xx_dt dd_X14_digest 12 rfl) (by decide) rfl ?_
  refine sw_for (S := Int64) (fun i23 y23 => (y23 * 31) + (Int32.toInt64 (f_MsaleNow σ R B K C pk g tn sp i23))) (fun _ _ => True) (hp := fun y => setM y σ h) (hd := 23) (lc := fun i23 _ => [.ref 5000, .ref 9000, .int (nI i23), xx_d, xx_d, xx_d]) (N := 17) (fun i23 y23 hi23 _ => ⟨trivial, fun kk23 => ?_⟩) 17 0 z (by omega) trivial (fun _ => ?_)
  · refine sw_iload_n O (xx_dt dd_X14_digest 13 rfl) rfl ?_
    refine sw_bipush (x := 17) O (xx_dt dd_X14_digest 14 rfl) (by decide) ?_
    refine sw_icmp_ge (tgt := 46) O (xx_dt dd_X14_digest 15 rfl) (by decide) (fun q => absurd q (nI_ge (b := 17) hi23 (by omega))) (fun _ => ?_)
    refine sw_aload_n O (xx_dt dd_X14_digest 16 rfl) rfl ?_
    refine sw_aload_n O (xx_dt dd_X14_digest 17 rfl) rfl ?_
    refine sw_iload_n O (xx_dt dd_X14_digest 18 rfl) rfl ?_
    refine sw_aload_n O (xx_dt dd_X14_digest 19 rfl) rfl ?_
    refine sw_callVx (as := [.int (nI i23), .ref 9000]) (st := [.ref 5000]) (st2 := [.int (f_MsaleNow σ R B K C pk g tn sp i23), .ref 5000]) O (ct_X14_saleNow hl (z := y23) (σ := σ) hbs (R := R) hR (by omega) (B := B) hB (by omega) (K := K) hK (by omega) (C := C) hS (by omega) (pk := pk) hpk hfl (g := g) hg (by omega) (w := w) hw (by omega) hkp (tn := tn) htn (sp := sp) hsp hc (v := i23) (by omega)) ce_X14_saleNow ml_X14_374 iv_X14_saleNow cl_X14 rfl (lm_mod (σ := σ)) (xx_dt dd_X14_digest 20 rfl) (by decide) rfl rfl (Nat.le_of_ble_eq_true rfl) rfl ?_
    refine sw_i2l O (xx_dt dd_X14_digest 21 rfl) ?_
    refine sw_callVx (as := [.long (Int32.toInt64 (f_MsaleNow σ R B K C pk g tn sp i23))]) (st := []) (st2 := []) O (ct_X14_add hl (z := y23) (σ := σ) (v := Int32.toInt64 (f_MsaleNow σ R B K C pk g tn sp i23))) ce_X14_add ml_X14_415 iv_X14_add cl_X14 rfl (lm_mod (σ := σ)) (xx_dt dd_X14_digest 22 rfl) (by decide) rfl rfl (Nat.le_of_ble_eq_true rfl) rfl ?_
    refine sw_iinc (y := nI (i23 + 1)) (ls2 := [.ref 5000, .ref 9000, .int (nI (i23 + 1)), xx_d, xx_d, xx_d]) O (xx_dt dd_X14_digest 23 rfl) rfl (nI_1 _) (by decide) rfl ?_
    refine sw_goto (tgt := 23) O (xx_dt dd_X14_digest 24 rfl) (by decide) ?_
    exact kk23
  · show SW Y _ _ (setM (x_dig_23 σ R B K C pk g tn sp z) σ h) 23 [.ref 5000, .ref 9000, .int (nI 17), xx_d, xx_d, xx_d] []
    refine sw_iload_n O (xx_dt dd_X14_digest 13 rfl) rfl ?_
    refine sw_bipush (x := 17) O (xx_dt dd_X14_digest 14 rfl) (by decide) ?_
    refine sw_icmp_ge (tgt := 46) O (xx_dt dd_X14_digest 15 rfl) (by decide) (fun _ => ?_) (fun q => absurd (Int32.le_refl _) q)
    refine sw_iconst (x := 0) O (xx_dt dd_X14_digest 25 rfl) (by decide) ?_
    refine sw_istore_n (ls2 := [.ref 5000, .ref 9000, .int 0, xx_d, xx_d, xx_d]) O (xx_dt dd_X14_digest 26 rfl) (by decide) rfl ?_
    refine xx_wid (k' := k + 24 * (R - 0)) (n' := n + 158 * (R - 0)) (by omega) (by omega) ?_
    refine sw_forV (S := Int64) (kf := fun i9 => k + 24 * (R - i9)) (nf := fun i9 => n + 158 * (R - i9)) (fun i48 y48 => x_dig_99 σ R B K C pk g tn sp i48 ((x_dig_61 σ R B K C pk g tn sp i48 y48 * 31) + (Int32.toInt64 (nI (2 * sp i48 - 1))))) (fun _ _ => True) (hp := fun y => setM y σ h) (hd := 48) (lc := fun i48 _ => [.ref 5000, .ref 9000, .int (nI i48), xx_d, xx_d, xx_d]) (N := R) (fun i48 y48 hi48 _ => ⟨trivial, fun kk48 => ?_⟩) R 0 (x_dig_23 σ R B K C pk g tn sp z) (by omega) trivial (fun _ => ?_)
    · obtain ⟨kA, ekA⟩ : ∃ q, q = k + 24 * (R - (i48 + 1)) := ⟨_, rfl⟩
      obtain ⟨nA, enA⟩ : ∃ q, q = n + 158 * (R - (i48 + 1)) := ⟨_, rfl⟩
      obtain ⟨kB, ekB⟩ : ∃ q, q = kA + 24 := ⟨_, rfl⟩
      obtain ⟨nB, enB⟩ : ∃ q, q = nA + 158 := ⟨_, rfl⟩
      refine xx_wid (k' := kB) (n' := nB) (by show _ ≤ k + 24 * (R - i48); omega) (by show _ ≤ n + 158 * (R - i48); omega) ?_
      refine sw_iload_n O (xx_dt dd_X14_digest 27 rfl) rfl ?_
      refine sw_aload_n O (xx_dt dd_X14_digest 28 rfl) rfl ?_
      refine sw_get (v := .ref 5001) O (xx_dt dd_X14_digest 29 rfl) cl_X14 fl_X14_23 (lm_mod (σ := σ)) (by decide) rfl ?_
      refine sw_callVL (ci := 6) (as := []) (st := [.int (nI i48)]) (st2 := [.int (nI R), .int (nI i48)]) O (ct_AL_size hl (lm_5001 (σ := σ) (R := R) hR (by omega))) ce_Jx4a65c_size_8abf5 ml_X14_57 iv_Jx4a65c_size_8abf5 cl_Jx4a65c rfl (lm_5001 (σ := σ) (R := R) hR (by omega)) (xx_dt dd_X14_digest 30 rfl) (by decide) rfl rfl (Nat.le_of_ble_eq_true rfl) rfl ?_
      refine sw_icmp_ge (tgt := 140) O (xx_dt dd_X14_digest 31 rfl) (by decide) (fun q => absurd q (nI_ge (b := R) hi48 (by omega))) (fun _ => ?_)
      refine sw_iconst (x := 0) O (xx_dt dd_X14_digest 32 rfl) (by decide) ?_
      refine sw_istore_n (ls2 := [.ref 5000, .ref 9000, .int (nI i48), .int 0, xx_d, xx_d]) O (xx_dt dd_X14_digest 33 rfl) (by decide) rfl ?_
      refine sw_for (S := Int64) (fun i61 y61 => (y61 * 31) + (Int32.toInt64 (f_MofRegionNow σ i48 R B C g i61))) (fun _ _ => True) (hp := fun y => setM y σ h) (hd := 61) (lc := fun i61 _ => [.ref 5000, .ref 9000, .int (nI i48), .int (nI i61), xx_d, xx_d]) (N := 9) (fun i61 y61 hi61 _ => ⟨trivial, fun kk61 => ?_⟩) 9 0 y48 (by omega) trivial (fun _ => ?_)
      · refine sw_iload_n O (xx_dt dd_X14_digest 34 rfl) rfl ?_
        refine sw_bipush (x := 9) O (xx_dt dd_X14_digest 35 rfl) (by decide) ?_
        refine sw_icmp_ge (tgt := 84) O (xx_dt dd_X14_digest 36 rfl) (by decide) (fun q => absurd q (nI_ge (b := 9) hi61 (by omega))) (fun _ => ?_)
        refine sw_aload_n O (xx_dt dd_X14_digest 37 rfl) rfl ?_
        refine sw_aload_n O (xx_dt dd_X14_digest 38 rfl) rfl ?_
        refine sw_iload_n O (xx_dt dd_X14_digest 39 rfl) rfl ?_
        refine sw_iload_n O (xx_dt dd_X14_digest 40 rfl) rfl ?_
        refine sw_callVx (as := [.int (nI i48), .int (nI i61)]) (st := [.ref 5000]) (st2 := [.int (f_MofRegionNow σ i48 R B C g i61), .ref 5000]) O (ct_X14_ofRegionNow hl (z := y61) (σ := σ) hbs (R := R) hR (by omega) (B := B) hB (by omega) (C := C) hS (by omega) (r := i48) (by omega) hfl (g := g) hg (by omega) (w := w) hw (by omega) (v := i61) (by omega)) ce_X14_ofRegionNow ml_X14_299 iv_X14_ofRegionNow cl_X14 rfl (lm_mod (σ := σ)) (xx_dt dd_X14_digest 41 rfl) (by decide) rfl rfl (Nat.le_of_ble_eq_true rfl) rfl ?_
        refine sw_i2l O (xx_dt dd_X14_digest 42 rfl) ?_
        refine sw_callVx (as := [.long (Int32.toInt64 (f_MofRegionNow σ i48 R B C g i61))]) (st := []) (st2 := []) O (ct_X14_add hl (z := y61) (σ := σ) (v := Int32.toInt64 (f_MofRegionNow σ i48 R B C g i61))) ce_X14_add ml_X14_415 iv_X14_add cl_X14 rfl (lm_mod (σ := σ)) (xx_dt dd_X14_digest 43 rfl) (by decide) rfl rfl (Nat.le_of_ble_eq_true rfl) rfl ?_
        refine sw_iinc (y := nI (i61 + 1)) (ls2 := [.ref 5000, .ref 9000, .int (nI i48), .int (nI (i61 + 1)), xx_d, xx_d]) O (xx_dt dd_X14_digest 44 rfl) rfl (nI_1 _) (by decide) rfl ?_
        refine sw_goto (tgt := 61) O (xx_dt dd_X14_digest 45 rfl) (by decide) ?_
        exact kk61
      · show SW Y _ _ (setM (x_dig_61 σ R B K C pk g tn sp i48 y48) σ h) 61 [.ref 5000, .ref 9000, .int (nI i48), .int (nI 9), xx_d, xx_d] []
        refine sw_iload_n O (xx_dt dd_X14_digest 34 rfl) rfl ?_
        refine sw_bipush (x := 9) O (xx_dt dd_X14_digest 35 rfl) (by decide) ?_
        refine sw_icmp_ge (tgt := 84) O (xx_dt dd_X14_digest 36 rfl) (by decide) (fun _ => ?_) (fun q => absurd (Int32.le_refl _) q)
        refine sw_aload_n O (xx_dt dd_X14_digest 46 rfl) rfl ?_
        refine sw_aload_n O (xx_dt dd_X14_digest 47 rfl) rfl ?_
        refine sw_iload_n O (xx_dt dd_X14_digest 48 rfl) rfl ?_
        refine xx_wid (k' := kA + 24) (n' := nA + 158) (by omega) (by omega) ?_
        refine sw_callVx (k := kA) (n := nA) (k' := 24) (n' := 158) (as := [.int (nI i48)]) (st := [.ref 5000]) (st2 := [.ref 20102, .ref 5000]) O (ct_X14_chartNow hl (z := x_dig_61 σ R B K C pk g tn sp i48 y48) (σ := σ) hbs htl hf4 hR hR5 hB hB6 (pk := pk) hpk hkp (tn := tn) htn (sp := sp) hsp (rg := i48) (by omega) (fun s9 h9 => hho i48 s9 (by omega) h9)) ce_X14_chartNow ml_X14_352 iv_X14_chartNow cl_X14 rfl (lm_mod (σ := σ)) (xx_dt dd_X14_digest 49 rfl) (by decide) rfl rfl (Nat.le_of_ble_eq_true rfl) rfl ?_
        have hs5 := (hsp i48 (by omega)).2
        have htx := hTM_tx (z := x_dig_61 σ R B K C pk g tn sp i48 y48) (σ := σ) (h := h) (s := sp i48) (G := fun _ => Value.int 0) (fun k hk => (hho i48 k (by omega) hk).imp id (fun e => ⟨_, by have := e.2; omega, e.1⟩)) hs5
        refine sw_callVx (as := []) (st := [.ref 5000]) (st2 := [.int (nI (2 * sp i48 - 1)), .ref 5000]) O (tx_length hl htx) ce_J0_length_8abf5 ml_X14_418 iv_J0_length_8abf5 cl_J0 rfl (htx.1.choose_spec.1) (xx_dt dd_X14_digest 50 rfl) (by decide) rfl rfl (Nat.le_of_ble_eq_true rfl) rfl ?_
        refine sw_drop (h2 := setM (x_dig_61 σ R B K C pk g tn sp i48 y48) σ h) (hTM_drop hf4) (hcl _) (hdom _) (by intro v9 hv9; simp only [List.mem_cons, List.not_mem_nil, or_false] at hv9; rcases hv9 with rfl | rfl | rfl | rfl | rfl | rfl <;> first | exact in_mod | exact in_cho hc | trivial) (by intro v9 hv9; simp only [List.mem_cons, List.not_mem_nil, or_false] at hv9; rcases hv9 with rfl | rfl <;> first | exact in_mod | trivial) ?_
        refine sw_i2l O (xx_dt dd_X14_digest 51 rfl) ?_
        refine sw_callVx (as := [.long (Int32.toInt64 (nI (2 * sp i48 - 1)))]) (st := []) (st2 := []) O (ct_X14_add hl (z := x_dig_61 σ R B K C pk g tn sp i48 y48) (σ := σ) (v := Int32.toInt64 (nI (2 * sp i48 - 1)))) ce_X14_add ml_X14_415 iv_X14_add cl_X14 rfl (lm_mod (σ := σ)) (xx_dt dd_X14_digest 52 rfl) (by decide) rfl rfl (Nat.le_of_ble_eq_true rfl) rfl ?_
        refine sw_iconst (x := 0) O (xx_dt dd_X14_digest 53 rfl) (by decide) ?_
        refine sw_istore_n (ls2 := [.ref 5000, .ref 9000, .int (nI i48), .int 0, xx_d, xx_d]) O (xx_dt dd_X14_digest 54 rfl) (by decide) rfl ?_
        refine sw_for (S := Int64) (fun i99 y99 => (y99 * 31) + (Int32.toInt64 (f_MholderNow σ i48 (nI i99) B tn))) (fun _ _ => True) (hp := fun y => setM y σ h) (hd := 99) (lc := fun i99 _ => [.ref 5000, .ref 9000, .int (nI i48), .int (nI i99), xx_d, xx_d]) (N := (sp i48)) (fun i99 y99 hi99 _ => ⟨trivial, fun kk99 => ?_⟩) (sp i48) 0 ((x_dig_61 σ R B K C pk g tn sp i48 y48 * 31) + (Int32.toInt64 (nI (2 * sp i48 - 1)))) (by omega) trivial (fun _ => ?_)
        · refine sw_iload_n O (xx_dt dd_X14_digest 55 rfl) rfl ?_
          refine sw_aload_n O (xx_dt dd_X14_digest 56 rfl) rfl ?_
          refine sw_get (v := .ref 5001) O (xx_dt dd_X14_digest 57 rfl) cl_X14 fl_X14_23 (lm_mod (σ := σ)) (by decide) rfl ?_
          refine sw_iload_n O (xx_dt dd_X14_digest 58 rfl) rfl ?_
          refine sw_callVL (ci := 6) (as := [.int (nI i48)]) (st := [.int (nI i99)]) (st2 := [.ref (5010 + i48), .int (nI i99)]) O (ct_get hl hbs (lm_5001 (σ := σ) (R := R) hR (by omega)) (by omega) (i := i48) (x := 5010 + i48) (by omega) (by omega) rfl) ce_Jx4a65c_get_915e3 ml_X14_61 iv_Jx4a65c_get_915e3 cl_Jx4a65c rfl (lm_5001 (σ := σ) (R := R) hR (by omega)) (xx_dt dd_X14_digest 59 rfl) (by decide) rfl rfl (Nat.le_of_ble_eq_true rfl) rfl ?_
          refine sw_castO O (xx_dt dd_X14_digest 60 rfl) cl_X12 (lm_reg (σ := σ) (R := R) hR (by omega) (j := i48) (by omega)) cw_X14_65 ?_
          have hz111 := (hsp i48 (by omega)).2
          refine sw_get (v := .int (nI (sp i48))) O (xx_dt dd_X14_digest 61 rfl) cl_X12 fl_X14_81 (lm_reg (σ := σ) (R := R) hR (by omega) (j := i48) (by omega)) (by decide) (congrArg Value.int (hsp i48 (by omega)).1) ?_
          refine sw_icmp_ge (tgt := 134) O (xx_dt dd_X14_digest 62 rfl) (by decide) (fun q => absurd q (nI_ge (b := (sp i48)) hi99 (by omega))) (fun _ => ?_)
          refine sw_aload_n O (xx_dt dd_X14_digest 63 rfl) rfl ?_
          refine sw_aload_n O (xx_dt dd_X14_digest 64 rfl) rfl ?_
          refine sw_iload_n O (xx_dt dd_X14_digest 65 rfl) rfl ?_
          refine sw_iload_n O (xx_dt dd_X14_digest 66 rfl) rfl ?_
          refine sw_callVx (as := [.int (nI i48), .int (nI i99)]) (st := [.ref 5000]) (st2 := [.int (f_MholderNow σ i48 (nI i99) B tn), .ref 5000]) O (ct_X14_holderNow hl (z := y99) (σ := σ) hbs (R := R) hR (by omega) (B := B) hB (by omega) (pk := pk) hpk hkp (tn := tn) htn (r := i48) (y := nI i99) (by omega)) ce_X14_holderNow ml_X14_329 iv_X14_holderNow cl_X14 rfl (lm_mod (σ := σ)) (xx_dt dd_X14_digest 67 rfl) (by decide) rfl rfl (Nat.le_of_ble_eq_true rfl) rfl ?_
          refine sw_i2l O (xx_dt dd_X14_digest 68 rfl) ?_
          refine sw_callVx (as := [.long (Int32.toInt64 (f_MholderNow σ i48 (nI i99) B tn))]) (st := []) (st2 := []) O (ct_X14_add hl (z := y99) (σ := σ) (v := Int32.toInt64 (f_MholderNow σ i48 (nI i99) B tn))) ce_X14_add ml_X14_415 iv_X14_add cl_X14 rfl (lm_mod (σ := σ)) (xx_dt dd_X14_digest 69 rfl) (by decide) rfl rfl (Nat.le_of_ble_eq_true rfl) rfl ?_
          refine sw_iinc (y := nI (i99 + 1)) (ls2 := [.ref 5000, .ref 9000, .int (nI i48), .int (nI (i99 + 1)), xx_d, xx_d]) O (xx_dt dd_X14_digest 70 rfl) rfl (nI_1 _) (by decide) rfl ?_
          refine sw_goto (tgt := 99) O (xx_dt dd_X14_digest 71 rfl) (by decide) ?_
          exact kk99
        · show SW Y _ _ (setM (x_dig_99 σ R B K C pk g tn sp i48 ((x_dig_61 σ R B K C pk g tn sp i48 y48 * 31) + (Int32.toInt64 (nI (2 * sp i48 - 1))))) σ h) 99 [.ref 5000, .ref 9000, .int (nI i48), .int (nI ((sp i48))), xx_d, xx_d] []
          refine sw_iload_n O (xx_dt dd_X14_digest 55 rfl) rfl ?_
          refine sw_aload_n O (xx_dt dd_X14_digest 56 rfl) rfl ?_
          refine sw_get (v := .ref 5001) O (xx_dt dd_X14_digest 57 rfl) cl_X14 fl_X14_23 (lm_mod (σ := σ)) (by decide) rfl ?_
          refine sw_iload_n O (xx_dt dd_X14_digest 58 rfl) rfl ?_
          refine sw_callVL (ci := 6) (as := [.int (nI i48)]) (st := [.int (nI ((sp i48)))]) (st2 := [.ref (5010 + i48), .int (nI ((sp i48)))]) O (ct_get hl hbs (lm_5001 (σ := σ) (R := R) hR (by omega)) (by omega) (i := i48) (x := 5010 + i48) (by omega) (by omega) rfl) ce_Jx4a65c_get_915e3 ml_X14_61 iv_Jx4a65c_get_915e3 cl_Jx4a65c rfl (lm_5001 (σ := σ) (R := R) hR (by omega)) (xx_dt dd_X14_digest 59 rfl) (by decide) rfl rfl (Nat.le_of_ble_eq_true rfl) rfl ?_
          refine sw_castO O (xx_dt dd_X14_digest 60 rfl) cl_X12 (lm_reg (σ := σ) (R := R) hR (by omega) (j := i48) (by omega)) cw_X14_65 ?_
          have hz111 := (hsp i48 (by omega)).2
          refine sw_get (v := .int (nI (sp i48))) O (xx_dt dd_X14_digest 61 rfl) cl_X12 fl_X14_81 (lm_reg (σ := σ) (R := R) hR (by omega) (j := i48) (by omega)) (by decide) (congrArg Value.int (hsp i48 (by omega)).1) ?_
          refine sw_icmp_ge (tgt := 134) O (xx_dt dd_X14_digest 62 rfl) (by decide) (fun _ => ?_) (fun q => absurd (Int32.le_refl _) q)
          refine sw_iinc (y := nI (i48 + 1)) (ls2 := [.ref 5000, .ref 9000, .int (nI (i48 + 1)), .int (nI ((sp i48))), xx_d, xx_d]) O (xx_dt dd_X14_digest 72 rfl) rfl (nI_1 _) (by decide) rfl ?_
          refine sw_goto (tgt := 48) O (xx_dt dd_X14_digest 73 rfl) (by decide) ?_
          refine sw_dum (ls2 := [.ref 5000, .ref 9000, .int (nI (i48 + 1)), xx_d, xx_d, xx_d]) ⟨.inr rfl, .inr rfl, .inr rfl, .inl rfl, .inr rfl, .inr rfl, trivial⟩ ?_
          refine xx_wid (k' := k + 24 * (R - (i48 + 1))) (n' := n + 158 * (R - (i48 + 1))) (by omega) (by omega) ?_
          exact kk48
    · show SW Y _ _ (setM (x_dig_48 σ R B K C pk g tn sp (x_dig_23 σ R B K C pk g tn sp z)) σ h) 48 [.ref 5000, .ref 9000, .int (nI R), xx_d, xx_d, xx_d] []
      refine xx_wid (k' := k) (n' := n) (by show _ ≤ k + 24 * (R - R); omega) (by show _ ≤ n + 158 * (R - R); omega) ?_
      refine sw_iload_n O (xx_dt dd_X14_digest 27 rfl) rfl ?_
      refine sw_aload_n O (xx_dt dd_X14_digest 28 rfl) rfl ?_
      refine sw_get (v := .ref 5001) O (xx_dt dd_X14_digest 29 rfl) cl_X14 fl_X14_23 (lm_mod (σ := σ)) (by decide) rfl ?_
      refine sw_callVL (ci := 6) (as := []) (st := [.int (nI R)]) (st2 := [.int (nI R), .int (nI R)]) O (ct_AL_size hl (lm_5001 (σ := σ) (R := R) hR (by omega))) ce_Jx4a65c_size_8abf5 ml_X14_57 iv_Jx4a65c_size_8abf5 cl_Jx4a65c rfl (lm_5001 (σ := σ) (R := R) hR (by omega)) (xx_dt dd_X14_digest 30 rfl) (by decide) rfl rfl (Nat.le_of_ble_eq_true rfl) rfl ?_
      refine sw_icmp_ge (tgt := 140) O (xx_dt dd_X14_digest 31 rfl) (by decide) (fun _ => ?_) (fun q => absurd (Int32.le_refl _) q)
      refine sw_dum (ls2 := [.ref 5000, .ref 9000, xx_d, xx_d, xx_d, xx_d]) ⟨.inr rfl, .inr rfl, .inl rfl, .inr rfl, .inr rfl, .inr rfl, trivial⟩ ?_
      exact kk
end
section
/-! ===== the reference: digest ===== -/
theorem dgB1 {Y : XY} {l : Launch} {h : XH} (O : xx_O Y m_X14_digest l 22) (hl : l.stackTraces = false) {z : Int64} {σ : XS9} (hbs : xx_bs h) (hfr : ∀ r, 5000 ≤ r → r < 20010 → h r = none) {B : Nat} (hB : σ 5002 900 = nI B) (hB6 : B ≤ 6) {pk : Nat → Nat} (hpk : ∀ j, j < B → σ (5030 + j) 900 = nI (2 * pk j) ∧ pk j ≤ 6) (hc : σ 9000 20 = nI 1) (hpi : ∀ j, j < B → σ 9001 j = -1 ∨ ∃ n, n < pk j ∧ σ 9001 j = nI n) (hterm : ∃ r, xitR (p2_step 20006 B) 20000000 0 (g_Cpay20 (g_Cpay σ 1 20005 B) 20006 B) = .inr r) (hq5 : σ 20005 20 = 0) (hq6 : σ 20006 20 = 0) {k n : Nat} (kk : SW Y k n (setM z (g_Cpay (g_Cpay σ 1 20005 B) 2 20006 B) h) 155 [.ref 5000, .ref 9000, .ref 20005, .ref 20006, .int 0, xx_d] []) : SW Y (k + 2) (n + 12) (setM z σ h) 140 [.ref 5000, .ref 9000, xx_d, xx_d, xx_d, xx_d] [] := by
  refine sw_aload_n O (xx_dt dd_X14_digest 74 rfl) rfl ?_
  refine sw_iconst (x := 1) O (xx_dt dd_X14_digest 75 rfl) (by decide) ?_
  refine xx_wid (k' := (k + 1) + 1) (n' := (n + 6) + 6) (by omega) (by omega) ?_
  refine sw_callVx (k := k + 1) (n := n + 6) (k' := 1) (n' := 6) (as := [.int 1]) (st := []) (st2 := [.ref 20005]) O ((show XEx _ _ _ _ _ [_, .int 1] _ _ _ from ct_X10_payments hl (z := z) (σ := σ) hbs hc (B := B) hB (by omega) (pk := pk) hpk hpi (qa := 20005) (by omega) hfr hq5 (w := 1) (by omega) (fun e => absurd e (by decide)))) ce_X10_payments ml_X14_233 iv_X10_payments cl_X10 rfl (lm_9000 (σ := σ) (fl1 hc)) (xx_dt dd_X14_digest 76 rfl) (by decide) rfl rfl (Nat.le_of_ble_eq_true rfl) rfl ?_
  refine sw_astore_n (ls2 := [.ref 5000, .ref 9000, .ref 20005, xx_d, xx_d, xx_d]) O (xx_dt dd_X14_digest 77 rfl) (by decide) rfl ?_
  refine sw_aload_n O (xx_dt dd_X14_digest 78 rfl) rfl ?_
  refine sw_iconst (x := 2) O (xx_dt dd_X14_digest 79 rfl) (by decide) ?_
  refine sw_callVx (k := k) (n := n) (k' := 1) (n' := 6) (as := [.int 2]) (st := []) (st2 := [.ref 20006]) O ((show XEx _ _ _ _ _ [_, .int 2] _ _ _ from ct_X10_payments hl (z := z) (σ := g_Cpay σ 1 20005 B) hbs ((congrFun (fr_Cpay ⟨by omega, by omega⟩) 20).trans hc) (B := B) ((congrFun (fr_Cpay ⟨by omega, by omega⟩) 900).trans hB) (by omega) (pk := pk) (fun j9 hj9 => by rw [show (g_Cpay σ 1 20005 B) (5030 + j9) 900 = σ (5030 + j9) 900 from (congrFun (fr_Cpay ⟨by omega, by omega⟩) 900)]; exact hpk j9 hj9) (fun j9 hj9 => by rw [show (g_Cpay σ 1 20005 B) 9001 = σ 9001 from (fr_Cpay ⟨by omega, by omega⟩)]; exact hpi j9 hj9) (qa := 20006) (by omega) hfr ((congrFun (fr_Cpay ⟨by omega, by omega⟩) 20).trans hq6) (w := 2) (by omega) (fun _ => hterm))) ce_X10_payments ml_X14_233 iv_X10_payments cl_X10 rfl (lm_9000 (σ := g_Cpay σ 1 20005 B) (fl1 ((congrFun (fr_Cpay ⟨by omega, by omega⟩) 20).trans hc))) (xx_dt dd_X14_digest 80 rfl) (by decide) rfl rfl (Nat.le_of_ble_eq_true rfl) rfl ?_
  refine sw_astore_n (ls2 := [.ref 5000, .ref 9000, .ref 20005, .ref 20006, xx_d, xx_d]) O (xx_dt dd_X14_digest 81 rfl) (by decide) rfl ?_
  refine sw_iconst (x := 0) O (xx_dt dd_X14_digest 82 rfl) (by decide) ?_
  refine sw_istore (ls2 := [.ref 5000, .ref 9000, .ref 20005, .ref 20006, .int 0, xx_d]) O (xx_dt dd_X14_digest 83 rfl) (by decide) rfl ?_
  exact kk
def x_dig_170 (σ : XS9) (R B K C : Nat) (pk : Nat → Nat) (g : Nat) (tn sp : Nat → Nat) (i155 : Nat) (y0 : Int64) : Int64 := xit (fun i170 y170 => (y170 * 31) + (Int32.toInt64 (f_MofBidderNow σ i155 R B pk g i170))) 11 0 y0
theorem dg170 {Y : XY} {l : Launch} {h : XH} (O : xx_O Y m_X14_digest l 22) (hl : l.stackTraces = false) {z : Int64} {σ : XS9} (hbs : xx_bs h) {R : Nat} (hR : σ 5001 900 = nI R) (hR5 : R ≤ 5) {B : Nat} (hB : σ 5002 900 = nI B) (hB6 : B ≤ 6) {K : Nat} (hK : σ 5003 900 = nI K) (hK60 : K ≤ 60) {C : Nat} (hS : σ 5004 900 = nI (2 * C)) (hC10 : C ≤ 10) {pk : Nat → Nat} (hpk : ∀ j, j < B → σ (5030 + j) 900 = nI (2 * pk j) ∧ pk j ≤ 6) (hfl : σ 7000 25 = nI 0 ∨ (σ 7000 25 = nI 1 ∧ σ 7000 20 = nI 1)) {g : Nat} (hg : σ 7000 23 = nI g) (hg1 : g < 200) {w : Nat} (hw : σ 7000 24 = nI w) (hw1 : w < 200) (hkp : σ 5000 1 = 3 → ∀ j, j < B → σ 5005 j = -1 ∨ ∃ n, n < pk j ∧ σ 5005 j = nI n) {tn : Nat → Nat} (htn : ∀ r, r < 5 → σ 5007 r = nI (tn r) ∧ tn r < 6) {sp : Nat → Nat} (hsp : ∀ r, r < R → σ (5010 + r) 0 = nI (sp r) ∧ sp r ≤ 5) (hc : σ 9000 20 = nI 1) (h20005 : σ 20005 20 = nI 1 ∧ σ 20005 21 = nI 6) (h20006 : σ 20006 20 = nI 1 ∧ σ 20006 21 = nI 6) {i155 : Nat} (hi155 : i155 < B) {k n : Nat} (kk : SW Y k n (setM (x_dig_170 σ R B K C pk g tn sp i155 z) σ h) 196 [.ref 5000, .ref 9000, .ref 20005, .ref 20006, .int (nI i155), .int (nI 11)] []) : SW Y k n (setM z σ h) 170 [.ref 5000, .ref 9000, .ref 20005, .ref 20006, .int (nI i155), .int 0] [] := by
  refine sw_for (S := Int64) (fun i170 y170 => (y170 * 31) + (Int32.toInt64 (f_MofBidderNow σ i155 R B pk g i170))) (fun _ _ => True) (hp := fun y => setM y σ h) (hd := 170) (lc := fun i170 _ => [.ref 5000, .ref 9000, .ref 20005, .ref 20006, .int (nI i155), .int (nI i170)]) (N := 11) (fun i170 y170 hi170 _ => ⟨trivial, fun kk170 => ?_⟩) 11 0 z (by omega) trivial (fun _ => ?_)
  · refine sw_iload O (xx_dt dd_X14_digest 91 rfl) rfl ?_
    refine sw_bipush (x := 11) O (xx_dt dd_X14_digest 92 rfl) (by decide) ?_
    refine sw_icmp_ge (tgt := 196) O (xx_dt dd_X14_digest 93 rfl) (by decide) (fun q => absurd q (nI_ge (b := 11) hi170 (by omega))) (fun _ => ?_)
    refine sw_aload_n O (xx_dt dd_X14_digest 94 rfl) rfl ?_
    refine sw_aload_n O (xx_dt dd_X14_digest 95 rfl) rfl ?_
    refine sw_iload O (xx_dt dd_X14_digest 96 rfl) rfl ?_
    refine sw_iload O (xx_dt dd_X14_digest 97 rfl) rfl ?_
    refine sw_callVx (as := [.int (nI i155), .int (nI i170)]) (st := [.ref 5000]) (st2 := [.int (f_MofBidderNow σ i155 R B pk g i170), .ref 5000]) O (ct_X14_ofBidderNow hl (z := y170) (σ := σ) hbs (R := R) hR (by omega) (B := B) hB (by omega) (pk := pk) hpk (i := i155) (by omega) hfl (g := g) hg (by omega) (w := w) hw (by omega) (v := i170) (by omega)) ce_X14_ofBidderNow ml_X14_311 iv_X14_ofBidderNow cl_X14 rfl (lm_mod (σ := σ)) (xx_dt dd_X14_digest 98 rfl) (by decide) rfl rfl (Nat.le_of_ble_eq_true rfl) rfl ?_
    refine sw_i2l O (xx_dt dd_X14_digest 99 rfl) ?_
    refine sw_callVx (as := [.long (Int32.toInt64 (f_MofBidderNow σ i155 R B pk g i170))]) (st := []) (st2 := []) O (ct_X14_add hl (z := y170) (σ := σ) (v := Int32.toInt64 (f_MofBidderNow σ i155 R B pk g i170))) ce_X14_add ml_X14_415 iv_X14_add cl_X14 rfl (lm_mod (σ := σ)) (xx_dt dd_X14_digest 100 rfl) (by decide) rfl rfl (Nat.le_of_ble_eq_true rfl) rfl ?_
    refine sw_iinc (y := nI (i170 + 1)) (ls2 := [.ref 5000, .ref 9000, .ref 20005, .ref 20006, .int (nI i155), .int (nI (i170 + 1))]) O (xx_dt dd_X14_digest 101 rfl) rfl (nI_1 _) (by decide) rfl ?_
    refine sw_goto (tgt := 170) O (xx_dt dd_X14_digest 102 rfl) (by decide) ?_
    exact kk170
  · show SW Y _ _ (setM (x_dig_170 σ R B K C pk g tn sp i155 z) σ h) 170 [.ref 5000, .ref 9000, .ref 20005, .ref 20006, .int (nI i155), .int (nI 11)] []
    refine sw_iload O (xx_dt dd_X14_digest 91 rfl) rfl ?_
    refine sw_bipush (x := 11) O (xx_dt dd_X14_digest 92 rfl) (by decide) ?_
    refine sw_icmp_ge (tgt := 196) O (xx_dt dd_X14_digest 93 rfl) (by decide) (fun _ => ?_) (fun q => absurd (Int32.le_refl _) q)
    exact kk
theorem dg196 {Y : XY} {l : Launch} {h : XH} (O : xx_O Y m_X14_digest l 22) (hl : l.stackTraces = false) {z : Int64} {σ : XS9} (hbs : xx_bs h) {R : Nat} (hR : σ 5001 900 = nI R) (hR5 : R ≤ 5) {B : Nat} (hB : σ 5002 900 = nI B) (hB6 : B ≤ 6) {K : Nat} (hK : σ 5003 900 = nI K) (hK60 : K ≤ 60) {C : Nat} (hS : σ 5004 900 = nI (2 * C)) (hC10 : C ≤ 10) {pk : Nat → Nat} (hpk : ∀ j, j < B → σ (5030 + j) 900 = nI (2 * pk j) ∧ pk j ≤ 6) (hfl : σ 7000 25 = nI 0 ∨ (σ 7000 25 = nI 1 ∧ σ 7000 20 = nI 1)) {g : Nat} (hg : σ 7000 23 = nI g) (hg1 : g < 200) {w : Nat} (hw : σ 7000 24 = nI w) (hw1 : w < 200) (hkp : σ 5000 1 = 3 → ∀ j, j < B → σ 5005 j = -1 ∨ ∃ n, n < pk j ∧ σ 5005 j = nI n) {tn : Nat → Nat} (htn : ∀ r, r < 5 → σ 5007 r = nI (tn r) ∧ tn r < 6) {sp : Nat → Nat} (hsp : ∀ r, r < R → σ (5010 + r) 0 = nI (sp r) ∧ sp r ≤ 5) (hc : σ 9000 20 = nI 1) (h20005 : σ 20005 20 = nI 1 ∧ σ 20005 21 = nI 6) (h20006 : σ 20006 20 = nI 1 ∧ σ 20006 21 = nI 6) {i155 : Nat} (hi155 : i155 < B) {k n : Nat} (kk : SW Y k n (setM ((((((((((z * 31) + (Int32.toInt64 (f_MwinsNow σ i155))) * 31) + (Int32.toInt64 (f_Mpaid σ i155))) * 31) + (Int32.toInt64 (f_Mdue σ i155 B))) * 31) + (Int32.toInt64 (σ 20005 i155))) * 31) + (Int32.toInt64 (σ 20006 i155))) σ h) 251 [.ref 5000, .ref 9000, .ref 20005, .ref 20006, .int (nI i155), .int 0] []) : SW Y k n (setM z σ h) 196 [.ref 5000, .ref 9000, .ref 20005, .ref 20006, .int (nI i155), .int (nI 11)] [] := by
  refine sw_aload_n O (xx_dt dd_X14_digest 103 rfl) rfl ?_
  refine sw_aload_n O (xx_dt dd_X14_digest 104 rfl) rfl ?_
  refine sw_iload O (xx_dt dd_X14_digest 105 rfl) rfl ?_
  refine sw_aload_n O (xx_dt dd_X14_digest 106 rfl) rfl ?_
  refine sw_callVx (as := [.int (nI i155), .ref 9000]) (st := [.ref 5000]) (st2 := [.int (f_MwinsNow σ i155), .ref 5000]) O (ct_X14_winsNow hl (z := z) (σ := σ) hbs hc (i := i155) (by omega)) ce_X14_winsNow ml_X14_317 iv_X14_winsNow cl_X14 rfl (lm_mod (σ := σ)) (xx_dt dd_X14_digest 107 rfl) (by decide) rfl rfl (Nat.le_of_ble_eq_true rfl) rfl ?_
  refine sw_i2l O (xx_dt dd_X14_digest 108 rfl) ?_
  refine sw_callVx (as := [.long (Int32.toInt64 (f_MwinsNow σ i155))]) (st := []) (st2 := []) O (ct_X14_add hl (z := z) (σ := σ) (v := Int32.toInt64 (f_MwinsNow σ i155))) ce_X14_add ml_X14_415 iv_X14_add cl_X14 rfl (lm_mod (σ := σ)) (xx_dt dd_X14_digest 109 rfl) (by decide) rfl rfl (Nat.le_of_ble_eq_true rfl) rfl ?_
  refine sw_aload_n O (xx_dt dd_X14_digest 110 rfl) rfl ?_
  refine sw_aload_n O (xx_dt dd_X14_digest 111 rfl) rfl ?_
  refine sw_iload O (xx_dt dd_X14_digest 112 rfl) rfl ?_
  refine sw_callVx (as := [.int (nI i155)]) (st := [.ref 5000]) (st2 := [.int (f_Mpaid σ i155), .ref 5000]) O (ct_X14_paid hl (z := (z * 31) + (Int32.toInt64 (f_MwinsNow σ i155))) (σ := σ) hbs  (i := i155) (by omega)) ce_X14_paid ml_X14_326 iv_X14_paid cl_X14 rfl (lm_mod (σ := σ)) (xx_dt dd_X14_digest 113 rfl) (by decide) rfl rfl (Nat.le_of_ble_eq_true rfl) rfl ?_
  refine sw_i2l O (xx_dt dd_X14_digest 114 rfl) ?_
  refine sw_callVx (as := [.long (Int32.toInt64 (f_Mpaid σ i155))]) (st := []) (st2 := []) O (ct_X14_add hl (z := (z * 31) + (Int32.toInt64 (f_MwinsNow σ i155))) (σ := σ) (v := Int32.toInt64 (f_Mpaid σ i155))) ce_X14_add ml_X14_415 iv_X14_add cl_X14 rfl (lm_mod (σ := σ)) (xx_dt dd_X14_digest 115 rfl) (by decide) rfl rfl (Nat.le_of_ble_eq_true rfl) rfl ?_
  refine sw_aload_n O (xx_dt dd_X14_digest 116 rfl) rfl ?_
  refine sw_aload_n O (xx_dt dd_X14_digest 117 rfl) rfl ?_
  refine sw_iload O (xx_dt dd_X14_digest 118 rfl) rfl ?_
  refine sw_callVx (as := [.int (nI i155)]) (st := [.ref 5000]) (st2 := [.int (f_Mdue σ i155 B), .ref 5000]) O (ct_X14_due hl (z := (((z * 31) + (Int32.toInt64 (f_MwinsNow σ i155))) * 31) + (Int32.toInt64 (f_Mpaid σ i155))) (σ := σ) hbs (B := B) hB (by omega) (i := i155) (by omega)) ce_X14_due ml_X14_323 iv_X14_due cl_X14 rfl (lm_mod (σ := σ)) (xx_dt dd_X14_digest 119 rfl) (by decide) rfl rfl (Nat.le_of_ble_eq_true rfl) rfl ?_
  refine sw_i2l O (xx_dt dd_X14_digest 120 rfl) ?_
  refine sw_callVx (as := [.long (Int32.toInt64 (f_Mdue σ i155 B))]) (st := []) (st2 := []) O (ct_X14_add hl (z := (((z * 31) + (Int32.toInt64 (f_MwinsNow σ i155))) * 31) + (Int32.toInt64 (f_Mpaid σ i155))) (σ := σ) (v := Int32.toInt64 (f_Mdue σ i155 B))) ce_X14_add ml_X14_415 iv_X14_add cl_X14 rfl (lm_mod (σ := σ)) (xx_dt dd_X14_digest 121 rfl) (by decide) rfl rfl (Nat.le_of_ble_eq_true rfl) rfl ?_
  refine sw_aload_n O (xx_dt dd_X14_digest 122 rfl) rfl ?_
  refine sw_aload_n O (xx_dt dd_X14_digest 123 rfl) rfl ?_
  refine sw_iload O (xx_dt dd_X14_digest 124 rfl) rfl ?_
  refine sw_iaload (v := .int (σ 20005 i155)) O (xx_dt dd_X14_digest 125 rfl) ((lm_tmp (z := (((((z * 31) + (Int32.toInt64 (f_MwinsNow σ i155))) * 31) + (Int32.toInt64 (f_Mpaid σ i155))) * 31) + (Int32.toInt64 (f_Mdue σ i155 B))) (σ := σ) (h := h) (q := 20005) (by omega) (fl1 h20005.1) h20005.2 (by omega)).get _) (pk_in i155 _ (by omega)) (by rw [nI_clamp (by omega)]; try exact rfl) ?_
  refine sw_i2l O (xx_dt dd_X14_digest 126 rfl) ?_
  refine sw_callVx (as := [.long (Int32.toInt64 (σ 20005 i155))]) (st := []) (st2 := []) O (ct_X14_add hl (z := (((((z * 31) + (Int32.toInt64 (f_MwinsNow σ i155))) * 31) + (Int32.toInt64 (f_Mpaid σ i155))) * 31) + (Int32.toInt64 (f_Mdue σ i155 B))) (σ := σ) (v := Int32.toInt64 (σ 20005 i155))) ce_X14_add ml_X14_415 iv_X14_add cl_X14 rfl (lm_mod (σ := σ)) (xx_dt dd_X14_digest 127 rfl) (by decide) rfl rfl (Nat.le_of_ble_eq_true rfl) rfl ?_
  refine sw_aload_n O (xx_dt dd_X14_digest 128 rfl) rfl ?_
  refine sw_aload_n O (xx_dt dd_X14_digest 129 rfl) rfl ?_
  refine sw_iload O (xx_dt dd_X14_digest 130 rfl) rfl ?_
  refine sw_iaload (v := .int (σ 20006 i155)) O (xx_dt dd_X14_digest 131 rfl) ((lm_tmp (z := (((((((z * 31) + (Int32.toInt64 (f_MwinsNow σ i155))) * 31) + (Int32.toInt64 (f_Mpaid σ i155))) * 31) + (Int32.toInt64 (f_Mdue σ i155 B))) * 31) + (Int32.toInt64 (σ 20005 i155))) (σ := σ) (h := h) (q := 20006) (by omega) (fl1 h20006.1) h20006.2 (by omega)).get _) (pk_in i155 _ (by omega)) (by rw [nI_clamp (by omega)]; try exact rfl) ?_
  refine sw_i2l O (xx_dt dd_X14_digest 132 rfl) ?_
  refine sw_callVx (as := [.long (Int32.toInt64 (σ 20006 i155))]) (st := []) (st2 := []) O (ct_X14_add hl (z := (((((((z * 31) + (Int32.toInt64 (f_MwinsNow σ i155))) * 31) + (Int32.toInt64 (f_Mpaid σ i155))) * 31) + (Int32.toInt64 (f_Mdue σ i155 B))) * 31) + (Int32.toInt64 (σ 20005 i155))) (σ := σ) (v := Int32.toInt64 (σ 20006 i155))) ce_X14_add ml_X14_415 iv_X14_add cl_X14 rfl (lm_mod (σ := σ)) (xx_dt dd_X14_digest 133 rfl) (by decide) rfl rfl (Nat.le_of_ble_eq_true rfl) rfl ?_
  refine sw_iconst (x := 0) O (xx_dt dd_X14_digest 134 rfl) (by decide) ?_
  refine sw_istore (ls2 := [.ref 5000, .ref 9000, .ref 20005, .ref 20006, .int (nI i155), .int 0]) O (xx_dt dd_X14_digest 135 rfl) (by decide) rfl ?_
  exact kk
def x_dig_251 (σ : XS9) (R B K C : Nat) (pk : Nat → Nat) (g : Nat) (tn sp : Nat → Nat) (i155 : Nat) (y0 : Int64) : Int64 := xit (fun i251 y251 => (((y251 * 31) + (Int32.toInt64 (f_Bamount σ i155 i251))) * 31) + (Int32.toInt64 (f_Bcode σ i155 i251))) (pk i155) 0 y0
theorem dg251 {Y : XY} {l : Launch} {h : XH} (O : xx_O Y m_X14_digest l 22) (hl : l.stackTraces = false) {z : Int64} {σ : XS9} (hbs : xx_bs h) {R : Nat} (hR : σ 5001 900 = nI R) (hR5 : R ≤ 5) {B : Nat} (hB : σ 5002 900 = nI B) (hB6 : B ≤ 6) {K : Nat} (hK : σ 5003 900 = nI K) (hK60 : K ≤ 60) {C : Nat} (hS : σ 5004 900 = nI (2 * C)) (hC10 : C ≤ 10) {pk : Nat → Nat} (hpk : ∀ j, j < B → σ (5030 + j) 900 = nI (2 * pk j) ∧ pk j ≤ 6) (hfl : σ 7000 25 = nI 0 ∨ (σ 7000 25 = nI 1 ∧ σ 7000 20 = nI 1)) {g : Nat} (hg : σ 7000 23 = nI g) (hg1 : g < 200) {w : Nat} (hw : σ 7000 24 = nI w) (hw1 : w < 200) (hkp : σ 5000 1 = 3 → ∀ j, j < B → σ 5005 j = -1 ∨ ∃ n, n < pk j ∧ σ 5005 j = nI n) {tn : Nat → Nat} (htn : ∀ r, r < 5 → σ 5007 r = nI (tn r) ∧ tn r < 6) {sp : Nat → Nat} (hsp : ∀ r, r < R → σ (5010 + r) 0 = nI (sp r) ∧ sp r ≤ 5) (hc : σ 9000 20 = nI 1) (h20005 : σ 20005 20 = nI 1 ∧ σ 20005 21 = nI 6) (h20006 : σ 20006 20 = nI 1 ∧ σ 20006 21 = nI 6) {i155 : Nat} (hi155 : i155 < B) {k n : Nat} (kk : SW Y k n (setM (x_dig_251 σ R B K C pk g tn sp i155 z) σ h) 321 [.ref 5000, .ref 9000, .ref 20005, .ref 20006, .int (nI i155), .int (nI ((pk i155)))] []) : SW Y k n (setM z σ h) 251 [.ref 5000, .ref 9000, .ref 20005, .ref 20006, .int (nI i155), .int 0] [] := by
  refine sw_for (S := Int64) (fun i251 y251 => (((y251 * 31) + (Int32.toInt64 (f_Bamount σ i155 i251))) * 31) + (Int32.toInt64 (f_Bcode σ i155 i251))) (fun _ _ => True) (hp := fun y => setM y σ h) (hd := 251) (lc := fun i251 _ => [.ref 5000, .ref 9000, .ref 20005, .ref 20006, .int (nI i155), .int (nI i251)]) (N := (pk i155)) (fun i251 y251 hi251 _ => ⟨trivial, fun kk251 => ?_⟩) (pk i155) 0 z (by omega) trivial (fun _ => ?_)
  · refine sw_iload O (xx_dt dd_X14_digest 136 rfl) rfl ?_
    refine sw_aload_n O (xx_dt dd_X14_digest 137 rfl) rfl ?_
    refine sw_get (v := .ref 5002) O (xx_dt dd_X14_digest 138 rfl) cl_X14 fl_X14_27 (lm_mod (σ := σ)) (by decide) rfl ?_
    refine sw_iload O (xx_dt dd_X14_digest 139 rfl) rfl ?_
    refine sw_callVL (ci := 6) (as := [.int (nI i155)]) (st := [.int (nI i251)]) (st2 := [.ref (5020 + i155), .int (nI i251)]) O (ct_get hl hbs (lm_5002 (σ := σ) (B := B) hB (by omega)) (by omega) (i := i155) (x := 5020 + i155) (by omega) (by omega) rfl) ce_Jx4a65c_get_915e3 ml_X14_61 iv_Jx4a65c_get_915e3 cl_Jx4a65c rfl (lm_5002 (σ := σ) (B := B) hB (by omega)) (xx_dt dd_X14_digest 140 rfl) (by decide) rfl rfl (Nat.le_of_ble_eq_true rfl) rfl ?_
    refine sw_castO O (xx_dt dd_X14_digest 141 rfl) cl_X9 (lm_bid (σ := σ) (B := B) hB (by omega) (j := i155) (by omega)) cw_X14_118 ?_
    have hq265 := (hpk i155 (by omega)).2
    refine sw_callVx (as := []) (st := [.int (nI i251)]) (st2 := [.int (nI (pk i155)), .int (nI i251)]) O ((show XEx _ _ _ _ _ _ _ (some (.int (nI (pk i155)))) _ from ct_X9_many hl (z := y251) (σ := σ) hbs (B := B) hB (by omega) (j := i155) (by omega) (p := pk i155) (hpk i155 (by omega)).1 (by have h9 := (hpk i155 (by omega)).2; omega))) ce_X9_many ml_X14_210 iv_X9_many cl_X9 rfl (lm_bid (σ := σ) (B := B) hB (by omega) (j := i155) (by omega)) (xx_dt dd_X14_digest 142 rfl) (by decide) rfl rfl (Nat.le_of_ble_eq_true rfl) rfl ?_
    refine sw_icmp_ge (tgt := 321) O (xx_dt dd_X14_digest 143 rfl) (by decide) (fun q => absurd q (nI_ge (b := (pk i155)) hi251 (by omega))) (fun _ => ?_)
    refine sw_aload_n O (xx_dt dd_X14_digest 144 rfl) rfl ?_
    refine sw_aload_n O (xx_dt dd_X14_digest 145 rfl) rfl ?_
    refine sw_get (v := .ref 5002) O (xx_dt dd_X14_digest 146 rfl) cl_X14 fl_X14_27 (lm_mod (σ := σ)) (by decide) rfl ?_
    refine sw_iload O (xx_dt dd_X14_digest 147 rfl) rfl ?_
    refine sw_callVL (ci := 6) (as := [.int (nI i155)]) (st := [.ref 5000]) (st2 := [.ref (5020 + i155), .ref 5000]) O (ct_get hl hbs (lm_5002 (σ := σ) (B := B) hB (by omega)) (by omega) (i := i155) (x := 5020 + i155) (by omega) (by omega) rfl) ce_Jx4a65c_get_915e3 ml_X14_61 iv_Jx4a65c_get_915e3 cl_Jx4a65c rfl (lm_5002 (σ := σ) (B := B) hB (by omega)) (xx_dt dd_X14_digest 148 rfl) (by decide) rfl rfl (Nat.le_of_ble_eq_true rfl) rfl ?_
    refine sw_castO O (xx_dt dd_X14_digest 149 rfl) cl_X9 (lm_bid (σ := σ) (B := B) hB (by omega) (j := i155) (by omega)) cw_X14_118 ?_
    refine sw_iload O (xx_dt dd_X14_digest 150 rfl) rfl ?_
    refine sw_callVx (as := [.int (nI i251)]) (st := [.ref 5000]) (st2 := [.int (f_Bamount σ i155 i251), .ref 5000]) O (ct_X9_amount hl (z := y251) (σ := σ) hbs (B := B) hB (by omega) (j := i155) (by omega) (p := pk i155) (hpk i155 (by omega)).1 (by have h9 := (hpk i155 (by omega)).2; omega) (k := i251) (by first | omega | (have h9 := (hpk i155 (by omega)).2; omega))) ce_X9_amount ml_X14_252 iv_X9_amount cl_X9 rfl (lm_bid (σ := σ) (B := B) hB (by omega) (j := i155) (by omega)) (xx_dt dd_X14_digest 151 rfl) (by decide) rfl rfl (Nat.le_of_ble_eq_true rfl) rfl ?_
    refine sw_i2l O (xx_dt dd_X14_digest 152 rfl) ?_
    refine sw_callVx (as := [.long (Int32.toInt64 (f_Bamount σ i155 i251))]) (st := []) (st2 := []) O (ct_X14_add hl (z := y251) (σ := σ) (v := Int32.toInt64 (f_Bamount σ i155 i251))) ce_X14_add ml_X14_415 iv_X14_add cl_X14 rfl (lm_mod (σ := σ)) (xx_dt dd_X14_digest 153 rfl) (by decide) rfl rfl (Nat.le_of_ble_eq_true rfl) rfl ?_
    refine sw_aload_n O (xx_dt dd_X14_digest 154 rfl) rfl ?_
    refine sw_aload_n O (xx_dt dd_X14_digest 155 rfl) rfl ?_
    refine sw_get (v := .ref 5002) O (xx_dt dd_X14_digest 156 rfl) cl_X14 fl_X14_27 (lm_mod (σ := σ)) (by decide) rfl ?_
    refine sw_iload O (xx_dt dd_X14_digest 157 rfl) rfl ?_
    refine sw_callVL (ci := 6) (as := [.int (nI i155)]) (st := [.ref 5000]) (st2 := [.ref (5020 + i155), .ref 5000]) O (ct_get hl hbs (lm_5002 (σ := σ) (B := B) hB (by omega)) (by omega) (i := i155) (x := 5020 + i155) (by omega) (by omega) rfl) ce_Jx4a65c_get_915e3 ml_X14_61 iv_Jx4a65c_get_915e3 cl_Jx4a65c rfl (lm_5002 (σ := σ) (B := B) hB (by omega)) (xx_dt dd_X14_digest 158 rfl) (by decide) rfl rfl (Nat.le_of_ble_eq_true rfl) rfl ?_
    refine sw_castO O (xx_dt dd_X14_digest 159 rfl) cl_X9 (lm_bid (σ := σ) (B := B) hB (by omega) (j := i155) (by omega)) cw_X14_118 ?_
    refine sw_iload O (xx_dt dd_X14_digest 160 rfl) rfl ?_
    refine sw_callVx (as := [.int (nI i251)]) (st := [.ref 5000]) (st2 := [.int (f_Bcode σ i155 i251), .ref 5000]) O (ct_X9_code hl (z := (y251 * 31) + (Int32.toInt64 (f_Bamount σ i155 i251))) (σ := σ) hbs (B := B) hB (by omega) (j := i155) (by omega) (p := pk i155) (hpk i155 (by omega)).1 (by have h9 := (hpk i155 (by omega)).2; omega) (k := i251) (by first | omega | (have h9 := (hpk i155 (by omega)).2; omega))) ce_X9_code ml_X14_240 iv_X9_code cl_X9 rfl (lm_bid (σ := σ) (B := B) hB (by omega) (j := i155) (by omega)) (xx_dt dd_X14_digest 161 rfl) (by decide) rfl rfl (Nat.le_of_ble_eq_true rfl) rfl ?_
    refine sw_i2l O (xx_dt dd_X14_digest 162 rfl) ?_
    refine sw_callVx (as := [.long (Int32.toInt64 (f_Bcode σ i155 i251))]) (st := []) (st2 := []) O (ct_X14_add hl (z := (y251 * 31) + (Int32.toInt64 (f_Bamount σ i155 i251))) (σ := σ) (v := Int32.toInt64 (f_Bcode σ i155 i251))) ce_X14_add ml_X14_415 iv_X14_add cl_X14 rfl (lm_mod (σ := σ)) (xx_dt dd_X14_digest 163 rfl) (by decide) rfl rfl (Nat.le_of_ble_eq_true rfl) rfl ?_
    refine sw_iinc (y := nI (i251 + 1)) (ls2 := [.ref 5000, .ref 9000, .ref 20005, .ref 20006, .int (nI i155), .int (nI (i251 + 1))]) O (xx_dt dd_X14_digest 164 rfl) rfl (nI_1 _) (by decide) rfl ?_
    refine sw_goto (tgt := 251) O (xx_dt dd_X14_digest 165 rfl) (by decide) ?_
    exact kk251
  · show SW Y _ _ (setM (x_dig_251 σ R B K C pk g tn sp i155 z) σ h) 251 [.ref 5000, .ref 9000, .ref 20005, .ref 20006, .int (nI i155), .int (nI ((pk i155)))] []
    refine sw_iload O (xx_dt dd_X14_digest 136 rfl) rfl ?_
    refine sw_aload_n O (xx_dt dd_X14_digest 137 rfl) rfl ?_
    refine sw_get (v := .ref 5002) O (xx_dt dd_X14_digest 138 rfl) cl_X14 fl_X14_27 (lm_mod (σ := σ)) (by decide) rfl ?_
    refine sw_iload O (xx_dt dd_X14_digest 139 rfl) rfl ?_
    refine sw_callVL (ci := 6) (as := [.int (nI i155)]) (st := [.int (nI ((pk i155)))]) (st2 := [.ref (5020 + i155), .int (nI ((pk i155)))]) O (ct_get hl hbs (lm_5002 (σ := σ) (B := B) hB (by omega)) (by omega) (i := i155) (x := 5020 + i155) (by omega) (by omega) rfl) ce_Jx4a65c_get_915e3 ml_X14_61 iv_Jx4a65c_get_915e3 cl_Jx4a65c rfl (lm_5002 (σ := σ) (B := B) hB (by omega)) (xx_dt dd_X14_digest 140 rfl) (by decide) rfl rfl (Nat.le_of_ble_eq_true rfl) rfl ?_
    refine sw_castO O (xx_dt dd_X14_digest 141 rfl) cl_X9 (lm_bid (σ := σ) (B := B) hB (by omega) (j := i155) (by omega)) cw_X14_118 ?_
    have hq265 := (hpk i155 (by omega)).2
    refine sw_callVx (as := []) (st := [.int (nI ((pk i155)))]) (st2 := [.int (nI (pk i155)), .int (nI ((pk i155)))]) O ((show XEx _ _ _ _ _ _ _ (some (.int (nI (pk i155)))) _ from ct_X9_many hl (z := x_dig_251 σ R B K C pk g tn sp i155 z) (σ := σ) hbs (B := B) hB (by omega) (j := i155) (by omega) (p := pk i155) (hpk i155 (by omega)).1 (by have h9 := (hpk i155 (by omega)).2; omega))) ce_X9_many ml_X14_210 iv_X9_many cl_X9 rfl (lm_bid (σ := σ) (B := B) hB (by omega) (j := i155) (by omega)) (xx_dt dd_X14_digest 142 rfl) (by decide) rfl rfl (Nat.le_of_ble_eq_true rfl) rfl ?_
    refine sw_icmp_ge (tgt := 321) O (xx_dt dd_X14_digest 143 rfl) (by decide) (fun _ => ?_) (fun q => absurd (Int32.le_refl _) q)
    exact kk
def x_dig_196 (σ : XS9) (R B K C : Nat) (pk : Nat → Nat) (g : Nat) (tn sp : Nat → Nat) (i155 : Nat) (y0 : Int64) : Int64 := (((((((((y0 * 31) + (Int32.toInt64 (f_MwinsNow σ i155))) * 31) + (Int32.toInt64 (f_Mpaid σ i155))) * 31) + (Int32.toInt64 (f_Mdue σ i155 B))) * 31) + (Int32.toInt64 (σ 20005 i155))) * 31) + (Int32.toInt64 (σ 20006 i155))
def x_dig_155 (σ : XS9) (R B K C : Nat) (pk : Nat → Nat) (g : Nat) (tn sp : Nat → Nat) (y0 : Int64) : Int64 := xit (fun i155 y155 => x_dig_251 σ R B K C pk g tn sp i155 (x_dig_196 σ R B K C pk g tn sp i155 (x_dig_170 σ R B K C pk g tn sp i155 y155))) B 0 y0
def x_digB (σ : XS9) (R B K C : Nat) (pk : Nat → Nat) (g : Nat) (tn sp : Nat → Nat) (y0 : Int64) : Int64 := x_dig_155 σ R B K C pk g tn sp y0
theorem dgB {Y : XY} {l : Launch} {h : XH} (O : xx_O Y m_X14_digest l 22) (hl : l.stackTraces = false) {z : Int64} {σ : XS9} (hbs : xx_bs h) {R : Nat} (hR : σ 5001 900 = nI R) (hR5 : R ≤ 5) {B : Nat} (hB : σ 5002 900 = nI B) (hB6 : B ≤ 6) {K : Nat} (hK : σ 5003 900 = nI K) (hK60 : K ≤ 60) {C : Nat} (hS : σ 5004 900 = nI (2 * C)) (hC10 : C ≤ 10) {pk : Nat → Nat} (hpk : ∀ j, j < B → σ (5030 + j) 900 = nI (2 * pk j) ∧ pk j ≤ 6) (hfl : σ 7000 25 = nI 0 ∨ (σ 7000 25 = nI 1 ∧ σ 7000 20 = nI 1)) {g : Nat} (hg : σ 7000 23 = nI g) (hg1 : g < 200) {w : Nat} (hw : σ 7000 24 = nI w) (hw1 : w < 200) (hkp : σ 5000 1 = 3 → ∀ j, j < B → σ 5005 j = -1 ∨ ∃ n, n < pk j ∧ σ 5005 j = nI n) {tn : Nat → Nat} (htn : ∀ r, r < 5 → σ 5007 r = nI (tn r) ∧ tn r < 6) {sp : Nat → Nat} (hsp : ∀ r, r < R → σ (5010 + r) 0 = nI (sp r) ∧ sp r ≤ 5) (hc : σ 9000 20 = nI 1) (h20005 : σ 20005 20 = nI 1 ∧ σ 20005 21 = nI 6) (h20006 : σ 20006 20 = nI 1 ∧ σ 20006 21 = nI 6) {k n : Nat} (kk : SW Y k n (setM (x_digB σ R B K C pk g tn sp z) σ h) 327 [.ref 5000, .ref 9000, .ref 20005, .ref 20006, .int (nI B), xx_d] []) : SW Y k n (setM z σ h) 155 [.ref 5000, .ref 9000, .ref 20005, .ref 20006, .int 0, xx_d] [] := by
  refine sw_for (S := Int64) (fun i155 y155 => x_dig_251 σ R B K C pk g tn sp i155 (x_dig_196 σ R B K C pk g tn sp i155 (x_dig_170 σ R B K C pk g tn sp i155 y155))) (fun _ _ => True) (hp := fun y => setM y σ h) (hd := 155) (lc := fun i155 _ => [.ref 5000, .ref 9000, .ref 20005, .ref 20006, .int (nI i155), xx_d]) (N := B) (fun i155 y155 hi155 _ => ⟨trivial, fun kk155 => ?_⟩) B 0 z (by omega) trivial (fun _ => ?_)
  · refine sw_iload O (xx_dt dd_X14_digest 84 rfl) rfl ?_
    refine sw_aload_n O (xx_dt dd_X14_digest 85 rfl) rfl ?_
    refine sw_get (v := .ref 5002) O (xx_dt dd_X14_digest 86 rfl) cl_X14 fl_X14_27 (lm_mod (σ := σ)) (by decide) rfl ?_
    refine sw_callVL (ci := 6) (as := []) (st := [.int (nI i155)]) (st2 := [.int (nI B), .int (nI i155)]) O (ct_AL_size hl (lm_5002 (σ := σ) (B := B) hB (by omega))) ce_Jx4a65c_size_8abf5 ml_X14_57 iv_Jx4a65c_size_8abf5 cl_Jx4a65c rfl (lm_5002 (σ := σ) (B := B) hB (by omega)) (xx_dt dd_X14_digest 87 rfl) (by decide) rfl rfl (Nat.le_of_ble_eq_true rfl) rfl ?_
    refine sw_icmp_ge (tgt := 327) O (xx_dt dd_X14_digest 88 rfl) (by decide) (fun q => absurd q (nI_ge (b := B) hi155 (by omega))) (fun _ => ?_)
    refine sw_iconst (x := 0) O (xx_dt dd_X14_digest 89 rfl) (by decide) ?_
    refine sw_istore (ls2 := [.ref 5000, .ref 9000, .ref 20005, .ref 20006, .int (nI i155), .int 0]) O (xx_dt dd_X14_digest 90 rfl) (by decide) rfl ?_
    refine dg170 O hl hbs hR hR5 hB hB6 hK hK60 hS hC10 hpk hfl hg hg1 hw hw1 hkp htn hsp hc h20005 h20006 hi155 ?_
    refine dg196 O hl hbs hR hR5 hB hB6 hK hK60 hS hC10 hpk hfl hg hg1 hw hw1 hkp htn hsp hc h20005 h20006 hi155 ?_
    show SW Y _ _ (setM (x_dig_196 σ R B K C pk g tn sp i155 (x_dig_170 σ R B K C pk g tn sp i155 y155)) σ h) 251 [.ref 5000, .ref 9000, .ref 20005, .ref 20006, .int (nI i155), .int 0] []
    refine dg251 O hl hbs hR hR5 hB hB6 hK hK60 hS hC10 hpk hfl hg hg1 hw hw1 hkp htn hsp hc h20005 h20006 hi155 ?_
    refine sw_iinc (y := nI (i155 + 1)) (ls2 := [.ref 5000, .ref 9000, .ref 20005, .ref 20006, .int (nI (i155 + 1)), .int (nI ((pk i155)))]) O (xx_dt dd_X14_digest 166 rfl) rfl (nI_1 _) (by decide) rfl ?_
    refine sw_goto (tgt := 155) O (xx_dt dd_X14_digest 167 rfl) (by decide) ?_
    refine sw_dum (ls2 := [.ref 5000, .ref 9000, .ref 20005, .ref 20006, .int (nI (i155 + 1)), xx_d]) ⟨.inr rfl, .inr rfl, .inr rfl, .inr rfl, .inr rfl, .inl rfl, trivial⟩ ?_
    exact kk155
  · show SW Y _ _ (setM (x_dig_155 σ R B K C pk g tn sp z) σ h) 155 [.ref 5000, .ref 9000, .ref 20005, .ref 20006, .int (nI B), xx_d] []
    refine sw_iload O (xx_dt dd_X14_digest 84 rfl) rfl ?_
    refine sw_aload_n O (xx_dt dd_X14_digest 85 rfl) rfl ?_
    refine sw_get (v := .ref 5002) O (xx_dt dd_X14_digest 86 rfl) cl_X14 fl_X14_27 (lm_mod (σ := σ)) (by decide) rfl ?_
    refine sw_callVL (ci := 6) (as := []) (st := [.int (nI B)]) (st2 := [.int (nI B), .int (nI B)]) O (ct_AL_size hl (lm_5002 (σ := σ) (B := B) hB (by omega))) ce_Jx4a65c_size_8abf5 ml_X14_57 iv_Jx4a65c_size_8abf5 cl_Jx4a65c rfl (lm_5002 (σ := σ) (B := B) hB (by omega)) (xx_dt dd_X14_digest 87 rfl) (by decide) rfl rfl (Nat.le_of_ble_eq_true rfl) rfl ?_
    refine sw_icmp_ge (tgt := 327) O (xx_dt dd_X14_digest 88 rfl) (by decide) (fun _ => ?_) (fun q => absurd (Int32.le_refl _) q)
    exact kk
theorem nI_prd1 {a : Nat} (ha : 0 < a) : nI a - 1 = nI (a - 1) := by
  obtain ⟨b, rfl⟩ : ∃ b, a = b + 1 := ⟨a - 1, by omega⟩
  rw [nI_s1]
  rfl
def x_dig_361 (σ : XS9) (R B K : Nat) (y0 : Int64) : Int64 := xit (fun i361 y361 => (y361 * 31) + (Int32.toInt64 (σ (6000 + (K - 1)) i361))) R 0 y0
def x_dig_395 (σ : XS9) (R B K : Nat) (y0 : Int64) : Int64 := xit (fun i395 y395 => (y395 * 31) + (Int32.toInt64 (σ (6100 + (K - 1)) i395))) B 0 y0
def x_digC (σ : XS9) (R B K : Nat) (y0 : Int64) : Int64 := if K = 0 then y0 else x_dig_395 σ R B K (x_dig_361 σ R B K y0)
theorem dgC {Y : XY} {l : Launch} {h : XH} (O : xx_O Y m_X14_digest l 22) (hl : l.stackTraces = false) {z : Int64} {σ : XS9} (hbs : xx_bs h) {R : Nat} (hR : σ 5001 900 = nI R) (hR5 : R ≤ 5) {B : Nat} (hB : σ 5002 900 = nI B) (hB6 : B ≤ 6) {K : Nat} (hK : σ 5003 900 = nI K) (hK60 : K ≤ 60) {k n : Nat} (kk : SW Y k n (setM (x_digC σ R B K z) σ h) 426 [.ref 5000, xx_d, xx_d, xx_d, xx_d, xx_d] []) : SW Y k n (setM z σ h) 327 [.ref 5000, xx_d, xx_d, xx_d, xx_d, xx_d] [] := by
  unfold x_digC at kk
  refine sw_aload_n O (xx_dt dd_X14_digest 168 rfl) rfl ?_
  refine sw_get (v := .ref 5003) O (xx_dt dd_X14_digest 169 rfl) cl_X14 fl_X14_30 (lm_mod (σ := σ)) (by decide) rfl ?_
  refine sw_callVL (ci := 6) (as := []) (st := []) (st2 := [.int (bZ (K = 0))]) O (ct_AL_isEmpty hl (lm_5003 (σ := σ) (K := K) hK (by omega)) (by omega)) ce_Jx4a65c_isEmpty_aae02 ml_X14_133 iv_Jx4a65c_isEmpty_aae02 cl_Jx4a65c rfl (lm_5003 (σ := σ) (K := K) hK (by omega)) (xx_dt dd_X14_digest 170 rfl) (by decide) rfl rfl (Nat.le_of_ble_eq_true rfl) rfl ?_
  refine sw_if_neB (tgt := 426) O (xx_dt dd_X14_digest 171 rfl) (by decide) (fun q => ?_) (fun q => ?_)
  · rw [if_pos q] at kk
    exact kk
  · rw [if_neg q] at kk
    refine sw_aload_n O (xx_dt dd_X14_digest 172 rfl) rfl ?_
    refine sw_get (v := .ref 5003) O (xx_dt dd_X14_digest 173 rfl) cl_X14 fl_X14_30 (lm_mod (σ := σ)) (by decide) rfl ?_
    refine sw_aload_n O (xx_dt dd_X14_digest 174 rfl) rfl ?_
    refine sw_get (v := .ref 5003) O (xx_dt dd_X14_digest 175 rfl) cl_X14 fl_X14_30 (lm_mod (σ := σ)) (by decide) rfl ?_
    refine sw_callVL (ci := 6) (as := []) (st := [.ref 5003]) (st2 := [.int (nI K), .ref 5003]) O (ct_AL_size hl (lm_5003 (σ := σ) (K := K) hK (by omega))) ce_Jx4a65c_size_8abf5 ml_X14_57 iv_Jx4a65c_size_8abf5 cl_Jx4a65c rfl (lm_5003 (σ := σ) (K := K) hK (by omega)) (xx_dt dd_X14_digest 176 rfl) (by decide) rfl rfl (Nat.le_of_ble_eq_true rfl) rfl ?_
    refine sw_iconst (x := 1) O (xx_dt dd_X14_digest 177 rfl) (by decide) ?_
    refine sw_isub O (xx_dt dd_X14_digest 178 rfl) ?_
    have hx349 := trivial
    rw [nI_prd1 (by omega)]
    refine sw_callVL (ci := 6) (as := [.int (nI ((K - 1)))]) (st := []) (st2 := [.ref (5200 + (K - 1))]) O (ct_get hl hbs (lm_5003 (σ := σ) (K := K) hK (by omega)) (by omega) (i := (K - 1)) (x := 5200 + (K - 1)) (by omega) (by omega) rfl) ce_Jx4a65c_get_915e3 ml_X14_61 iv_Jx4a65c_get_915e3 cl_Jx4a65c rfl (lm_5003 (σ := σ) (K := K) hK (by omega)) (xx_dt dd_X14_digest 179 rfl) (by decide) rfl rfl (Nat.le_of_ble_eq_true rfl) rfl ?_
    refine sw_castO O (xx_dt dd_X14_digest 180 rfl) cl_X13 (lm_rnd (σ := σ) (K := K) hK (by omega) (j := (K - 1)) (by omega)) cw_X14_172 ?_
    refine sw_astore (ls2 := [.ref 5000, xx_d, xx_d, xx_d, .ref (5200 + (K - 1)), xx_d]) O (xx_dt dd_X14_digest 181 rfl) (by decide) rfl ?_
    refine sw_iconst (x := 0) O (xx_dt dd_X14_digest 182 rfl) (by decide) ?_
    refine sw_istore (ls2 := [.ref 5000, xx_d, xx_d, xx_d, .ref (5200 + (K - 1)), .int 0]) O (xx_dt dd_X14_digest 183 rfl) (by decide) rfl ?_
    refine sw_for (S := Int64) (fun i361 y361 => (y361 * 31) + (Int32.toInt64 (σ (6000 + (K - 1)) i361))) (fun _ _ => True) (hp := fun y => setM y σ h) (hd := 361) (lc := fun i361 _ => [.ref 5000, xx_d, xx_d, xx_d, .ref (5200 + (K - 1)), .int (nI i361)]) (N := R) (fun i361 y361 hi361 _ => ⟨trivial, fun kk361 => ?_⟩) R 0 z (by omega) trivial (fun _ => ?_)
    · refine sw_iload O (xx_dt dd_X14_digest 184 rfl) rfl ?_
      refine sw_aload_n O (xx_dt dd_X14_digest 185 rfl) rfl ?_
      refine sw_get (v := .ref 5001) O (xx_dt dd_X14_digest 186 rfl) cl_X14 fl_X14_23 (lm_mod (σ := σ)) (by decide) rfl ?_
      refine sw_callVL (ci := 6) (as := []) (st := [.int (nI i361)]) (st2 := [.int (nI R), .int (nI i361)]) O (ct_AL_size hl (lm_5001 (σ := σ) (R := R) hR (by omega))) ce_Jx4a65c_size_8abf5 ml_X14_57 iv_Jx4a65c_size_8abf5 cl_Jx4a65c rfl (lm_5001 (σ := σ) (R := R) hR (by omega)) (xx_dt dd_X14_digest 187 rfl) (by decide) rfl rfl (Nat.le_of_ble_eq_true rfl) rfl ?_
      refine sw_icmp_ge (tgt := 392) O (xx_dt dd_X14_digest 188 rfl) (by decide) (fun q => absurd q (nI_ge (b := R) hi361 (by omega))) (fun _ => ?_)
      refine sw_aload_n O (xx_dt dd_X14_digest 189 rfl) rfl ?_
      refine sw_aload O (xx_dt dd_X14_digest 190 rfl) rfl ?_
      refine sw_get (v := .ref (6000 + (K - 1))) O (xx_dt dd_X14_digest 191 rfl) cl_X13 fl_X14_183 (lm_rnd (σ := σ) (K := K) hK (by omega) (j := (K - 1)) (by omega)) (by decide) (congrArg Value.ref (show 5200 + (K - 1) + 700 + 100 * 1 = 6000 + (K - 1) by omega)) ?_
      refine sw_iload O (xx_dt dd_X14_digest 192 rfl) rfl ?_
      refine sw_iaload (v := .int (σ (6000 + (K - 1)) i361)) O (xx_dt dd_X14_digest 193 rfl) ((im_rpr (z := y361) (σ := σ) (R := R) hR (by omega) (K := K) hK (by omega) (j := (K - 1)) (by omega)).get _) (pk_in i361 _ (by omega)) (by rw [nI_clamp (by omega)]; try exact rfl) ?_
      refine sw_i2l O (xx_dt dd_X14_digest 194 rfl) ?_
      refine sw_callVx (as := [.long (Int32.toInt64 (σ (6000 + (K - 1)) i361))]) (st := []) (st2 := []) O (ct_X14_add hl (z := y361) (σ := σ) (v := Int32.toInt64 (σ (6000 + (K - 1)) i361))) ce_X14_add ml_X14_415 iv_X14_add cl_X14 rfl (lm_mod (σ := σ)) (xx_dt dd_X14_digest 195 rfl) (by decide) rfl rfl (Nat.le_of_ble_eq_true rfl) rfl ?_
      refine sw_iinc (y := nI (i361 + 1)) (ls2 := [.ref 5000, xx_d, xx_d, xx_d, .ref (5200 + (K - 1)), .int (nI (i361 + 1))]) O (xx_dt dd_X14_digest 196 rfl) rfl (nI_1 _) (by decide) rfl ?_
      refine sw_goto (tgt := 361) O (xx_dt dd_X14_digest 197 rfl) (by decide) ?_
      exact kk361
    · show SW Y _ _ (setM (x_dig_361 σ R B K z) σ h) 361 [.ref 5000, xx_d, xx_d, xx_d, .ref (5200 + (K - 1)), .int (nI R)] []
      refine sw_iload O (xx_dt dd_X14_digest 184 rfl) rfl ?_
      refine sw_aload_n O (xx_dt dd_X14_digest 185 rfl) rfl ?_
      refine sw_get (v := .ref 5001) O (xx_dt dd_X14_digest 186 rfl) cl_X14 fl_X14_23 (lm_mod (σ := σ)) (by decide) rfl ?_
      refine sw_callVL (ci := 6) (as := []) (st := [.int (nI R)]) (st2 := [.int (nI R), .int (nI R)]) O (ct_AL_size hl (lm_5001 (σ := σ) (R := R) hR (by omega))) ce_Jx4a65c_size_8abf5 ml_X14_57 iv_Jx4a65c_size_8abf5 cl_Jx4a65c rfl (lm_5001 (σ := σ) (R := R) hR (by omega)) (xx_dt dd_X14_digest 187 rfl) (by decide) rfl rfl (Nat.le_of_ble_eq_true rfl) rfl ?_
      refine sw_icmp_ge (tgt := 392) O (xx_dt dd_X14_digest 188 rfl) (by decide) (fun _ => ?_) (fun q => absurd (Int32.le_refl _) q)
      refine sw_iconst (x := 0) O (xx_dt dd_X14_digest 198 rfl) (by decide) ?_
      refine sw_istore (ls2 := [.ref 5000, xx_d, xx_d, xx_d, .ref (5200 + (K - 1)), .int 0]) O (xx_dt dd_X14_digest 199 rfl) (by decide) rfl ?_
      refine sw_for (S := Int64) (fun i395 y395 => (y395 * 31) + (Int32.toInt64 (σ (6100 + (K - 1)) i395))) (fun _ _ => True) (hp := fun y => setM y σ h) (hd := 395) (lc := fun i395 _ => [.ref 5000, xx_d, xx_d, xx_d, .ref (5200 + (K - 1)), .int (nI i395)]) (N := B) (fun i395 y395 hi395 _ => ⟨trivial, fun kk395 => ?_⟩) B 0 (x_dig_361 σ R B K z) (by omega) trivial (fun _ => ?_)
      · refine sw_iload O (xx_dt dd_X14_digest 200 rfl) rfl ?_
        refine sw_aload_n O (xx_dt dd_X14_digest 201 rfl) rfl ?_
        refine sw_get (v := .ref 5002) O (xx_dt dd_X14_digest 202 rfl) cl_X14 fl_X14_27 (lm_mod (σ := σ)) (by decide) rfl ?_
        refine sw_callVL (ci := 6) (as := []) (st := [.int (nI i395)]) (st2 := [.int (nI B), .int (nI i395)]) O (ct_AL_size hl (lm_5002 (σ := σ) (B := B) hB (by omega))) ce_Jx4a65c_size_8abf5 ml_X14_57 iv_Jx4a65c_size_8abf5 cl_Jx4a65c rfl (lm_5002 (σ := σ) (B := B) hB (by omega)) (xx_dt dd_X14_digest 203 rfl) (by decide) rfl rfl (Nat.le_of_ble_eq_true rfl) rfl ?_
        refine sw_icmp_ge (tgt := 426) O (xx_dt dd_X14_digest 204 rfl) (by decide) (fun q => absurd q (nI_ge (b := B) hi395 (by omega))) (fun _ => ?_)
        refine sw_aload_n O (xx_dt dd_X14_digest 205 rfl) rfl ?_
        refine sw_aload O (xx_dt dd_X14_digest 206 rfl) rfl ?_
        refine sw_get (v := .ref (6100 + (K - 1))) O (xx_dt dd_X14_digest 207 rfl) cl_X13 fl_X14_184 (lm_rnd (σ := σ) (K := K) hK (by omega) (j := (K - 1)) (by omega)) (by decide) (congrArg Value.ref (show 5200 + (K - 1) + 700 + 100 * 2 = 6100 + (K - 1) by omega)) ?_
        refine sw_iload O (xx_dt dd_X14_digest 208 rfl) rfl ?_
        refine sw_iaload (v := .int (σ (6100 + (K - 1)) i395)) O (xx_dt dd_X14_digest 209 rfl) ((im_rwi (z := y395) (σ := σ) (K := K) hK (by omega) (j := (K - 1)) (by omega)).get _) (pk_in i395 _ (by omega)) (by rw [nI_clamp (by omega)]; try exact rfl) ?_
        refine sw_i2l O (xx_dt dd_X14_digest 210 rfl) ?_
        refine sw_callVx (as := [.long (Int32.toInt64 (σ (6100 + (K - 1)) i395))]) (st := []) (st2 := []) O (ct_X14_add hl (z := y395) (σ := σ) (v := Int32.toInt64 (σ (6100 + (K - 1)) i395))) ce_X14_add ml_X14_415 iv_X14_add cl_X14 rfl (lm_mod (σ := σ)) (xx_dt dd_X14_digest 211 rfl) (by decide) rfl rfl (Nat.le_of_ble_eq_true rfl) rfl ?_
        refine sw_iinc (y := nI (i395 + 1)) (ls2 := [.ref 5000, xx_d, xx_d, xx_d, .ref (5200 + (K - 1)), .int (nI (i395 + 1))]) O (xx_dt dd_X14_digest 212 rfl) rfl (nI_1 _) (by decide) rfl ?_
        refine sw_goto (tgt := 395) O (xx_dt dd_X14_digest 213 rfl) (by decide) ?_
        exact kk395
      · show SW Y _ _ (setM (x_dig_395 σ R B K (x_dig_361 σ R B K z)) σ h) 395 [.ref 5000, xx_d, xx_d, xx_d, .ref (5200 + (K - 1)), .int (nI B)] []
        refine sw_iload O (xx_dt dd_X14_digest 200 rfl) rfl ?_
        refine sw_aload_n O (xx_dt dd_X14_digest 201 rfl) rfl ?_
        refine sw_get (v := .ref 5002) O (xx_dt dd_X14_digest 202 rfl) cl_X14 fl_X14_27 (lm_mod (σ := σ)) (by decide) rfl ?_
        refine sw_callVL (ci := 6) (as := []) (st := [.int (nI B)]) (st2 := [.int (nI B), .int (nI B)]) O (ct_AL_size hl (lm_5002 (σ := σ) (B := B) hB (by omega))) ce_Jx4a65c_size_8abf5 ml_X14_57 iv_Jx4a65c_size_8abf5 cl_Jx4a65c rfl (lm_5002 (σ := σ) (B := B) hB (by omega)) (xx_dt dd_X14_digest 203 rfl) (by decide) rfl rfl (Nat.le_of_ble_eq_true rfl) rfl ?_
        refine sw_icmp_ge (tgt := 426) O (xx_dt dd_X14_digest 204 rfl) (by decide) (fun _ => ?_) (fun q => absurd (Int32.le_refl _) q)
        refine sw_dum (ls2 := [.ref 5000, xx_d, xx_d, xx_d, xx_d, xx_d]) ⟨.inr rfl, .inr rfl, .inr rfl, .inr rfl, .inl rfl, .inl rfl, trivial⟩ ?_
        exact kk
theorem ct_clearNow {l : Launch} {h : XH} (hl : l.stackTraces = false) {z : Int64} {σ : XS9} (hbs : xx_bs h) (hfr : ∀ r, 5000 ≤ r → r < 20010 → h r = none) (hme : mem_eq σ σ) {R : Nat} (hR : σ 5001 900 = nI R) (hR5 : R ≤ 5) {C : Nat} (hS : σ 5004 900 = nI (2 * C)) (hC10 : C ≤ 10) {rg : Nat → Nat} (hrg : ∀ q, q < C → σ 5004 (2 * q) = nI (rg q) ∧ rg q < R) {ch : Nat} (hch : ch ≤ 6) : XEx l m_X14_clearNow 18 1 6 [.ref 5000, .int (nI ch)] (setM z σ h) (some (.int (f_MclearNow σ ch R C rg))) (setM z σ h) := by
  have t := ct_X14_clearNow hl (z := z) (σ := σ) hbs hfr hme hR hR5 hS hC10 hrg hch
  have e20 : g_MclearNow σ ch R C rg 20000 20 = 0 := by unfold g_MclearNow; exact u2_v
  have F : ∀ q, q ≠ 20000 → g_MclearNow σ ch R C rg q = σ q := fun q hq => fr_MclearNow ⟨hq, hch⟩
  rwa [setM_same (σ := σ) (τ := g_MclearNow σ ch R C rg) (mem_eq.frame (τ0 := σ) hme (fun q _ h2 _ => F q (by omega)) (by rw [F 9000 (by omega)]; exact hme.2.1.1.1) (fun q h1 h2 => by
    by_cases e : q = 20000
    · rw [e]; exact e20
    · rw [F q e]; exact (hme.2.2 q h1 h2).1)) (fun q _ h2 => F q (by omega))] at t
def x_digD (σ : XS9) (R C : Nat) (rg : Nat → Nat) (y0 : Int64) : Int64 := if 2 * C = 0 then y0 else (((y0 * 31) + (Int32.toInt64 (f_MclearNow σ 1 R C rg))) * 31) + (Int32.toInt64 (f_MclearNow σ 2 R C rg))
theorem dgD {Y : XY} {l : Launch} {h : XH} (O : xx_O Y m_X14_digest l 22) (hl : l.stackTraces = false) {z : Int64} {σ : XS9} (hbs : xx_bs h) (hfr : ∀ r, 5000 ≤ r → r < 20010 → h r = none) (hme : mem_eq σ σ) {R : Nat} (hR : σ 5001 900 = nI R) (hR5 : R ≤ 5) {C : Nat} (hS : σ 5004 900 = nI (2 * C)) (hC10 : C ≤ 10) {rg : Nat → Nat} (hrg : ∀ q, q < C → σ 5004 (2 * q) = nI (rg q) ∧ rg q < R) {k n : Nat} (kk : SW Y k n (setM (x_digD σ R C rg z) σ h) 456 [.ref 5000, xx_d, xx_d, xx_d, xx_d, xx_d] []) : SW Y (k + 2) (n + 12) (setM z σ h) 426 [.ref 5000, xx_d, xx_d, xx_d, xx_d, xx_d] [] := by
  unfold x_digD at kk
  obtain ⟨kT, ekT⟩ : ∃ q, q = k + 2 := ⟨_, rfl⟩
  obtain ⟨nT, enT⟩ : ∃ q, q = n + 12 := ⟨_, rfl⟩
  refine xx_wid (k' := kT) (n' := nT) (by omega) (by omega) ?_
  refine sw_aload_n O (xx_dt dd_X14_digest 214 rfl) rfl ?_
  refine sw_get (v := .ref 5004) O (xx_dt dd_X14_digest 215 rfl) cl_X14 fl_X14_33 (lm_mod (σ := σ)) (by decide) rfl ?_
  refine sw_callVL (ci := 6) (as := []) (st := []) (st2 := [.int (bZ (2 * C = 0))]) O (ct_AL_isEmpty hl (lm_5004 (σ := σ) (S := 2 * C) hS (by omega)) (by omega)) ce_Jx4a65c_isEmpty_aae02 ml_X14_133 iv_Jx4a65c_isEmpty_aae02 cl_Jx4a65c rfl (lm_5004 (σ := σ) (S := 2 * C) hS (by omega)) (xx_dt dd_X14_digest 216 rfl) (by decide) rfl rfl (Nat.le_of_ble_eq_true rfl) rfl ?_
  refine sw_if_neB (tgt := 456) O (xx_dt dd_X14_digest 217 rfl) (by decide) (fun q => ?_) (fun q => ?_)
  · rw [if_pos q] at kk
    refine xx_wid (k' := k) (n' := n) (by omega) (by omega) ?_
    exact kk
  · rw [if_neg q] at kk
    refine xx_wid (k' := (k + 1) + 1) (n' := (n + 6) + 6) (by omega) (by omega) ?_
    refine sw_aload_n O (xx_dt dd_X14_digest 218 rfl) rfl ?_
    refine sw_aload_n O (xx_dt dd_X14_digest 219 rfl) rfl ?_
    refine sw_iconst (x := 1) O (xx_dt dd_X14_digest 220 rfl) (by decide) ?_
    refine sw_callVx (k := k + 1) (n := n + 6) (k' := 1) (n' := 6) (as := [.int 1]) (st := [.ref 5000]) (st2 := [.int (f_MclearNow σ 1 R C rg), .ref 5000]) O ((show XEx _ _ _ _ _ [_, .int 1] _ _ _ from ct_clearNow hl (z := z) (σ := σ) hbs hfr hme (R := R) hR (by omega) (C := C) hS (by omega) (rg := rg) hrg (ch := 1) (by omega))) ce_X14_clearNow ml_X14_287 iv_X14_clearNow cl_X14 rfl (lm_mod (σ := σ)) (xx_dt dd_X14_digest 221 rfl) (by decide) rfl rfl (Nat.le_of_ble_eq_true rfl) rfl ?_
    obtain ⟨kT, ekT⟩ : ∃ q, q = k + 1 := ⟨_, rfl⟩
    obtain ⟨nT, enT⟩ : ∃ q, q = n + 6 := ⟨_, rfl⟩
    refine xx_wid (k' := kT) (n' := nT) (by omega) (by omega) ?_
    refine sw_i2l O (xx_dt dd_X14_digest 222 rfl) ?_
    refine sw_callVx (as := [.long (Int32.toInt64 (f_MclearNow σ 1 R C rg))]) (st := []) (st2 := []) O (ct_X14_add hl (z := z) (σ := σ) (v := Int32.toInt64 (f_MclearNow σ 1 R C rg))) ce_X14_add ml_X14_415 iv_X14_add cl_X14 rfl (lm_mod (σ := σ)) (xx_dt dd_X14_digest 223 rfl) (by decide) rfl rfl (Nat.le_of_ble_eq_true rfl) rfl ?_
    refine sw_aload_n O (xx_dt dd_X14_digest 224 rfl) rfl ?_
    refine sw_aload_n O (xx_dt dd_X14_digest 225 rfl) rfl ?_
    refine sw_iconst (x := 2) O (xx_dt dd_X14_digest 226 rfl) (by decide) ?_
    refine xx_wid (k' := k + 1) (n' := n + 6) (by omega) (by omega) ?_
    refine sw_callVx (k := k) (n := n) (k' := 1) (n' := 6) (as := [.int 2]) (st := [.ref 5000]) (st2 := [.int (f_MclearNow σ 2 R C rg), .ref 5000]) O ((show XEx _ _ _ _ _ [_, .int 2] _ _ _ from ct_clearNow hl (z := (z * 31) + (Int32.toInt64 (f_MclearNow σ 1 R C rg))) (σ := σ) hbs hfr hme (R := R) hR (by omega) (C := C) hS (by omega) (rg := rg) hrg (ch := 2) (by omega))) ce_X14_clearNow ml_X14_287 iv_X14_clearNow cl_X14 rfl (lm_mod (σ := σ)) (xx_dt dd_X14_digest 227 rfl) (by decide) rfl rfl (Nat.le_of_ble_eq_true rfl) rfl ?_
    refine sw_i2l O (xx_dt dd_X14_digest 228 rfl) ?_
    refine sw_callVx (as := [.long (Int32.toInt64 (f_MclearNow σ 2 R C rg))]) (st := []) (st2 := []) O (ct_X14_add hl (z := (z * 31) + (Int32.toInt64 (f_MclearNow σ 1 R C rg))) (σ := σ) (v := Int32.toInt64 (f_MclearNow σ 2 R C rg))) ce_X14_add ml_X14_415 iv_X14_add cl_X14 rfl (lm_mod (σ := σ)) (xx_dt dd_X14_digest 229 rfl) (by decide) rfl rfl (Nat.le_of_ble_eq_true rfl) rfl ?_
    exact kk
def x_digE (v : Int32) (y0 : Int64) : Int64 := if v = 0 then (y0 * 31) + (Int64.ofNat (0 : Fin 2)) else (y0 * 31) + (Int64.ofNat (1 : Fin 2))
theorem dgE {Y : XY} {l : Launch} {h : XH} (O : xx_O Y m_X14_digest l 22) (hl : l.stackTraces = false) {z : Int64} {σ : XS9} {v : Int32} (hs : ∀ y, XEx l m_X14_isSoundNow 12 495 8668 [.ref 5000] (setM y σ h) (some (.int v)) (setM y σ h)) (hq : xy_Q Y (.inl (some (.long (x_digE v z)))) (setM (x_digE v z) σ h)) : SW Y 495 8668 (setM z σ h) 456 [.ref 5000, xx_d, xx_d, xx_d, xx_d, xx_d] [] := by
  refine sw_aload_n O (xx_dt dd_X14_digest 230 rfl) rfl ?_
  refine sw_aload_n O (xx_dt dd_X14_digest 231 rfl) rfl ?_
  refine xx_wid (k' := 0 + 495) (n' := 0 + 8668) (by omega) (by omega) ?_
  refine sw_callVx (k := 0) (n := 0) (k' := 495) (n' := 8668) (as := []) (st := [.ref 5000]) (st2 := [.int v, .ref 5000]) O (hs _) ce_X14_isSoundNow ml_X14_404 iv_X14_isSoundNow cl_X14 rfl (lm_mod (σ := σ)) (xx_dt dd_X14_digest 232 rfl) (by decide) rfl rfl (Nat.le_of_ble_eq_true rfl) rfl ?_
  refine sw_if_eq (tgt := 468) O (xx_dt dd_X14_digest 233 rfl) (by decide) (fun q => ?_) (fun q => ?_)
  · refine sw_lconst O (xx_dt dd_X14_digest 236 rfl) ?_
    refine sw_callVx (as := [.long (Int64.ofNat (0 : Fin 2))]) (st := []) (st2 := []) O (ct_X14_add hl (z := z) (σ := σ) (v := Int64.ofNat (0 : Fin 2))) ce_X14_add ml_X14_415 iv_X14_add cl_X14 rfl (lm_mod (σ := σ)) (xx_dt dd_X14_digest 237 rfl) (by decide) rfl rfl (Nat.le_of_ble_eq_true rfl) rfl ?_
    refine sw_aload_n O (xx_dt dd_X14_digest 238 rfl) rfl ?_
    refine sw_get (v := .long ((z * 31) + (Int64.ofNat (0 : Fin 2)))) O (xx_dt dd_X14_digest 239 rfl) cl_X14 fl_X14_407 (lm_mod (σ := σ)) (by decide) rfl ?_
    exact sw_lret O (xx_dt dd_X14_digest 240 rfl) rfl (by unfold x_digE at hq; rw [if_pos q] at hq; exact hq)
  · refine sw_lconst O (xx_dt dd_X14_digest 234 rfl) ?_
    refine sw_goto (tgt := 469) O (xx_dt dd_X14_digest 235 rfl) (by decide) ?_
    refine sw_callVx (as := [.long (Int64.ofNat (1 : Fin 2))]) (st := []) (st2 := []) O (ct_X14_add hl (z := z) (σ := σ) (v := Int64.ofNat (1 : Fin 2))) ce_X14_add ml_X14_415 iv_X14_add cl_X14 rfl (lm_mod (σ := σ)) (xx_dt dd_X14_digest 237 rfl) (by decide) rfl rfl (Nat.le_of_ble_eq_true rfl) rfl ?_
    refine sw_aload_n O (xx_dt dd_X14_digest 238 rfl) rfl ?_
    refine sw_get (v := .long ((z * 31) + (Int64.ofNat (1 : Fin 2)))) O (xx_dt dd_X14_digest 239 rfl) cl_X14 fl_X14_407 (lm_mod (σ := σ)) (by decide) rfl ?_
    exact sw_lret O (xx_dt dd_X14_digest 240 rfl) rfl (by unfold x_digE at hq; rw [if_neg q] at hq; exact hq)
end
section
/-! ===== the reference: digest, whole ===== -/
theorem dom_z {z y : Int64} {σ : XS9} {h : XH} {r : Nat} (hr : (setM z σ h r).isSome = true) : (setM y σ h r).isSome = true := by
  by_cases a : r = 5000
  · rw [a, lm_mod]; rfl
  · unfold setM at hr ⊢
    rw [lyQ_z (z := y) (y := z) a]
    exact hr
theorem mem_S1 {σ : XS9} (hme : mem_eq σ σ) : mem_eq σ (u2 σ 5000 0 0) := mem_eq.int (r := 5000) (i := 0) (x := 0) hme rfl
def y_digB (σ : XS9) (R B : Nat) (pk gr : Nat → Nat) (cd : Nat → Nat → Nat) (K C : Nat) (g : Nat) (tn sp : Nat → Nat) (rg : Nat → Nat) : Int64 := x_digB (g_Cpay (g_Cpay (g_Cinit (u2 σ 5000 0 0) R B pk gr cd) 1 20005 B) 2 20006 B) R B K C pk g tn sp (x_digA (g_Cinit (u2 σ 5000 0 0) R B pk gr cd) R B K C pk g tn sp 58282)
def f_Mdigest (σ : XS9) (R B : Nat) (pk gr : Nat → Nat) (cd : Nat → Nat → Nat) (K C : Nat) (g : Nat) (tn sp : Nat → Nat) (rg : Nat → Nat) (v : Int32) : Int64 := x_digE v (x_digD (u2 σ 5000 0 0) R C rg (x_digC (u2 σ 5000 0 0) R B K (y_digB σ R B pk gr cd K C g tn sp rg)))
theorem ct_X14_digest {l : Launch} {h : XH} (hl : l.stackTraces = false) {z : Int64} {σ : XS9} (hbs : xx_bs h) (htl : xx_tl h) (hf4 : ∀ q, 20100 ≤ q → q < 20108 → h q = none) (hfr : ∀ r, 5000 ≤ r → r < 20010 → h r = none) (hme : mem_eq σ σ) {R : Nat} (hR : σ 5001 900 = nI R) (hR5 : R ≤ 5) {B : Nat} (hB : σ 5002 900 = nI B) (hB6 : B ≤ 6) {pk : Nat → Nat} (hpk : ∀ j, j < B → σ (5030 + j) 900 = nI (2 * pk j) ∧ pk j ≤ 6) {gr : Nat → Nat} (hgr : ∀ j, j < B → σ (5020 + j) 3 = nI (gr j) ∧ gr j < 4) {cd : Nat → Nat → Nat} (hcd : ∀ j k, j < B → k < pk j → σ (5030 + j) (2 * k) = nI (cd j k) ∧ cd j k < 7776) {K : Nat} (hK : σ 5003 900 = nI K) (hK60 : K ≤ 60) {C : Nat} (hS : σ 5004 900 = nI (2 * C)) (hC10 : C ≤ 10) (hfl : σ 7000 25 = nI 0 ∨ (σ 7000 25 = nI 1 ∧ σ 7000 20 = nI 1)) {g : Nat} (hg : σ 7000 23 = nI g) (hg1 : g < 200) {w : Nat} (hw : σ 7000 24 = nI w) (hw1 : w < 200) (hkp : σ 5000 1 = 3 → ∀ j, j < B → σ 5005 j = -1 ∨ ∃ n, n < pk j ∧ σ 5005 j = nI n) {tn : Nat → Nat} (htn : ∀ r, r < 5 → σ 5007 r = nI (tn r) ∧ tn r < 6) {sp : Nat → Nat} (hsp : ∀ r, r < R → σ (5010 + r) 0 = nI (sp r) ∧ sp r ≤ 5) {rg : Nat → Nat} (hrg : ∀ q, q < C → σ 5004 (2 * q) = nI (rg q) ∧ rg q < R) (hho : ∀ i s, i < R → s < sp i → f_MholderNow (g_Cinit (u2 σ 5000 0 0) R B pk gr cd) i (nI s) B tn = -1 ∨ n_lt (f_MholderNow (g_Cinit (u2 σ 5000 0 0) R B pk gr cd) i (nI s) B tn) 6) (hpi : ∀ j, j < B → (g_Cinit (u2 σ 5000 0 0) R B pk gr cd) 9001 j = -1 ∨ ∃ n, n < pk j ∧ (g_Cinit (u2 σ 5000 0 0) R B pk gr cd) 9001 j = nI n) (hterm : ∃ r, xitR (p2_step 20006 B) 20000000 0 (g_Cpay20 (g_Cpay (g_Cinit (u2 σ 5000 0 0) R B pk gr cd) 1 20005 B) 20006 B) = .inr r) {v : Int32} (hs : ∀ y, XEx l m_X14_isSoundNow 12 495 8668 [.ref 5000] (setM y (u2 σ 5000 0 0) h) (some (.int v)) (setM y (u2 σ 5000 0 0) h)) : XEx l m_X14_digest 22 625 9590 [.ref 5000] (setM z σ h) (some (.long (f_Mdigest σ R B pk gr cd K C g tn sp rg v))) (setM (f_Mdigest σ R B pk gr cd K C g tn sp rg v) (u2 σ 5000 0 0) h) := by
  refine XMet.of hl rfl rfl (Nat.le_of_ble_eq_true rfl) (fun Y O hh hQ => ?_)
  show SW Y 625 9590 (setM z σ h) 0 [.ref 5000, xx_d, xx_d, xx_d, xx_d, xx_d] []
  refine sw_cls (fun hcl => ?_)
  refine sw_aload_n O (xx_dt dd_X14_digest 0 rfl) rfl ?_
  refine sw_iconst (x := 0) O (xx_dt dd_X14_digest 1 rfl) (by decide) ?_
  refine sw_put (h2 := setM z (u2 σ 5000 0 0) h) O (xx_dt dd_X14_digest 2 rfl) cl_X14 fl_X14_46 (lm_mod (σ := σ)) (by decide) (by omega) rfl (fun _ => ⟨rfl, rfl⟩) (pm_mod (σ := σ) (by omega)) ?_
  refine sw_new (k := 624) (n := 9583) (r := 9000) O (xx_dt dd_X14_digest 3 rfl) cl_X10 nw_X14_218 ((setM_c0 (z := z) (σ := u2 σ 5000 0 0) hme.2.1.1.1 (by omega)).trans (hfr 9000 (by omega) (by omega))) (by omega) ?_
  rw [xx_blk_up]
  refine sw_dup O (xx_dt dd_X14_digest 4 rfl) rfl ?_
  refine sw_aload_n O (xx_dt dd_X14_digest 5 rfl) rfl ?_
  refine sw_callIx (k := 619) (n := 9482) (k' := 5) (n' := 101) (as := [.ref 5000]) (st := [.ref 9000]) (st2 := [.ref 9000]) O (ct_X10_init hl (z := z) (σ := u2 σ 5000 0 0) hbs hfr hme.2.1.1.1 (R := R) hR (by omega) (B := B) hB (by omega) (pk := pk) (gr := gr) (cd := cd) (fun j9 hj9 => by rw [(u2_ne (by omega))]; exact hpk j9 hj9) (fun j9 hj9 => by rw [show (u2 σ 5000 0 0) (5020 + j9) 3 = σ (5020 + j9) 3 from (congrFun (u2_ne (by omega)) 3)]; exact hgr j9 hj9) (fun j9 k9 hj9 hk9 => by rw [(u2_ne (by omega))]; exact hcd j9 k9 hj9 hk9)) ce_X10_init ml_X14_220 ii_X10_init (xx_dt dd_X14_digest 6 rfl) (by decide) rfl rfl (Nat.le_of_ble_eq_true rfl) rfl ?_
  refine sw_astore_n (ls2 := [.ref 5000, .ref 9000, xx_d, xx_d, xx_d, xx_d]) O (xx_dt dd_X14_digest 7 rfl) (by decide) rfl ?_
  refine sw_aload_n O (xx_dt dd_X14_digest 8 rfl) rfl ?_
  refine sw_ldc2 O ct_X14_413 (xx_dt dd_X14_digest 9 rfl) ?_
  refine sw_put (h2 := setM (58282) (g_Cinit (u2 σ 5000 0 0) R B pk gr cd) h) O (xx_dt dd_X14_digest 10 rfl) cl_X14 fl_X14_407 (lm_mod (σ := g_Cinit (u2 σ 5000 0 0) R B pk gr cd)) (by decide) (by omega) rfl (fun _ => ⟨rfl, rfl⟩) pm_sum ?_
  refine sw_cls (fun hclM => ?_)
  refine sw_dom (fun hdom => ?_)
  refine xx_wid (k' := (499 : Nat) + 120) (n' := (8692 : Nat) + 790) (by omega) (by omega) ?_
  refine dgA O hl (σ := g_Cinit (u2 σ 5000 0 0) R B pk gr cd) hbs htl hf4 (R := R) ((congrFun (fr_Cinit (by omega)) 900).trans hR) (by omega) (B := B) ((congrFun (fr_Cinit (by omega)) 900).trans hB) (by omega) (K := K) ((congrFun (fr_Cinit (by omega)) 900).trans hK) (by omega) (C := C) ((congrFun (fr_Cinit (by omega)) 900).trans hS) (by omega) (pk := pk) (fun j9 hj9 => by rw [show (g_Cinit (u2 σ 5000 0 0) R B pk gr cd) (5030 + j9) 900 = σ (5030 + j9) 900 from ((congrFun (fr_Cinit (by omega)) 900).trans (congrFun (u2_ne (by omega)) 900))]; exact hpk j9 hj9) (by rw [show (g_Cinit (u2 σ 5000 0 0) R B pk gr cd) 7000 = σ 7000 from (fr_Cinit (by omega))]; exact hfl) (g := g) ((congrFun (fr_Cinit (by omega)) 23).trans hg) (by omega) (w := w) ((congrFun (fr_Cinit (by omega)) 24).trans hw) (by omega) (fun h39 j9 hj9 => by rw [show (g_Cinit (u2 σ 5000 0 0) R B pk gr cd) 5005 = σ 5005 from (fr_Cinit (by omega))]; exact hkp ((show (g_Cinit (u2 σ 5000 0 0) R B pk gr cd) 5000 1 = σ 5000 1 from congrFun (fr_Cinit (by omega)) 1).symm.trans h39) j9 hj9) (tn := tn) (fun j9 hj9 => by rw [show (g_Cinit (u2 σ 5000 0 0) R B pk gr cd) 5007 = σ 5007 from (fr_Cinit (by omega))]; exact htn j9 hj9) (sp := sp) (fun j9 hj9 => by rw [show (g_Cinit (u2 σ 5000 0 0) R B pk gr cd) (5010 + j9) 0 = σ (5010 + j9) 0 from ((congrFun (fr_Cinit (by omega)) 0).trans (congrFun (u2_ne (by omega)) 0))]; exact hsp j9 hj9) cf_Cinit hho (fun y => xx_cls_z hclM) (fun y r hr => dom_z (hdom r hr)) (k := 499) (n := 8692) ?_
  refine xx_wid (k' := (497 : Nat) + 2) (n' := (8680 : Nat) + 12) (by omega) (by omega) ?_
  refine dgB1 O hl (σ := g_Cinit (u2 σ 5000 0 0) R B pk gr cd) hbs hfr (B := B) ((congrFun (fr_Cinit (by omega)) 900).trans hB) (by omega) (pk := pk) (fun j9 hj9 => by rw [show (g_Cinit (u2 σ 5000 0 0) R B pk gr cd) (5030 + j9) 900 = σ (5030 + j9) 900 from ((congrFun (fr_Cinit (by omega)) 900).trans (congrFun (u2_ne (by omega)) 900))]; exact hpk j9 hj9) cf_Cinit hpi hterm ((congrFun (fr_Cinit (by omega)) 20).trans (hme.2.2 20005 (by omega) (by omega)).2) ((congrFun (fr_Cinit (by omega)) 20).trans (hme.2.2 20006 (by omega) (by omega)).2) (k := 497) (n := 8680) ?_
  refine dgB O hl (σ := g_Cpay (g_Cpay (g_Cinit (u2 σ 5000 0 0) R B pk gr cd) 1 20005 B) 2 20006 B) hbs (R := R) ((((congrFun (fr_Cpay ⟨by omega, by omega⟩) 900).trans (congrFun (fr_Cpay ⟨by omega, by omega⟩) 900)).trans (congrFun (fr_Cinit (by omega)) 900)).trans hR) (by omega) (B := B) ((((congrFun (fr_Cpay ⟨by omega, by omega⟩) 900).trans (congrFun (fr_Cpay ⟨by omega, by omega⟩) 900)).trans (congrFun (fr_Cinit (by omega)) 900)).trans hB) (by omega) (K := K) ((((congrFun (fr_Cpay ⟨by omega, by omega⟩) 900).trans (congrFun (fr_Cpay ⟨by omega, by omega⟩) 900)).trans (congrFun (fr_Cinit (by omega)) 900)).trans hK) (by omega) (C := C) ((((congrFun (fr_Cpay ⟨by omega, by omega⟩) 900).trans (congrFun (fr_Cpay ⟨by omega, by omega⟩) 900)).trans (congrFun (fr_Cinit (by omega)) 900)).trans hS) (by omega) (pk := pk) (fun j9 hj9 => by rw [show (g_Cpay (g_Cpay (g_Cinit (u2 σ 5000 0 0) R B pk gr cd) 1 20005 B) 2 20006 B) (5030 + j9) 900 = σ (5030 + j9) 900 from ((((congrFun (fr_Cpay ⟨by omega, by omega⟩) 900).trans (congrFun (fr_Cpay ⟨by omega, by omega⟩) 900)).trans (congrFun (fr_Cinit (by omega)) 900)).trans (congrFun (u2_ne (by omega)) 900))]; exact hpk j9 hj9) (by rw [show (g_Cpay (g_Cpay (g_Cinit (u2 σ 5000 0 0) R B pk gr cd) 1 20005 B) 2 20006 B) 7000 = σ 7000 from (((fr_Cpay ⟨by omega, by omega⟩).trans (fr_Cpay ⟨by omega, by omega⟩)).trans (fr_Cinit (by omega)))]; exact hfl) (g := g) ((((congrFun (fr_Cpay ⟨by omega, by omega⟩) 23).trans (congrFun (fr_Cpay ⟨by omega, by omega⟩) 23)).trans (congrFun (fr_Cinit (by omega)) 23)).trans hg) (by omega) (w := w) ((((congrFun (fr_Cpay ⟨by omega, by omega⟩) 24).trans (congrFun (fr_Cpay ⟨by omega, by omega⟩) 24)).trans (congrFun (fr_Cinit (by omega)) 24)).trans hw) (by omega) (fun h39 j9 hj9 => by rw [show (g_Cpay (g_Cpay (g_Cinit (u2 σ 5000 0 0) R B pk gr cd) 1 20005 B) 2 20006 B) 5005 = σ 5005 from (((fr_Cpay ⟨by omega, by omega⟩).trans (fr_Cpay ⟨by omega, by omega⟩)).trans (fr_Cinit (by omega)))]; exact hkp ((show (g_Cpay (g_Cpay (g_Cinit (u2 σ 5000 0 0) R B pk gr cd) 1 20005 B) 2 20006 B) 5000 1 = σ 5000 1 from congrFun (((fr_Cpay ⟨by omega, by omega⟩).trans (fr_Cpay ⟨by omega, by omega⟩)).trans (fr_Cinit (by omega))) 1).symm.trans h39) j9 hj9) (tn := tn) (fun j9 hj9 => by rw [show (g_Cpay (g_Cpay (g_Cinit (u2 σ 5000 0 0) R B pk gr cd) 1 20005 B) 2 20006 B) 5007 = σ 5007 from (((fr_Cpay ⟨by omega, by omega⟩).trans (fr_Cpay ⟨by omega, by omega⟩)).trans (fr_Cinit (by omega)))]; exact htn j9 hj9) (sp := sp) (fun j9 hj9 => by rw [show (g_Cpay (g_Cpay (g_Cinit (u2 σ 5000 0 0) R B pk gr cd) 1 20005 B) 2 20006 B) (5010 + j9) 0 = σ (5010 + j9) 0 from ((((congrFun (fr_Cpay ⟨by omega, by omega⟩) 0).trans (congrFun (fr_Cpay ⟨by omega, by omega⟩) 0)).trans (congrFun (fr_Cinit (by omega)) 0)).trans (congrFun (u2_ne (by omega)) 0))]; exact hsp j9 hj9) (((congrFun (fr_Cpay ⟨by omega, by omega⟩) 20).trans (congrFun (fr_Cpay ⟨by omega, by omega⟩) 20)).trans cf_Cinit) ⟨((congrFun (fr_Cpay ⟨by omega, by omega⟩) 20).trans (fl_Cpay (by omega)).1), ((congrFun (fr_Cpay ⟨by omega, by omega⟩) 21).trans (fl_Cpay (by omega)).2)⟩ ⟨(fl_Cpay (by omega)).1, (fl_Cpay (by omega)).2⟩ ?_
  show SW Y 497 8680 (setM (y_digB σ R B pk gr cd K C g tn sp rg) (g_Cpay (g_Cpay (g_Cinit (u2 σ 5000 0 0) R B pk gr cd) 1 20005 B) 2 20006 B) h) 327 [.ref 5000, .ref 9000, .ref 20005, .ref 20006, .int (nI B), xx_d] []
  refine sw_dum (ls2 := [.ref 5000, xx_d, xx_d, xx_d, xx_d, xx_d]) ⟨.inr rfl, .inl rfl, .inl rfl, .inl rfl, .inl rfl, .inr rfl, trivial⟩ ?_
  have me9 : mem_eq (u2 σ 5000 0 0) (u2 (u2 (u2 (g_Cpay (g_Cpay (g_Cinit (u2 σ 5000 0 0) R B pk gr cd) 1 20005 B) 2 20006 B) 9000 20 0) 20005 20 0) 20006 20 0) := mem_eq.frame (τ0 := u2 σ 5000 0 0) (mem_same0 hme) (fun q h1 h2 h3 => by simp (disch := omega) only [u2_ne, fr_Cpay, fr_Cinit]) (by rw [u2_ne (by omega), u2_ne (by omega), u2_v]) (fun q h1 h2 => by
      by_cases e0 : q = 20006
      · rw [e0, u2_v]
      · rw [u2_ne e0]
        by_cases e1 : q = 20005
        · rw [e1, u2_v]
        · rw [u2_ne e1]
          simp (disch := omega) only [u2_ne, fr_Cpay, fr_Cinit]
          exact (hme.2.2 q h1 h2).1)
  have e9 : setM (y_digB σ R B pk gr cd K C g tn sp rg) (u2 (u2 (u2 (g_Cpay (g_Cpay (g_Cinit (u2 σ 5000 0 0) R B pk gr cd) 1 20005 B) 2 20006 B) 9000 20 0) 20005 20 0) 20006 20 0) h = setM (y_digB σ R B pk gr cd K C g tn sp rg) (u2 σ 5000 0 0) h := setM_same me9 (fun q h1 h2 => by simp (disch := omega) only [u2_ne, fr_Cpay, fr_Cinit])
  have hclS : xx_cls (setM (y_digB σ R B pk gr cd K C g tn sp rg) (u2 σ 5000 0 0) h) := xx_cls_z ((mem_S1 hme).cls hcl)
  refine sw_drop (h2 := setM (y_digB σ R B pk gr cd K C g tn sp rg) (u2 σ 5000 0 0) h) (by rw [← e9]; exact xx_sub.trans (dropT (by omega) hfr) (xx_sub.trans (dropT (by omega) hfr) (drop9 hfr))) hclS (by rw [hh]; exact fun r hr => dom_z ((mem_S1 hme).dom hr)) (by intro v9 hv9; simp only [List.mem_cons, List.not_mem_nil, or_false] at hv9; rcases hv9 with rfl | rfl | rfl | rfl | rfl | rfl <;> first | exact in_mod | trivial) (by intro v9 hv9; cases hv9) ?_
  refine dgC O hl (σ := u2 σ 5000 0 0) hbs (R := R) hR (by omega) (B := B) hB (by omega) (K := K) hK (by omega) ?_
  refine xx_wid (k' := 495 + 2) (n' := 8668 + 12) (by omega) (by omega) ?_
  refine dgD O hl (σ := u2 σ 5000 0 0) hbs hfr (mem_same0 hme) (R := R) hR (by omega) (C := C) hS (by omega) (rg := rg) hrg (k := 495) (n := 8668) ?_
  exact dgE O hl hs (by rw [hQ]; exact ⟨rfl, rfl⟩)
end
section
/-! ===== methods with handlers ===== -/
section
variable {Y : XY} {M : XM} {l : Launch} {d k n : Nat} {h : XH} {pc : Nat} {ls st : List Value} {ρ : Nat → Nat} {ow : Nat → Option Nat} {H : Heap} {locs : List Loc} {cells slots : Nat} {lsA : Array Slot}
theorem xx_L.storeD {ρ : Nat → Nat} {nL : Nat} {ls : List Value} {lsA : Array Slot} {i : Nat} {V : Value}
    (hl : lv_has lsA nL ((i, V) :: (xx_pr ρ ls).filter (fun q => !(q.1 == i) && !(q.1 + 1 == i && q.2.category == 2)))) : xx_L ρ nL (xx_set ls i xx_d) lsA := by
  refine ⟨hl.1, hl.2.1, fun j w hj hw => ?_⟩
  unfold xx_set at hj
  rw [List.getElem?_set] at hj
  by_cases e : i = j
  · subst e
    simp only [if_true] at hj
    split at hj
    · cases hj
      exact absurd rfl hw
    · cases hj
  · rw [if_neg e] at hj
    obtain ⟨h1, h2⟩ := xx_clr_get hj hw
    refine hl.2.2 (j, xx_v ρ w) (List.mem_cons_of_mem _ (List.mem_filter.mpr ⟨xx_pr_in h1 hw, ?_⟩))
    have e1 : (j == i) = false := by simp; exact fun q => e q.symm
    simp only [e1, Bool.not_false, Bool.true_and, Bool.not_eq_true', Bool.and_eq_false_iff, beq_eq_false_iff_ne, ne_eq]
    by_cases q : j + 1 = i
    · right
      intro c
      rw [xx_v_cat] at c
      exact h2 ⟨q, c⟩
    · left
      exact q
def SWh (Y : XY) (M : XM) (k n : Nat) (h : XH) (hpc : Nat) (ls : List Value) : Prop :=
  (∃ i, decode M.2.1 hpc = .ok (.astore i, 2) ∧ i < M.2.2.1 ∧ SW Y k n h (hpc + 2) (xx_set ls i xx_d) []) ∨ (∃ i : Fin 4, decode M.2.1 hpc = .ok (.astore_n i, 1) ∧ (i : Nat) < M.2.2.1 ∧ SW Y k n h (hpc + 1) (xx_set ls (i : Nat) xx_d) [])
theorem sw_hnd {hpc q : Nat} (O : xx_O Y M l d) (hh : SWh Y M k n h hpc ls) (r : xx_R Y k n h ls [] ρ ow H locs cells slots lsA) : xx_W Y H locs cells slots (F0 (xt_m Y.1) hpc lsA [.ref q]) := by
  rcases hh with ⟨i, hd, hn, kk⟩ | ⟨i, hd, hn, kk⟩
  · exact lv_astore O.1 O.2.1 hd r.L.has (by rw [O.2.2.1]; exact hn) rfl (fun lsB hB => kk ρ ow H locs cells slots lsB (r.lc (xx_L.storeD hB) (xx_set_in r.lcl trivial) (fun _ h9 => absurd h9 List.not_mem_nil)))
  · exact lv_astore_n O.1 O.2.1 hd rfl r.L.has (by rw [O.2.2.1]; exact hn) rfl (fun lsB hB => kk ρ ow H locs cells slots lsB (r.lc (xx_L.storeD hB) (xx_set_in r.lcl trivial) (fun _ h9 => absurd h9 List.not_mem_nil)))
/-- the row of the table that takes E -/
def xx_take (M : XM) (hh : List (Nat × Nat × Nat × Nat)) (pc : Nat) (E : String) (hpc : Nat) : Prop :=
  ∃ (pre : List ExceptionTableEntry) (x : ExceptionTableEntry) (suf : List ExceptionTableEntry), tableOf hh = pre ++ x :: suf ∧ (∀ z ∈ pre, z.catchType ≠ 0 ∧ ∃ nm : String, Cond.classLink M.2.2.2.2.1 z.catchType nm ∈ xx_gws ∧ (E, nm) ∈ xx_ncs) ∧ covers x pc = true ∧ x.catchType ≠ 0 ∧ Cond.classLink M.2.2.2.2.1 x.catchType E ∈ xx_gws ∧ xx_ex E ∧ x.handlerPc = hpc
theorem xx_runC {hh : List (Nat × Nat × Nat × Nat)} {k' n' : Nat} {Q' : XO → XH → Prop} {stk : List Value} {st0 : List Value} {a : Array Value} (O : xx_O Y M l d) (r9 : xx_R Y (k + k') (n + n') h ls stk ρ ow H locs cells slots lsA) (hst : ∀ v ∈ st, xx_in h v)
    (hr : vx_Run (xt_p Y.1) (xt_l Y.1) (xt_e Y.1) (xt_R Y.1) (xt_s Y.1) (xt_m Y.1) (xt_a Y.1) (xt_b Y.1) (xt_h Y.1) (xt_c Y.1) H locs cells slots k' n' (F0 (xt_m Y.1) pc lsA st0) (st.map (xx_v ρ)) (xx_Qc (xy_D Y) ρ h Q' a) (xx_Xc (xy_D Y) ρ h Q') (xx_fr (xy_D Y)))
    (kr : ∀ v h', Q' (.inl v) h' → (∀ r, (h r).isSome = true → (h' r).isSome = true) → SW Y k n h' (pc + 3) ls (v.toList ++ st)) (HT : (xt_c Y.1).exceptionTable.toList = tableOf hh) (kx : ∀ E h', Q' (.inr E) h' → (∀ r, (h r).isSome = true → (h' r).isSome = true) → ∃ hpc, xx_take M hh pc E hpc ∧ SWh Y M k n h' hpc ls) : xx_W Y H locs cells slots (F0 (xt_m Y.1) pc lsA st0) := by
  intro T hT X
  have hloc : ∀ L : List Loc, (∀ q ∈ L, xx_fr (xy_D Y) q.base) → ∀ z ∈ locs ++ L, (xd_H (xy_D Y)).size ≤ z.base := fun L hL z hz => (List.mem_append.mp hz).elim (r9.2.2.1 z) (hL z)
  rcases hr T hT X with ⟨v, st₀, t, T', L, h0, X', hL, e1, e2, ⟨v', h', ρ', ow', hv, hq, hS, hA, hin⟩, go⟩ | ⟨q, st₀, t, T', L, E, ce, h0, X', hL, e1, e2, ⟨h', ρ', ow', hq, hS, hA⟩, hce, hcv, hcl, go⟩
  · cases hv
    have hρ : ∀ a, (h a).isSome = true → ρ' a = ρ a := fun a ha => (hA a ha).2
    have hup : ∀ v, xx_in h v → xx_in h' v := fun v hv => by
      cases v with
      | ref a => exact (hA a hv).1
      | _ => exact trivial
    have R1 : xx_R Y k n h' ls (v'.toList ++ st) ρ' ow' T'.heap (locs ++ L) (cells + k') (slots + n') lsA := by
      refine ⟨by rw [e1]; exact hS, fun r hr => ?_, hloc L hL, ?_, ?_, r9.L.names hρ r9.lcl, fun v hv => hup v (r9.lcl v hv), fun v hv => ?_⟩
      · have h2 := r9.2.1 r hr
        exact ⟨(hA r h2.1).1, by rw [(hA r h2.1).2]; exact h2.2⟩
      · have := r9.2.2.2.1
        omega
      · have := r9.2.2.2.2.1
        omega
      · rcases List.mem_append.mp hv with h3 | h3
        · exact hin v (by cases v' <;> simp at h3; rw [h3])
        · exact hup v (hst v h3)
    have k1 := kr v' h' hq (fun r hr => (hA r hr).1) ρ' ow' T'.heap (locs ++ L) (cells + k') (slots + n') lsA R1 T' rfl X'
    obtain ⟨t2, a1, b1⟩ := k1
    refine ⟨t2, go t2 ?_, b1⟩
    rw [show (v'.toList ++ st).map (xx_v ρ') = (v'.map (xx_v ρ')).toList ++ st.map (xx_v ρ) by rw [List.map_append, xx_map_eq hρ hst]; cases v' <;> rfl] at a1
    exact a1
  · have hρ : ∀ a, (h a).isSome = true → ρ' a = ρ a := fun a ha => (hA a ha).2
    have hup : ∀ v, xx_in h v → xx_in h' v := fun v hv => by
      cases v with
      | ref a => exact (hA a hv).1
      | _ => exact trivial
    obtain ⟨hpc, ⟨pre, x, suf, u1, u2, u3, u4, u5, u6, rfl⟩, hnd⟩ := kx E h' hq (fun r hr => (hA r hr).1)
    have R1 : xx_R Y k n h' ls [] ρ' ow' T'.heap (locs ++ L) (cells + k') (slots + n') lsA := by
      refine ⟨by rw [e1]; exact hS, fun r hr => ?_, hloc L hL, ?_, ?_, r9.L.names hρ r9.lcl, fun v hv => hup v (r9.lcl v hv), fun v hv => absurd hv List.not_mem_nil⟩
      · have h2 := r9.2.1 r hr
        exact ⟨(hA r h2.1).1, by rw [(hA r h2.1).2]; exact h2.2⟩
      · have := r9.2.2.2.1
        omega
      · have := r9.2.2.2.2.1
        omega
    have hw := O.2.2.2.2.2.1
    have hx := vx_catch (p := xt_p Y.1) (l := xt_l Y.1) (e := xt_e Y.1) (R := xt_R Y.1) (s := xt_s Y.1) (m := xt_m Y.1) (args := xt_a Y.1) (below := xt_b Y.1) (meth := xt_h Y.1) (c := xt_c Y.1) (H := T'.heap) (locs := locs ++ L) (cells := cells + k') (slots := slots + n') (ls := lsA) (rest := st.map (xx_v ρ)) (pc := pc) (own := M.2.2.2.2.1) (name := E) (E := E) (ce := ce) (q := q) (Q := xx_Q Y)
      O.2.2.2.2.2.2.1 pre x suf (HT.trans u1) (fun z hz => .inr ⟨(u2 z hz).1, (u2 z hz).2.imp fun nm hn => ⟨hw _ hn.1, O.2.2.2.2.2.2.2.2.1.2.2.2 _ hn.2⟩⟩) u3 u4 (hw _ u5) (xx_castXX (hw _ u6.2.2.1)) (by rw [e1]; exact hce) hcv hcl (sw_hnd O hnd R1)
    obtain ⟨t2, a1, b1⟩ := hx T' rfl X'
    exact ⟨t2, go.trans a1, b1⟩
theorem sw_callVc {hh : List (Nat × Nat × Nat × Nat)} {M' : XM} {d' k' n' idx ci N b : Nat} {f : Nat → Value} {C : String} {T : u_T} {ty : Nat → FieldType} {as stk : List Value} {Q' : XO → XH → Prop} (O : xx_O Y M l d) (hM : XMet l M' d' k' n' (.ref b :: as) h Q') (E : xx_ce M') (hl : xx_ml M.2.2.2.2.1 idx M'.1) (hsel : Cond.instanceMethod M'.1 ∈ xx_gws ∧ Cond.selects M'.1.cls M'.1 M'.1 ∈ xx_gws)
    (K : xx_cl ci C T N ty) (hC : C = M'.1.cls) (hb : h b = some (ci, N, f)) (hd : decode M.2.1 pc = .ok (.invokevirtual idx, 3)) (hdd : d' + 1 ≤ d) (hn : as.length = M'.2.2.2.2.2) (hs : stk = as.reverse ++ .ref b :: st) (hc : (st.map fun v => v.category).sum ≤ 8)
    (kr : ∀ v h', Q' (.inl v) h' → (∀ r, (h r).isSome = true → (h' r).isSome = true) → SW Y k n h' (pc + 3) ls (v.toList ++ st)) (HT : (xt_c Y.1).exceptionTable.toList = tableOf hh) (kx : ∀ E h', Q' (.inr E) h' → (∀ r, (h r).isSome = true → (h' r).isSome = true) → ∃ hpc, xx_take M hh pc E hpc ∧ SWh Y M k n h' hpc ls) : SW Y (k + k') (n + n') h pc ls stk := by
  subst hs
  intro ρ ow H locs cells slots lsA r9
  obtain ⟨⟨cell, q1, q2, q3, q4⟩, hS, hfc, -⟩ := r9.obj O K hb
  have hst : ∀ v ∈ st, xx_in h v := fun v hv => r9.stk v (List.mem_append_right _ (List.mem_cons_of_mem _ hv))
  have has : ∀ v ∈ (Value.ref b :: as), xx_in h v := fun v hv => by
    rcases List.mem_cons.mp hv with rfl | hv
    · exact r9.stk _ (List.mem_append_right _ List.mem_cons_self)
    · exact r9.stk v (List.mem_append_left _ (List.mem_reverse.mpr hv))
  have S : CallFix (xt_p Y.1) (xt_m Y.1) (xt_c Y.1) M.2.1 (xt_c Y.1).maxLocals (xt_s Y.1) (xt_a Y.1) xx_gws M.2.2.2.2.1 := ⟨O.1, O.2.1, rfl, O.2.2.2.2.2.2.1, O.2.2.2.2.2.1⟩
  have hM' := hM (xy_D Y) ρ ow
  rw [← O.2.2.2.2.2.2.2.2.2.2.2.1] at hM'
  have hp : PreV (xt_s Y.1) H M'.1.cls (ρ b) (xx_Pc (xy_D Y) ρ ow h (.ref b :: as)) (as.map (xx_v ρ)) := ⟨xx_blind, ⟨cell, q1, q3.1, by rw [q2, ← hC]; exact hfc⟩, fun U hU hW => ⟨rfl, xx_K.moved hW.alike O.2.2.2.2.2.2.2.1, xx_N.warm hW O.2.2.2.2.2.2.2.2.1, by rw [hU]; exact r9.1, has⟩⟩
  have hw := O.2.2.2.2.2.1
  refine xx_runC O r9 hst (a := (Value.ref (ρ b) :: as.map (xx_v ρ)).toArray) ?_ kr HT kx
  rcases hl with hl | ⟨host, hl⟩
  · exact vx_runV S hM' ⟨xx_callB O E hdd hl, hw _ hsel.1, hw _ hsel.2⟩ hp rfl (by rw [List.length_map]; exact hn) r9.L.1 xx_stk (lv_room (by rw [xx_cats]; exact hc)) hd (by have := r9.2.2.2.1; have := r9.2.2.2.2.1; omega)
  · exact vx_runVN S hM' ⟨xx_callN O E hdd hl, hw _ hsel.1, hw _ hsel.2⟩ hp rfl (by rw [List.length_map]; exact hn) r9.L.1 xx_stk (lv_room (by rw [xx_cats]; exact hc)) hd (by have := r9.2.2.2.1; have := r9.2.2.2.2.1; omega)
end
abbrev xx_wsH (M : XM) (hh : List (Nat × Nat × Nat × Nat)) : List Cond := Cond.codeWith M.1 M.2.1 M.2.2.1 M.2.2.2.1 hh :: xx_gws
/-- a contract of a method with handlers -/
def XMetH (l : Launch) (M : XM) (hh : List (Nat × Nat × Nat × Nat)) (d k n : Nat) (as : List Value) (h : XH) (Q : XO → XH → Prop) : Prop :=
  ∀ (D : XD) (ρ : Nat → Nat) (ow : Nat → Option Nat), vx_Met l M.1 (xx_wsH M hh) (xx_rm d k n) (xx_Pc D ρ ow h as) (xx_Qc D ρ h Q) (xx_Xc D ρ h Q) k n (xx_fr D)
theorem XMetH.of {hh : List (Nat × Nat × Nat × Nat)} {l : Launch} {M : XM} {d k n : Nat} {as : List Value} {h : XH} {Q : XO → XH → Prop} (hl : l.stackTraces = false) (hy : plainName M.1.cls = true) (hown : M.1.cls = M.2.2.2.2.1) (hlen : (lg_sl as).length ≤ M.2.2.1)
    (hX : ∀ E g, ¬ Q (.inr E) g) (body : ∀ Y : XY, xx_O Y M l d → (xt_c Y.1).exceptionTable.toList = tableOf hh → xy_h Y = h → xy_Q Y = Q → SW Y k n h 0 (xx_ls as M.2.2.1) []) : XMetH l M hh d k n as h Q := by
  intro D ρ ow
  refine vx_ofWH (hh := hh) (cc := M.2.1) (maxL := M.2.2.1) (ret := M.2.2.2.1) hy rfl ?_
  intro p e s m args below meth c s₁ B hml hv
  obtain ⟨rfl, hK, hN, hS, hin⟩ := hv
  have hts := atoms_spec (ws := xx_wsH M hh) B.pre
  have hlen' : (lg_sl (as.map (xx_v ρ))).length ≤ M.2.2.1 := by
    have e : ∀ vs : List Value, (lg_sl (vs.map (xx_v ρ))).length = (lg_sl vs).length := by
      intro vs
      induction vs with
      | nil => rfl
      | cons v t ih =>
        simp only [lg_sl, List.map_cons, List.flatMap_cons, List.length_append, xx_v_cat] at ih ⊢
        rw [ih]
        split <;> rfl
    rw [e]
    exact hlen
  have hx := body ((p, l, e, (headSpec (xx_wsH M hh) (xx_rm d k n)).room, s, m, (as.map (xx_v ρ)).toArray, below, meth, c), D, ρ, h, Q)
    ⟨B.exec, B.bytes, hml, B.returns, B.notSynchronized, fun w hw => hts w (List.mem_cons_of_mem _ hw), by rw [← hown]; exact findClass_of_methodNamed B.named, hK, hN, hl, (name_of_methodNamed B.named B.method).1, rfl, Nat.le_refl _, Nat.le_refl _, fun E g hE => absurd hE (hX E g), hS.2.1⟩ (vx_table (x := M.1) B (hts _ List.mem_cons_self)) rfl rfl
  have hent := lv_entry (as.map (xx_v ρ)) (n := M.2.2.1) hlen'
  rw [lg_entry_eq]
  refine hx ρ ow s.heap [] 0 0 _ ⟨hS, fun r hr => ⟨hr, rfl⟩, fun z hz => absurd hz List.not_mem_nil, ?_, ?_, ?_, ?_, fun v hv => absurd hv List.not_mem_nil⟩
  · show 0 + k ≤ k
    omega
  · show 0 + n ≤ n
    omega
  · show xx_L ρ c.maxLocals _ _
    rw [hml]
    exact xx_L.entry hent
  · intro v hv
    unfold xx_ls at hv
    rcases List.mem_append.mp hv with h1 | h1
    · have : ∀ vs : List Value, (∀ w ∈ vs, xx_in h w) → ∀ w ∈ xx_lay vs, xx_in h w := by
        intro vs
        induction vs with
        | nil => intro _ w hw; cases hw
        | cons u t ih =>
          intro hu w hw
          unfold xx_lay at hw
          split at hw
          · rcases List.mem_cons.mp hw with rfl | hw
            · exact hu _ List.mem_cons_self
            · rcases List.mem_cons.mp hw with rfl | hw
              · exact trivial
              · exact ih (fun z hz => hu z (List.mem_cons_of_mem _ hz)) w hw
          · rcases List.mem_cons.mp hw with rfl | hw
            · exact hu _ List.mem_cons_self
            · exact ih (fun z hz => hu z (List.mem_cons_of_mem _ hz)) w hw
      exact this as hin v h1
    · rw [(List.mem_replicate.mp h1).2]
      exact trivial

section
variable {Y : XY} {M : XM} {l : Launch} {d k n : Nat} {h : XH} {pc : Nat} {ls st : List Value} {ρ : Nat → Nat} {ow : Nat → Option Nat} {H : Heap} {locs : List Loc} {cells slots : Nat} {lsA : Array Slot}
def xx_ceH (M' : XM) (hh : List (Nat × Nat × Nat × Nat)) : Prop :=
  Cond.codeWith M'.1 M'.2.1 M'.2.2.1 M'.2.2.2.1 hh ∈ xx_gws ∧ Cond.initialized M'.1.cls ∈ xx_gws ∧ (M'.1.cls ≠ "java/lang/invoke/MethodHandle" ∧ M'.1.cls ≠ "java/lang/invoke/VarHandle") ∧ (parseMethodDescriptor M'.1.desc).map (fun d => d.parameters.length) = some M'.2.2.2.2.2 ∧ M'.2.2.1 ≤ 21
theorem sw_callSH {M' : XM} {hh : List (Nat × Nat × Nat × Nat)} {d' k' n' idx : Nat} {as stk : List Value} {v : Option Value} {h2 : XH} (O : xx_O Y M l d) (hM : XMetH l M' hh d' k' n' as h (fun o g => o = .inl v ∧ g = h2)) (E : xx_ceH M' hh) (hl2 : Cond.methodLink M.2.2.2.2.1 idx M'.1 ∈ xx_gws) (hst0 : Cond.static M'.1 ∈ xx_gws)
    (hd : decode M.2.1 pc = .ok (.invokestatic idx, 3)) (hdd : d' + 1 ≤ d) (hn : as.length = M'.2.2.2.2.2) (hs : stk = as.reverse ++ st) (hc : (st.map fun v => v.category).sum ≤ 8)
    {st2 : List Value} (h2s : v.toList ++ st = st2) (kk : SW Y k n h2 (pc + 3) ls st2) : SW Y (k + k') (n + n') h pc ls stk := by
  subst hs
  intro ρ ow H locs cells slots lsA r9
  have hst : ∀ v ∈ st, xx_in h v := fun v hv => r9.stk v (List.mem_append_right _ hv)
  have has : ∀ v ∈ as, xx_in h v := fun v hv => r9.stk v (List.mem_append_left _ (List.mem_reverse.mpr hv))
  have S : CallFix (xt_p Y.1) (xt_m Y.1) (xt_c Y.1) M.2.1 (xt_c Y.1).maxLocals (xt_s Y.1) (xt_a Y.1) xx_gws M.2.2.2.2.1 := ⟨O.1, O.2.1, rfl, O.2.2.2.2.2.2.1, O.2.2.2.2.2.1⟩
  have hM' := hM (xy_D Y) ρ ow
  rw [← O.2.2.2.2.2.2.2.2.2.2.2.1] at hM'
  have hp : PreS (xt_s Y.1) H (xx_Pc (xy_D Y) ρ ow h as) (as.map (xx_v ρ)) := ⟨xx_blind, fun U hU hW => ⟨rfl, xx_K.moved hW.alike O.2.2.2.2.2.2.2.1, xx_N.warm hW O.2.2.2.2.2.2.2.2.1, by rw [hU]; exact r9.1, has⟩⟩
  have hw := O.2.2.2.2.2.1
  have hR := O.2.2.2.2.2.2.2.2.2.2.2.2
  have hlo := E.2.2.2.2
  have e9 : (as.reverse ++ st).map (xx_v ρ) = (as.map (xx_v ρ)).reverse ++ st.map (xx_v ρ) := by rw [List.map_append, List.map_reverse]
  have hws : ∀ w ∈ xx_wsH M' hh, ∀ (a' : Array Value) (U : State), (xt_s Y.1).WarmedH U.vm → w.before a' U = true := by
    have hg : ∀ w ∈ xx_gws, ∀ (a' : Array Value) (U : State), (xt_s Y.1).WarmedH U.vm → w.before a' U = true := fun w hw a' U hW => word_at hW (good_of_word (List.mem_filter.mp hw).2) (O.2.2.2.2.2.1 w hw)
    intro w hw
    rcases List.mem_cons.mp hw with rfl | h1
    · exact hg _ E.1
    · exact hg _ h1
  refine xx_run (Q' := fun o g => o = .inl v ∧ g = h2) O r9 hst (a := (as.map (xx_v ρ)).toArray) ?_ (fun v' h' q _ => by obtain ⟨e1, rfl⟩ := q; cases e1; rw [h2s]; exact kk) (fun E h' q => by obtain ⟨e1, -⟩ := q; cases e1)
  refine vx_runSX (hh := hh) (n := M'.2.2.2.2.2) S hM' ⟨⟨rfl, rfl, Nat.le_trans hdd hR.1, ?_, hws, List.mem_cons_self⟩, hw _ E.1, hw _ E.2.1, E.2.2.1, fun sig h => ?_, hw _ hl2, hw _ hst0⟩ hp rfl (by rw [List.length_map]; exact hn) r9.L.1 e9 (lv_room (by rw [xx_cats]; exact hc)) hd (by have := r9.2.2.2.1; have := r9.2.2.2.2.1; omega)
  · refine Nat.le_trans ?_ hR.2.1
    show 8 + (M'.2.2.1 + 11) + 40 * d' ≤ 40 * d
    omega
  · have h2 := E.2.2.2.1
    rw [h] at h2
    exact (Option.some.inj h2).symm
end
end
