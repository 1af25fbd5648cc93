/-! ===== the reference: chartNow ===== -/
def hBM (h : XH) (c : Nat) (b : Int32) (G : Nat → Value) : XH := xx_up (xx_up h 20100 (1, 4, xx_sb 20101 c b)) 20101 (102, 16, G)
def hTM (h : XH) (c : Nat) (G : Nat → Value) : XH := xx_up (xx_up h 20102 (0, 4, xx_so 20103)) 20103 (102, c, fun j => if j < c then G j else .int 0)
section
variable {z : Int64} {σ : XS9} {h : XH} {c c' : Nat} {b b' : Int32} {G G' : Nat → Value}
theorem setM_u {r : Nat} {d : XC} (hr : 20010 ≤ r) : setM z σ (xx_up h r d) = xx_up (setM z σ h) r d := setM_up (.inl (by omega))
theorem hBM_e : setM z σ (hBM h c b G) = xx_up (xx_up (setM z σ h) 20100 (1, 4, xx_sb 20101 c b)) 20101 (102, 16, G) := by
  unfold hBM
  rw [setM_u (by omega), setM_u (by omega)]
theorem hBM_r : setM z σ (hBM h c b G) 20100 = some (1, 4, xx_sb 20101 c b) := by rw [hBM_e, xx_up_ne (by omega), xx_up_eq]
theorem hBM_v : setM z σ (hBM h c b G) 20101 = some (102, 16, G) := by rw [hBM_e, xx_up_eq]
theorem hBM_o {q : Nat} (h2 : q ≠ 20100) (h3 : q ≠ 20101) : setM z σ (hBM h c b G) q = setM z σ h q := by rw [hBM_e, xx_up_ne h3, xx_up_ne h2]
theorem hBM_up : xx_up (xx_up (setM z σ (hBM h c b G)) 20100 (1, 4, xx_sb 20101 c' b')) 20101 (102, 16, G') = setM z σ (hBM h c' b' G') := by
  rw [hBM_e, hBM_e]
  funext q
  unfold xx_up
  by_cases a1 : q = 20101 <;> by_cases a2 : q = 20100 <;> simp_all
theorem hBM_new {c0 : XC} : xx_up (xx_up (xx_up (setM z σ h) 20100 c0) 20100 (1, 4, xx_sb 20101 c b)) 20101 (102, 16, G) = setM z σ (hBM h c b G) := by rw [hBM_e, xx_up_up]
theorem bs_BM (hb : xx_bs h) : xx_bs (hBM h c b G) := bs_up (bs_up hb (by omega) (by omega) (by omega)) (by omega) (by omega) (by omega)
theorem cls_BM (hcl : xx_cls (setM z σ h)) (hG : ∀ j, j < 16 → ∃ x : Int32, G j = .int x) : xx_cls (setM z σ (hBM h c b G)) := by
  rw [hBM_e, xx_up_sw (by omega)]
  refine xx_cls.up (xx_cls.up hcl (fun j hj => ?_)) (fun j hj => ?_)
  · obtain ⟨x, e⟩ := hG j hj
    show xx_in _ (G j)
    rw [e]
    trivial
  · match j, hj with
    | 0, _ => exact (by rw [xx_up_ne (by omega), xx_up_eq]; rfl : ((xx_up (xx_up (setM z σ h) 20101 (102, 16, G)) 20100 (1, 4, xx_sb 20101 c b)) 20101).isSome = true)
    | 1, _ => trivial
    | 2, _ => trivial
    | 3, _ => trivial
theorem tx_at {H1 H2 : XH} {t u m : Nat} {F : Nat → Value} (hx : xx_tx H1 t u m F) (e1 : H2 t = H1 t) (e2 : H2 u = H1 u) : xx_tx H2 t u m F := by
  obtain ⟨⟨f, a1, a2, a3⟩, a4, a5⟩ := hx
  exact ⟨⟨f, e1.trans a1, a2, a3⟩, e2.trans a4, a5⟩
theorem cs_app {l : Launch} (hl : l.stackTraces = false) {t u m : Nat} {F : Nat → Value} (ht : xx_tx (setM z σ (hBM h c b G)) t u m F) (hc : c + m ≤ 16) : XEx l m_J4_append_15ec4 4 0 0 [.ref 20100, .ref t] (setM z σ (hBM h c b G)) (some (.ref 20100)) (setM z σ (hBM h (c + m) b (apG F G c m))) := by
  have t9 := sb_appendS hl hBM_r hBM_v (by omega) (by omega) (by omega) ht hc
  rw [hBM_up] at t9
  exact t9
theorem gD_I {f : Nat → Int32} {s : Nat} : ∀ j, ∃ x : Int32, gD f (fun _ => .int 0) s j = .int x := fun j => by
  unfold gD
  split
  · exact ⟨_, rfl⟩
  · exact ⟨_, rfl⟩
theorem cs_1 {f : Nat → Int32} {W : Nat → Value} {G : Nat → Value} {s : Nat} (hs : 0 < s) (hw : W 0 = .int (sgn (f s))) : apG W (apG (fun _ => .int 44) (gD f G s) (2 * s - 1) 1) (2 * s - 1 + 1) 1 = gD f G (s + 1) := by
  funext j
  unfold apG va_cpy gD
  by_cases e : j = 2 * s
  · rw [if_pos (by omega), if_pos (by omega), if_neg (by omega), show 0 + (j - (2 * s - 1 + 1)) = 0 by omega, hw, show j / 2 = s by omega]
  · rw [if_neg (by omega)]
    by_cases e2 : j = 2 * s - 1
    · rw [if_pos (by omega), if_pos (by omega), if_pos (by omega)]
    · rw [if_neg (by omega)]
      by_cases e3 : j < 2 * s - 1
      · rw [if_pos e3, if_pos (show j < 2 * (s + 1) - 1 by omega)]
      · rw [if_neg e3, if_neg (by omega)]
theorem cs_0 {f : Nat → Int32} {W E : Nat → Value} {G : Nat → Value} {s : Nat} (hs : s = 0) (hw : W 0 = .int (sgn (f s))) : apG W (apG E (gD f G s) (2 * s - 1) 0) (2 * s - 1 + 0) 1 = gD f G (s + 1) := by
  subst hs
  funext j
  unfold apG va_cpy gD
  by_cases e : j = 0
  · rw [if_pos (by omega), if_pos (by omega), if_neg (by omega), e, show 0 + (0 - (2 * 0 - 1 + 0)) = 0 by omega, hw]
  · rw [if_neg (by omega), if_neg (by omega), if_neg (by omega), if_neg (by omega)]
/-- the small builder and its text -/
def hIM (H : XH) (c : Nat) (G : Nat → Value) : XH := xx_up (xx_up H 20104 (1, 4, xx_sb 20105 c 0)) 20105 (102, 16, G)
def hJM (H : XH) (c : Nat) (F : Nat → Value) : XH := xx_up (xx_up H 20106 (0, 4, xx_so 20107)) 20107 (102, c, F)
variable {H : XH}
theorem hIM_r : hIM H c G 20104 = some (1, 4, xx_sb 20105 c 0) := (xx_up_ne (by omega)).trans (xx_up_eq _ _ _)
theorem hIM_v : hIM H c G 20105 = some (102, 16, G) := xx_up_eq _ _ _
theorem hIM_o {q : Nat} (h2 : q ≠ 20104) (h3 : q ≠ 20105) : hIM H c G q = H q := (xx_up_ne h3).trans (xx_up_ne h2)
theorem hIM_up : xx_up (xx_up (hIM H c G) 20104 (1, 4, xx_sb 20105 c' 0)) 20105 (102, 16, G') = hIM H c' G' := by
  funext q
  unfold hIM xx_up
  by_cases a1 : q = 20105 <;> by_cases a2 : q = 20104 <;> simp_all
theorem hIM_new {c0 : XC} : xx_up (xx_up (xx_up H 20104 c0) 20104 (1, 4, xx_sb 20105 c 0)) 20105 (102, 16, G) = hIM H c G := by unfold hIM; rw [xx_up_up]
theorem hJM_t : hJM H c G 20106 = some (0, 4, xx_so 20107) := (xx_up_ne (by omega)).trans (xx_up_eq _ _ _)
theorem hJM_u : hJM H c G 20107 = some (102, c, G) := xx_up_eq _ _ _
theorem hJM_o {q : Nat} (h2 : q ≠ 20106) (h3 : q ≠ 20107) : hJM H c G q = H q := (xx_up_ne h3).trans (xx_up_ne h2)
theorem sub_IJ {F2 : Nat → Value} {c2 m : Nat} {F : Nat → Value} (h4 : ∀ q, 20104 ≤ q → q < 20108 → h q = none) : xx_sub (setM z σ (hBM h c2 b F2)) (xx_up (xx_up (hJM (hIM (setM z σ (hBM h c b G)) c' G') m F) 20100 (1, 4, xx_sb 20101 c2 b)) 20101 (102, 16, F2)) := by
  intro q d hq
  have n4 : 20104 ≤ q → q < 20108 → False := fun a1 a2 => by
    rw [hBM_o (by omega) (by omega), setM_out (by omega), h4 q a1 a2] at hq
    cases hq
  by_cases a1 : q = 20101
  · rw [a1, hBM_v] at hq
    rw [a1, xx_up_eq]
    exact hq
  · rw [xx_up_ne a1]
    by_cases a2 : q = 20100
    · rw [a2, hBM_r] at hq
      rw [a2, xx_up_eq]
      exact hq
    · rw [xx_up_ne a2, hJM_o (fun e => n4 (by omega) (by omega)) (fun e => n4 (by omega) (by omega)), hIM_o (fun e => n4 (by omega) (by omega)) (fun e => n4 (by omega) (by omega)), hBM_o a2 a1]
      rw [hBM_o a2 a1] at hq
      exact hq
theorem hTM_e : xx_up (xx_up (setM z σ h) 20102 (0, 4, xx_so 20103)) 20103 (102, c, fun j => if j < c then G j else .int 0) = setM z σ (hTM h c G) := by
  unfold hTM
  rw [setM_u (by omega), setM_u (by omega)]
theorem hTM_sub (h4 : ∀ q, 20100 ≤ q → q < 20108 → h q = none) : xx_sub (setM z σ (hTM h c G)) (setM z σ (hTM (hBM h c' b G') c G)) := by
  rw [← hTM_e, ← hTM_e]
  intro q d hq
  by_cases a1 : q = 20103
  · rw [a1, xx_up_eq] at hq
    rw [a1, xx_up_eq]
    exact hq
  · rw [xx_up_ne a1] at hq ⊢
    by_cases a2 : q = 20102
    · rw [a2, xx_up_eq] at hq
      rw [a2, xx_up_eq]
      exact hq
    · rw [xx_up_ne a2] at hq ⊢
      have n4 : 20100 ≤ q → q < 20108 → False := fun a3 a4 => by
        rw [setM_out (by omega), h4 q a3 a4] at hq
        cases hq
      rw [hBM_o (fun e => n4 (by omega) (by omega)) (fun e => n4 (by omega) (by omega))]
      exact hq
theorem hTM_cls (hcl : xx_cls (setM z σ h)) (hG : ∀ j, j < c → ∃ x : Int32, G j = .int x) : xx_cls (setM z σ (hTM h c G)) := by
  rw [← hTM_e, xx_up_sw (by omega)]
  refine xx_cls.up (xx_cls.up hcl (fun j hj => ?_)) (fun j hj => ?_)
  · show xx_in _ (if j < c then G j else .int 0)
    rw [if_pos hj]
    obtain ⟨x, e⟩ := hG j hj
    rw [e]
    trivial
  · match j, hj with
    | 0, _ => exact (by rw [xx_up_ne (by omega), xx_up_eq]; rfl : ((xx_up (xx_up (setM z σ h) 20103 (102, c, fun j => if j < c then G j else .int 0)) 20102 (0, 4, xx_so 20103)) 20103).isSome = true)
    | 1, _ => trivial
    | 2, _ => trivial
    | 3, _ => trivial
theorem hTM_dom (h4 : ∀ q, 20100 ≤ q → q < 20108 → h q = none) (r : Nat) (hr : (setM z σ h r).isSome = true) : (setM z σ (hTM h c G) r).isSome = true := by
  rw [← hTM_e]
  by_cases a1 : r = 20103
  · rw [a1, xx_up_eq]; rfl
  · rw [xx_up_ne a1]
    by_cases a2 : r = 20102
    · rw [a2, xx_up_eq]; rfl
    · rw [xx_up_ne a2]; exact hr
end
/-- the three texts, and the row of digits' signs -/
def xx_tl (h : XH) : Prop := (xx_tx h 5 8 1 (fun _ => .int 44) ∧ xx_tx h 6 9 0 (fun _ => .int 0) ∧ xx_tx h 7 10 1 (fun _ => .int 45)) ∧ xx_dig h
theorem tl_C {h : XH} (hq : xx_tl h) {z : Int64} {σ : XS9} {c : Nat} {b : Int32} {G : Nat → Value} : xx_tl (setM z σ (hBM h c b G)) := by
  have e : ∀ q, q < 1000 → setM z σ (hBM h c b G) q = h q := fun q h1 => (hBM_o (by omega) (by omega)).trans (setM_out (by omega))
  obtain ⟨⟨a1, a2, a3⟩, F, a4, a5⟩ := hq
  exact ⟨⟨tx_at a1 (e _ (by omega)) (e _ (by omega)), tx_at a2 (e _ (by omega)) (e _ (by omega)), tx_at a3 (e _ (by omega)) (e _ (by omega))⟩, F, (e _ (by omega)).trans a4, a5⟩
theorem tx_c {h : XH} {t u m : Nat} {F : Nat → Value} (a : xx_tx h t u m F) : ∃ c, h t = some c := by
  obtain ⟨⟨f, a1, _⟩, _⟩ := a
  exact ⟨_, a1⟩
theorem fit_dig {x : Nat} (hx : x < 10) : fits .byte (.int (48 + nI x)) = true := by
  have : ∀ a : Fin 10, fits .byte (.int (48 + nI a.1)) = true := by decide +kernel
  exact this ⟨x, hx⟩
theorem chart_dom {z : Int64} {σ : XS9} {h : XH} {c : Nat} {b : Int32} {G : Nat → Value} {r : Nat} (hr : (setM z σ h r).isSome = true) : (setM z σ (hBM h c b G) r).isSome = true := by
  rw [hBM_e]
  by_cases a1 : r = 20101
  · rw [a1, xx_up_eq]; rfl
  · rw [xx_up_ne a1]
    by_cases a2 : r = 20100
    · rw [a2, xx_up_eq]; rfl
    · rw [xx_up_ne a2]; exact hr
theorem in_BM {z : Int64} {σ : XS9} {h : XH} {c : Nat} {b : Int32} {G : Nat → Value} : xx_in (setM z σ (hBM h c b G)) (.ref 20100) := by
  show (setM z σ (hBM h c b G) 20100).isSome = true
  rw [hBM_r]
  rfl
theorem ct_X14_chartNow {l : Launch} {h : XH} (hl : l.stackTraces = false) {z : Int64} {σ : XS9} (hbs : xx_bs h) (htl : xx_tl h) (hf4 : ∀ q, 20100 ≤ q → q < 20108 → h q = none) {R : Nat} (hR : σ 5001 900 = nI R) (hR5 : R ≤ 5) {B : Nat} (hB : σ 5002 900 = nI B) (hB6 : B ≤ 6) {pk : Nat → Nat} (hpk : ∀ j, j < B → σ (5030 + j) 900 = nI (2 * pk j) ∧ pk j ≤ 6) (hkp : σ 5000 1 = 3 → ∀ j, j < B → σ 5005 j = -1 ∨ ∃ n, n < pk j ∧ σ 5005 j = nI n) {tn : Nat → Nat} (htn : ∀ r, r < 5 → σ 5007 r = nI (tn r) ∧ tn r < 6) {sp : Nat → Nat} (hsp : ∀ r, r < R → σ (5010 + r) 0 = nI (sp r) ∧ sp r ≤ 5) {rg : Nat} (hr : rg < R) (hho : ∀ s, s < sp rg → f_MholderNow σ rg (nI s) B tn = -1 ∨ n_lt (f_MholderNow σ rg (nI s) B tn) 6) : XEx l m_X14_chartNow 8 24 158 [.ref 5000, .int (nI rg)] (setM z σ h) (some (.ref 20102)) (setM z σ (hTM h (2 * sp rg - 1) (gD (fun s => f_MholderNow σ rg (nI s) B tn) (fun _ => Value.int 0) (sp rg)))) := by
  refine XMet.of hl rfl rfl (Nat.le_of_ble_eq_true rfl) (fun Y O hh hQ => ?_)
  show SW Y 24 158 (setM z σ h) 0 [.ref 5000, .int (nI rg), xx_d, xx_d, xx_d] []
  refine sw_cls (fun hcl => ?_)
  have hs5 := (hsp rg (by omega)).2
  have hbs0 := hbs
  refine sw_new (k := 23) (n := 154) (r := 20100) O (xx_dt dd_X14_chartNow 0 rfl) cl_J4 nw_X14_332 ((setM_out (by omega)).trans (hf4 20100 (by omega) (by omega))) (by omega) ?_
  rw [xx_blk_up]
  refine sw_dup O (xx_dt dd_X14_chartNow 1 rfl) rfl ?_
  refine sw_callIx (k := 22) (n := 138) (k' := 1) (n' := 16) (as := []) (st := [.ref 20100]) (st2 := [.ref 20100]) O (sb_init hl (h := xx_up (setM z σ h) 20100 (1, 4, fun j => defaultValue (tyJ4 j))) (r := 20100) (v := 20101) (xx_up_eq _ _ _) (by omega) ((xx_up_ne (by omega)).trans ((setM_out (by omega)).trans (hf4 20101 (by omega) (by omega)))) (by omega)) ce_J4_init_da8c8 ml_X14_334 ii_J4_init_da8c8 (xx_dt dd_X14_chartNow 2 rfl) (by decide) rfl rfl (Nat.le_of_ble_eq_true rfl) rfl ?_
  rw [hBM_new]
  refine sw_astore_n (ls2 := [.ref 5000, .int (nI rg), .ref 20100, xx_d, xx_d]) O (xx_dt dd_X14_chartNow 3 rfl) (by decide) rfl ?_
  refine sw_iconst (x := 0) O (xx_dt dd_X14_chartNow 4 rfl) (by decide) ?_
  refine sw_istore_n (ls2 := [.ref 5000, .int (nI rg), .ref 20100, .int 0, xx_d]) O (xx_dt dd_X14_chartNow 5 rfl) (by decide) rfl ?_
  rw [show hBM h 0 0 (fun _ => Value.int 0) = hBM h (2 * 0 - 1) 0 (gD (fun s => f_MholderNow σ rg (nI s) B tn) (fun _ => Value.int 0) 0) by rw [gD_0]]
  have hbs : ∀ {c : Nat} {b : Int32} {G : Nat → Value}, xx_bs (hBM h c b G) := fun {c b G} => bs_BM hbs0
  have htx : ∀ {c : Nat} {b : Int32} {G : Nat → Value}, xx_tl (setM z σ (hBM h c b G)) := fun {c b G} => tl_C htl
  refine xx_wid (k' := 2 + 4 * (sp rg - 0)) (n' := 13 + 25 * (sp rg - 0)) (by omega) (by omega) ?_
  refine sw_forV (kf := fun i => 2 + 4 * (sp rg - i)) (nf := fun i => 13 + 25 * (sp rg - i)) (fun _ s => s + 1) (fun i s => s = i) (hp := fun s => setM z σ (hBM h (2 * s - 1) 0 (gD (fun s => f_MholderNow σ rg (nI s) B tn) (fun _ => Value.int 0) s))) (hd := 10) (lc := fun i s => [.ref 5000, .int (nI rg), .ref 20100, .int (nI i), xx_d]) (N := sp rg) (fun i s hi hP => ⟨by rw [hP], fun kk => ?_⟩) (sp rg) 0 0 (by omega) rfl (fun hP => ?_)
  · subst hP
    obtain ⟨kA, ekA⟩ : ∃ k, k = 2 + 4 * (sp rg - (s + 1)) := ⟨_, rfl⟩
    obtain ⟨nA, enA⟩ : ∃ k, k = 13 + 25 * (sp rg - (s + 1)) := ⟨_, rfl⟩
    obtain ⟨kB, ekB⟩ : ∃ k, k = kA + 4 := ⟨_, rfl⟩
    obtain ⟨nB, enB⟩ : ∃ k, k = nA + 25 := ⟨_, rfl⟩
    refine xx_wid (k' := kB) (n' := nB) (by show _ ≤ 2 + 4 * (sp rg - s); omega) (by show _ ≤ 13 + 25 * (sp rg - s); omega) ?_
    have hbs : xx_bs (hBM h (2 * s - 1) 0 (gD (fun s => f_MholderNow σ rg (nI s) B tn) (fun _ => Value.int 0) s)) := hbs
    show SW Y _ _ (setM z σ (hBM h (2 * s - 1) 0 (gD (fun s => f_MholderNow σ rg (nI s) B tn) (fun _ => Value.int 0) s))) 10 [.ref 5000, .int (nI rg), .ref 20100, .int (nI s), xx_d] []
    refine sw_iload_n O (xx_dt dd_X14_chartNow 6 rfl) rfl ?_
    refine sw_aload_n O (xx_dt dd_X14_chartNow 7 rfl) rfl ?_
    refine sw_get (v := .ref 5001) O (xx_dt dd_X14_chartNow 8 rfl) cl_X14 fl_X14_23 (lm_mod (σ := σ)) (by decide) rfl ?_
    refine sw_iload_n O (xx_dt dd_X14_chartNow 9 rfl) rfl ?_
    refine sw_callVL (ci := 6) (as := [.int (nI rg)]) (st := [.int (nI s)]) (st2 := [.ref (5010 + rg), .int (nI s)]) O (ct_get (z := z) (σ := σ) (h := (hBM h (2 * s - 1) 0 (gD (fun s => f_MholderNow σ rg (nI s) B tn) (fun _ => Value.int 0) s))) hl hbs (lm_5001 (z := z) (σ := σ) (h := (hBM h (2 * s - 1) 0 (gD (fun s => f_MholderNow σ rg (nI s) B tn) (fun _ => Value.int 0) s))) (R := R) hR (by omega)) (by omega) (i := rg) (x := 5010 + rg) (by omega) (by omega) rfl) ce_Jx4a65c_get_915e3 ml_X14_61 iv_Jx4a65c_get_915e3 cl_Jx4a65c rfl (lm_5001 (z := z) (σ := σ) (h := (hBM h (2 * s - 1) 0 (gD (fun s => f_MholderNow σ rg (nI s) B tn) (fun _ => Value.int 0) s))) (R := R) hR (by omega)) (xx_dt dd_X14_chartNow 10 rfl) (by decide) rfl rfl (Nat.le_of_ble_eq_true rfl) rfl ?_
    refine sw_castO O (xx_dt dd_X14_chartNow 11 rfl) cl_X12 (lm_reg (σ := σ) (R := R) hR (by omega) (j := rg) (by omega)) cw_X14_65 ?_
    have hz22 := (hsp rg (by omega)).2
    refine sw_get (v := .int (nI (sp rg))) O (xx_dt dd_X14_chartNow 12 rfl) cl_X12 fl_X14_81 (lm_reg (σ := σ) (R := R) hR (by omega) (j := rg) (by omega)) (by decide) (congrArg Value.int (hsp rg (by omega)).1) ?_
    refine sw_icmp_ge (tgt := 96) O (xx_dt dd_X14_chartNow 13 rfl) (by decide) (fun q => absurd q (nI_ge (b := sp rg) hi (by omega))) (fun _ => ?_)
    refine sw_aload_n O (xx_dt dd_X14_chartNow 14 rfl) rfl ?_
    refine sw_iload_n O (xx_dt dd_X14_chartNow 15 rfl) rfl ?_
    refine sw_iload_n O (xx_dt dd_X14_chartNow 16 rfl) rfl ?_
    refine sw_callVx (as := [.int (nI rg), .int (nI s)]) (st := []) (st2 := [.int (f_MholderNow σ rg (nI s) B tn)]) O (ct_X14_holderNow hl (z := z) (σ := σ) hbs (R := R) hR (by omega) (B := B) hB (by omega) (pk := pk) hpk hkp (tn := tn) htn (r := rg) (y := nI s) (by omega)) ce_X14_holderNow ml_X14_329 iv_X14_holderNow cl_X14 rfl (lm_mod (σ := σ)) (xx_dt dd_X14_chartNow 17 rfl) (by decide) rfl rfl (Nat.le_of_ble_eq_true rfl) rfl ?_
    refine sw_istore (ls2 := [.ref 5000, .int (nI rg), .ref 20100, .int (nI s), .int (f_MholderNow σ rg (nI s) B tn)]) O (xx_dt dd_X14_chartNow 18 rfl) (by decide) rfl ?_
    refine sw_aload_n O (xx_dt dd_X14_chartNow 19 rfl) rfl ?_
    refine sw_iload_n O (xx_dt dd_X14_chartNow 20 rfl) rfl ?_
    refine sw_if_le (tgt := 47) O (xx_dt dd_X14_chartNow 21 rfl) (by decide) (fun q => ?_) (fun q => ?_)
    · have hs0 : s = 0 := by have := (nI_leI (a := s) (b := 0) (by omega) (by omega)).mp q; omega
      obtain ⟨c6, hc6⟩ := tx_c ((htx (c := 2 * s - 1) (b := 0) (G := (gD (fun s => f_MholderNow σ rg (nI s) B tn) (fun _ => Value.int 0) s))).1.2.1) 
      refine sw_ldcT (a := 6) O (xx_dt dd_X14_chartNow 24 rfl) (.tail _ (.head _)) hc6 (by omega) ?_
      refine sw_callVx (as := [.ref 6]) (st := []) (st2 := [.ref 20100]) O (cs_app hl (c := 2 * s - 1) (b := 0) (G := (gD (fun s => f_MholderNow σ rg (nI s) B tn) (fun _ => Value.int 0) s)) (htx).1.2.1 (by omega)) ce_J4_append_15ec4 ml_X14_339 iv_J4_append_15ec4 cl_J4 rfl hBM_r (xx_dt dd_X14_chartNow 25 rfl) (by decide) rfl rfl (Nat.le_of_ble_eq_true rfl) rfl ?_
      refine sw_iload O (xx_dt dd_X14_chartNow 26 rfl) rfl ?_
      refine sw_iconst (x := (-1)) O (xx_dt dd_X14_chartNow 27 rfl) (by decide) ?_
      refine sw_icmp_ne (tgt := 65) O (xx_dt dd_X14_chartNow 28 rfl) (by decide) (fun q2 => ?_) (fun q2 => ?_)
      · obtain hn := (hho s hi).resolve_left q2
        obtain ⟨x, hx, ex⟩ : ∃ x, x < 10 ∧ f_MholderNow σ rg (nI s) B tn = nI x := ⟨_, by have := hn.2; omega, hn.1⟩
        have hsg : 48 + nI x = sgn (f_MholderNow σ rg (nI s) B tn) := by unfold sgn; rw [if_neg q2, ex]
        obtain ⟨H9, eH9⟩ : ∃ H9, H9 = (setM z σ (hBM h (2 * s - 1 + 0) 0 (apG (fun _ => .int 0) (gD (fun s => f_MholderNow σ rg (nI s) B tn) (fun _ => Value.int 0) s) (2 * s - 1) 0))) := ⟨_, rfl⟩
        have h9f : ∀ q, 20104 ≤ q → q < 20108 → H9 q = none := fun q a1 a2 => by rw [eH9, hBM_o (by omega) (by omega), setM_out (by omega)]; exact hf4 q (by omega) a2
        have h9t : xx_tl H9 := by rw [eH9]; exact htx
        rw [← eH9]
        refine xx_wid (k' := kA + 4) (n' := nA + 25) (by omega) (by omega) ?_
        refine sw_new (k := kA + 3) (n := nA + 21) (r := 20104) O (xx_dt dd_X14_chartNow 31 rfl) cl_J4 nw_X14_332 (h9f 20104 (by omega) (by omega)) (by omega) ?_
        rw [xx_blk_up]
        refine sw_dup O (xx_dt dd_X14_chartNow 32 rfl) rfl ?_
        refine sw_callIx (k := kA + 2) (n := nA + 5) (k' := 1) (n' := 16) (as := []) (st := [.ref 20104, .ref 20100]) (st2 := [.ref 20104, .ref 20100]) O (sb_init hl (h := xx_up H9 20104 (1, 4, fun j => defaultValue (tyJ4 j))) (r := 20104) (v := 20105) (xx_up_eq _ _ _) (by omega) ((xx_up_ne (by omega)).trans (h9f 20105 (by omega) (by omega))) (by omega)) ce_J4_init_da8c8 ml_X14_334 ii_J4_init_da8c8 (xx_dt dd_X14_chartNow 33 rfl) (by decide) rfl rfl (Nat.le_of_ble_eq_true rfl) rfl ?_
        rw [hIM_new]
        obtain ⟨kC, ekC⟩ : ∃ k, k = kA + 2 := ⟨_, rfl⟩
        obtain ⟨nC, enC⟩ : ∃ k, k = nA + 5 := ⟨_, rfl⟩
        refine xx_wid (k' := kC) (n' := nC) (by omega) (by omega) ?_
        have h6 : xx_tx (hIM H9 0 (fun _ => Value.int 0)) 6 9 0 (fun _ => .int 0) := tx_at h9t.1.2.1 (hIM_o (by omega) (by omega)) (hIM_o (by omega) (by omega))
        obtain ⟨c6, hc6⟩ := tx_c h6
        refine sw_ldcT (a := 6) O (xx_dt dd_X14_chartNow 34 rfl) (.tail _ (.head _)) hc6 (by omega) ?_
        refine sw_callVx (as := [.ref 6]) (st := [.ref 20100]) (st2 := [.ref 20104, .ref 20100]) O (sb_appendS hl hIM_r hIM_v (by omega) (by omega) (by omega) h6 (by omega)) ce_J4_append_15ec4 ml_X14_339 iv_J4_append_15ec4 cl_J4 rfl hIM_r (xx_dt dd_X14_chartNow 35 rfl) (by decide) rfl rfl (Nat.le_of_ble_eq_true rfl) rfl ?_
        rw [hIM_up]
        refine sw_iload O (xx_dt dd_X14_chartNow 36 rfl) rfl ?_
        rw [ex]
        obtain ⟨F4, h4, hF4⟩ := h9t.2
        refine sw_callVx (as := [.int (nI x)]) (st := [.ref 20100]) (st2 := [.ref 20104, .ref 20100]) O (sb_appendI hl (r := 20104) (v := 20105) (c := 0 + 0) (b := 0) (G := (apG (fun _ => Value.int 0) (fun _ => Value.int 0) 0 0)) hIM_r hIM_v (by omega) (by omega) (by omega) (by omega) hx ((hIM_o (by omega) (by omega)).trans h4) (hF4 x hx) (nar_dig hx)) ce_J4_append_bf812 ml_X14_345 iv_J4_append_bf812 cl_J4 rfl hIM_r (xx_dt dd_X14_chartNow 37 rfl) (by decide) rfl rfl (Nat.le_of_ble_eq_true rfl) rfl ?_
        rw [hIM_up]
        refine xx_wid (k' := kA + 2) (n' := nA + (0 + 0 + 1 + 4)) (by omega) (by omega) (sw_callVx (k := kA) (n := nA) (as := []) (st := [.ref 20100]) (st2 := [.ref 20106, .ref 20100]) O (sb_toString hl (r := 20104) (v := 20105) (t := 20106) (u := 20107) (c := 0 + 0 + 1) (b := 0) (G := (updV (apG (fun _ => Value.int 0) (fun _ => Value.int 0) 0 0) (0 + 0) (.int (48 + nI x)))) hIM_r hIM_v ((hIM_o (by omega) (by omega)).trans (h9f 20106 (by omega) (by omega))) ((hIM_o (by omega) (by omega)).trans (h9f 20107 (by omega) (by omega))) (by omega) (by omega) (by omega) (fun j hj => ⟨48 + nI x, by unfold updV; rw [if_pos (by omega)], fit_dig hx⟩) (by omega)) ce_J4_toString_0e30d ml_X14_348 iv_J4_toString_0e30d cl_J4 rfl hIM_r (xx_dt dd_X14_chartNow 38 rfl) (by decide) rfl rfl (Nat.le_of_ble_eq_true rfl) rfl ?_)
        obtain ⟨W, eW⟩ : ∃ W : Nat → Value, W = (fun j => if j < 0 + 0 + 1 then (updV (apG (fun _ => Value.int 0) (fun _ => Value.int 0) 0 0) (0 + 0) (.int (48 + nI x))) j else .int 0) := ⟨_, rfl⟩
        have hW0 : W 0 = .int (48 + nI x) := by rw [eW]; rfl
        rw [← eW]
        show SW Y _ _ (hJM (hIM H9 (0 + 0 + 1) (updV (apG (fun _ => Value.int 0) (fun _ => Value.int 0) 0 0) (0 + 0) (.int (48 + nI x)))) 1 W) _ _ _
        have hj : xx_tx (hJM (hIM H9 (0 + 0 + 1) (updV (apG (fun _ => Value.int 0) (fun _ => Value.int 0) 0 0) (0 + 0) (.int (48 + nI x)))) 1 W) 20106 20107 1 W := ⟨⟨_, hJM_t, rfl, rfl⟩, hJM_u, fun j hj => (by rw [show j = 0 by omega]; exact ⟨_, hW0, fit_dig hx⟩), by omega⟩
        have hr9 : hJM (hIM H9 (0 + 0 + 1) (updV (apG (fun _ => Value.int 0) (fun _ => Value.int 0) 0 0) (0 + 0) (.int (48 + nI x)))) 1 W 20100 = some (1, 4, xx_sb 20101 (2 * s - 1 + 0) 0) := (hJM_o (by omega) (by omega)).trans ((hIM_o (by omega) (by omega)).trans (by rw [eH9]; exact hBM_r))
        have hv9 : hJM (hIM H9 (0 + 0 + 1) (updV (apG (fun _ => Value.int 0) (fun _ => Value.int 0) 0 0) (0 + 0) (.int (48 + nI x)))) 1 W 20101 = some (102, 16, (apG (fun _ => .int 0) (gD (fun s => f_MholderNow σ rg (nI s) B tn) (fun _ => Value.int 0) s) (2 * s - 1) 0)) := (hJM_o (by omega) (by omega)).trans ((hIM_o (by omega) (by omega)).trans (by rw [eH9]; exact hBM_v))
        refine sw_callVx (as := [.ref 20106]) (st := []) (st2 := [.ref 20100]) O (sb_appendS hl hr9 hv9 (by omega) (by omega) (by omega) hj (by omega)) ce_J4_append_15ec4 ml_X14_339 iv_J4_append_15ec4 cl_J4 rfl hr9 (xx_dt dd_X14_chartNow 39 rfl) (by decide) rfl rfl (Nat.le_of_ble_eq_true rfl) rfl ?_
        refine sw_pop O (xx_dt dd_X14_chartNow 40 rfl) rfl ?_
        subst eH9
        rw [cs_0 hs0 (hW0.trans (congrArg Value.int hsg)), show 2 * s - 1 + 0 + 1 = 2 * (s + 1) - 1 by omega]
        refine sw_drop (h2 := setM z σ (hBM h (2 * (s + 1) - 1) 0 (gD (fun s => f_MholderNow σ rg (nI s) B tn) (fun _ => Value.int 0) (s + 1)))) (sub_IJ (fun q a1 a2 => hf4 q (by omega) a2)) (cls_BM hcl (fun j _ => gD_I j)) (by rw [hh]; exact fun r hr9 => chart_dom hr9) (by intro v9 hv9; simp only [List.mem_cons, List.not_mem_nil, or_false] at hv9; rcases hv9 with rfl | rfl | rfl | rfl | rfl <;> first | exact in_mod | exact in_BM | trivial) (by intro v9 hv9; cases hv9) ?_
        refine sw_iinc (y := nI (s + 1)) (ls2 := [.ref 5000, .int (nI rg), .ref 20100, .int (nI (s + 1)), .int (nI x)]) O (xx_dt dd_X14_chartNow 41 rfl) rfl (nI_1 _) (by decide) rfl ?_
        refine sw_goto (tgt := 10) O (xx_dt dd_X14_chartNow 42 rfl) (by decide) ?_
        refine sw_dum (ls2 := [.ref 5000, .int (nI rg), .ref 20100, .int (nI (s + 1)), xx_d]) ⟨.inr rfl, .inr rfl, .inr rfl, .inr rfl, .inl rfl, trivial⟩ ?_
        refine xx_wid (k' := 2 + 4 * (sp rg - (s + 1))) (n' := 13 + 25 * (sp rg - (s + 1))) (by omega) (by omega) ?_
        exact kk
      · have hsg : (45 : Int32) = sgn (f_MholderNow σ rg (nI s) B tn) := by unfold sgn; rw [if_pos q2]
        obtain ⟨c7, hc7⟩ := tx_c ((htx (c := 2 * s - 1 + 0) (b := 0) (G := (apG (fun _ => .int 0) (gD (fun s => f_MholderNow σ rg (nI s) B tn) (fun _ => Value.int 0) s) (2 * s - 1) 0))).1.2.2) 
        refine sw_ldcT (a := 7) O (xx_dt dd_X14_chartNow 29 rfl) (.tail _ (.tail _ (.head _))) hc7 (by omega) ?_
        refine sw_goto (tgt := 86) O (xx_dt dd_X14_chartNow 30 rfl) (by decide) ?_
        refine sw_callVx (as := [.ref 7]) (st := []) (st2 := [.ref 20100]) O (cs_app hl (c := 2 * s - 1 + 0) (b := 0) (G := (apG (fun _ => .int 0) (gD (fun s => f_MholderNow σ rg (nI s) B tn) (fun _ => Value.int 0) s) (2 * s - 1) 0)) (htx).1.2.2 (by omega)) ce_J4_append_15ec4 ml_X14_339 iv_J4_append_15ec4 cl_J4 rfl hBM_r (xx_dt dd_X14_chartNow 39 rfl) (by decide) rfl rfl (Nat.le_of_ble_eq_true rfl) rfl ?_
        rw [cs_0 hs0 (congrArg Value.int hsg), show 2 * s - 1 + 0 + 1 = 2 * (s + 1) - 1 by omega]
        refine sw_pop O (xx_dt dd_X14_chartNow 40 rfl) rfl ?_
        refine sw_iinc (y := nI (s + 1)) (ls2 := [.ref 5000, .int (nI rg), .ref 20100, .int (nI (s + 1)), .int (f_MholderNow σ rg (nI s) B tn)]) O (xx_dt dd_X14_chartNow 41 rfl) rfl (nI_1 _) (by decide) rfl ?_
        refine sw_goto (tgt := 10) O (xx_dt dd_X14_chartNow 42 rfl) (by decide) ?_
        refine sw_dum (ls2 := [.ref 5000, .int (nI rg), .ref 20100, .int (nI (s + 1)), xx_d]) ⟨.inr rfl, .inr rfl, .inr rfl, .inr rfl, .inl rfl, trivial⟩ ?_
        refine xx_wid (k' := 2 + 4 * (sp rg - (s + 1))) (n' := 13 + 25 * (sp rg - (s + 1))) (by omega) (by omega) ?_
        exact kk
    · have hs : 0 < s := Nat.pos_of_ne_zero (fun e => q (by rw [e]; exact Int32.le_refl _))
      obtain ⟨c5, hc5⟩ := tx_c ((htx (c := 2 * s - 1) (b := 0) (G := (gD (fun s => f_MholderNow σ rg (nI s) B tn) (fun _ => Value.int 0) s))).1.1) 
      refine sw_ldcT (a := 5) O (xx_dt dd_X14_chartNow 22 rfl) (.head _) hc5 (by omega) ?_
      refine sw_goto (tgt := 50) O (xx_dt dd_X14_chartNow 23 rfl) (by decide) ?_
      refine sw_callVx (as := [.ref 5]) (st := []) (st2 := [.ref 20100]) O (cs_app hl (c := 2 * s - 1) (b := 0) (G := (gD (fun s => f_MholderNow σ rg (nI s) B tn) (fun _ => Value.int 0) s)) (htx).1.1 (by omega)) ce_J4_append_15ec4 ml_X14_339 iv_J4_append_15ec4 cl_J4 rfl hBM_r (xx_dt dd_X14_chartNow 25 rfl) (by decide) rfl rfl (Nat.le_of_ble_eq_true rfl) rfl ?_
      refine sw_iload O (xx_dt dd_X14_chartNow 26 rfl) rfl ?_
      refine sw_iconst (x := (-1)) O (xx_dt dd_X14_chartNow 27 rfl) (by decide) ?_
      refine sw_icmp_ne (tgt := 65) O (xx_dt dd_X14_chartNow 28 rfl) (by decide) (fun q2 => ?_) (fun q2 => ?_)
      · obtain hn := (hho s hi).resolve_left q2
        obtain ⟨x, hx, ex⟩ : ∃ x, x < 10 ∧ f_MholderNow σ rg (nI s) B tn = nI x := ⟨_, by have := hn.2; omega, hn.1⟩
        have hsg : 48 + nI x = sgn (f_MholderNow σ rg (nI s) B tn) := by unfold sgn; rw [if_neg q2, ex]
        obtain ⟨H9, eH9⟩ : ∃ H9, H9 = (setM z σ (hBM h (2 * s - 1 + 1) 0 (apG (fun _ => .int 44) (gD (fun s => f_MholderNow σ rg (nI s) B tn) (fun _ => Value.int 0) s) (2 * s - 1) 1))) := ⟨_, rfl⟩
        have h9f : ∀ q, 20104 ≤ q → q < 20108 → H9 q = none := fun q a1 a2 => by rw [eH9, hBM_o (by omega) (by omega), setM_out (by omega)]; exact hf4 q (by omega) a2
        have h9t : xx_tl H9 := by rw [eH9]; exact htx
        rw [← eH9]
        refine xx_wid (k' := kA + 4) (n' := nA + 25) (by omega) (by omega) ?_
        refine sw_new (k := kA + 3) (n := nA + 21) (r := 20104) O (xx_dt dd_X14_chartNow 31 rfl) cl_J4 nw_X14_332 (h9f 20104 (by omega) (by omega)) (by omega) ?_
        rw [xx_blk_up]
        refine sw_dup O (xx_dt dd_X14_chartNow 32 rfl) rfl ?_
        refine sw_callIx (k := kA + 2) (n := nA + 5) (k' := 1) (n' := 16) (as := []) (st := [.ref 20104, .ref 20100]) (st2 := [.ref 20104, .ref 20100]) O (sb_init hl (h := xx_up H9 20104 (1, 4, fun j => defaultValue (tyJ4 j))) (r := 20104) (v := 20105) (xx_up_eq _ _ _) (by omega) ((xx_up_ne (by omega)).trans (h9f 20105 (by omega) (by omega))) (by omega)) ce_J4_init_da8c8 ml_X14_334 ii_J4_init_da8c8 (xx_dt dd_X14_chartNow 33 rfl) (by decide) rfl rfl (Nat.le_of_ble_eq_true rfl) rfl ?_
        rw [hIM_new]
        obtain ⟨kC, ekC⟩ : ∃ k, k = kA + 2 := ⟨_, rfl⟩
        obtain ⟨nC, enC⟩ : ∃ k, k = nA + 5 := ⟨_, rfl⟩
        refine xx_wid (k' := kC) (n' := nC) (by omega) (by omega) ?_
        have h6 : xx_tx (hIM H9 0 (fun _ => Value.int 0)) 6 9 0 (fun _ => .int 0) := tx_at h9t.1.2.1 (hIM_o (by omega) (by omega)) (hIM_o (by omega) (by omega))
        obtain ⟨c6, hc6⟩ := tx_c h6
        refine sw_ldcT (a := 6) O (xx_dt dd_X14_chartNow 34 rfl) (.tail _ (.head _)) hc6 (by omega) ?_
        refine sw_callVx (as := [.ref 6]) (st := [.ref 20100]) (st2 := [.ref 20104, .ref 20100]) O (sb_appendS hl hIM_r hIM_v (by omega) (by omega) (by omega) h6 (by omega)) ce_J4_append_15ec4 ml_X14_339 iv_J4_append_15ec4 cl_J4 rfl hIM_r (xx_dt dd_X14_chartNow 35 rfl) (by decide) rfl rfl (Nat.le_of_ble_eq_true rfl) rfl ?_
        rw [hIM_up]
        refine sw_iload O (xx_dt dd_X14_chartNow 36 rfl) rfl ?_
        rw [ex]
        obtain ⟨F4, h4, hF4⟩ := h9t.2
        refine sw_callVx (as := [.int (nI x)]) (st := [.ref 20100]) (st2 := [.ref 20104, .ref 20100]) O (sb_appendI hl (r := 20104) (v := 20105) (c := 0 + 0) (b := 0) (G := (apG (fun _ => Value.int 0) (fun _ => Value.int 0) 0 0)) hIM_r hIM_v (by omega) (by omega) (by omega) (by omega) hx ((hIM_o (by omega) (by omega)).trans h4) (hF4 x hx) (nar_dig hx)) ce_J4_append_bf812 ml_X14_345 iv_J4_append_bf812 cl_J4 rfl hIM_r (xx_dt dd_X14_chartNow 37 rfl) (by decide) rfl rfl (Nat.le_of_ble_eq_true rfl) rfl ?_
        rw [hIM_up]
        refine xx_wid (k' := kA + 2) (n' := nA + (0 + 0 + 1 + 4)) (by omega) (by omega) (sw_callVx (k := kA) (n := nA) (as := []) (st := [.ref 20100]) (st2 := [.ref 20106, .ref 20100]) O (sb_toString hl (r := 20104) (v := 20105) (t := 20106) (u := 20107) (c := 0 + 0 + 1) (b := 0) (G := (updV (apG (fun _ => Value.int 0) (fun _ => Value.int 0) 0 0) (0 + 0) (.int (48 + nI x)))) hIM_r hIM_v ((hIM_o (by omega) (by omega)).trans (h9f 20106 (by omega) (by omega))) ((hIM_o (by omega) (by omega)).trans (h9f 20107 (by omega) (by omega))) (by omega) (by omega) (by omega) (fun j hj => ⟨48 + nI x, by unfold updV; rw [if_pos (by omega)], fit_dig hx⟩) (by omega)) ce_J4_toString_0e30d ml_X14_348 iv_J4_toString_0e30d cl_J4 rfl hIM_r (xx_dt dd_X14_chartNow 38 rfl) (by decide) rfl rfl (Nat.le_of_ble_eq_true rfl) rfl ?_)
        obtain ⟨W, eW⟩ : ∃ W : Nat → Value, W = (fun j => if j < 0 + 0 + 1 then (updV (apG (fun _ => Value.int 0) (fun _ => Value.int 0) 0 0) (0 + 0) (.int (48 + nI x))) j else .int 0) := ⟨_, rfl⟩
        have hW0 : W 0 = .int (48 + nI x) := by rw [eW]; rfl
        rw [← eW]
        show SW Y _ _ (hJM (hIM H9 (0 + 0 + 1) (updV (apG (fun _ => Value.int 0) (fun _ => Value.int 0) 0 0) (0 + 0) (.int (48 + nI x)))) 1 W) _ _ _
        have hj : xx_tx (hJM (hIM H9 (0 + 0 + 1) (updV (apG (fun _ => Value.int 0) (fun _ => Value.int 0) 0 0) (0 + 0) (.int (48 + nI x)))) 1 W) 20106 20107 1 W := ⟨⟨_, hJM_t, rfl, rfl⟩, hJM_u, fun j hj => (by rw [show j = 0 by omega]; exact ⟨_, hW0, fit_dig hx⟩), by omega⟩
        have hr9 : hJM (hIM H9 (0 + 0 + 1) (updV (apG (fun _ => Value.int 0) (fun _ => Value.int 0) 0 0) (0 + 0) (.int (48 + nI x)))) 1 W 20100 = some (1, 4, xx_sb 20101 (2 * s - 1 + 1) 0) := (hJM_o (by omega) (by omega)).trans ((hIM_o (by omega) (by omega)).trans (by rw [eH9]; exact hBM_r))
        have hv9 : hJM (hIM H9 (0 + 0 + 1) (updV (apG (fun _ => Value.int 0) (fun _ => Value.int 0) 0 0) (0 + 0) (.int (48 + nI x)))) 1 W 20101 = some (102, 16, (apG (fun _ => .int 44) (gD (fun s => f_MholderNow σ rg (nI s) B tn) (fun _ => Value.int 0) s) (2 * s - 1) 1)) := (hJM_o (by omega) (by omega)).trans ((hIM_o (by omega) (by omega)).trans (by rw [eH9]; exact hBM_v))
        refine sw_callVx (as := [.ref 20106]) (st := []) (st2 := [.ref 20100]) O (sb_appendS hl hr9 hv9 (by omega) (by omega) (by omega) hj (by omega)) ce_J4_append_15ec4 ml_X14_339 iv_J4_append_15ec4 cl_J4 rfl hr9 (xx_dt dd_X14_chartNow 39 rfl) (by decide) rfl rfl (Nat.le_of_ble_eq_true rfl) rfl ?_
        refine sw_pop O (xx_dt dd_X14_chartNow 40 rfl) rfl ?_
        subst eH9
        rw [cs_1 hs (hW0.trans (congrArg Value.int hsg)), show 2 * s - 1 + 1 + 1 = 2 * (s + 1) - 1 by omega]
        refine sw_drop (h2 := setM z σ (hBM h (2 * (s + 1) - 1) 0 (gD (fun s => f_MholderNow σ rg (nI s) B tn) (fun _ => Value.int 0) (s + 1)))) (sub_IJ (fun q a1 a2 => hf4 q (by omega) a2)) (cls_BM hcl (fun j _ => gD_I j)) (by rw [hh]; exact fun r hr9 => chart_dom hr9) (by intro v9 hv9; simp only [List.mem_cons, List.not_mem_nil, or_false] at hv9; rcases hv9 with rfl | rfl | rfl | rfl | rfl <;> first | exact in_mod | exact in_BM | trivial) (by intro v9 hv9; cases hv9) ?_
        refine sw_iinc (y := nI (s + 1)) (ls2 := [.ref 5000, .int (nI rg), .ref 20100, .int (nI (s + 1)), .int (nI x)]) O (xx_dt dd_X14_chartNow 41 rfl) rfl (nI_1 _) (by decide) rfl ?_
        refine sw_goto (tgt := 10) O (xx_dt dd_X14_chartNow 42 rfl) (by decide) ?_
        refine sw_dum (ls2 := [.ref 5000, .int (nI rg), .ref 20100, .int (nI (s + 1)), xx_d]) ⟨.inr rfl, .inr rfl, .inr rfl, .inr rfl, .inl rfl, trivial⟩ ?_
        refine xx_wid (k' := 2 + 4 * (sp rg - (s + 1))) (n' := 13 + 25 * (sp rg - (s + 1))) (by omega) (by omega) ?_
        exact kk
      · have hsg : (45 : Int32) = sgn (f_MholderNow σ rg (nI s) B tn) := by unfold sgn; rw [if_pos q2]
        obtain ⟨c7, hc7⟩ := tx_c ((htx (c := 2 * s - 1 + 1) (b := 0) (G := (apG (fun _ => .int 44) (gD (fun s => f_MholderNow σ rg (nI s) B tn) (fun _ => Value.int 0) s) (2 * s - 1) 1))).1.2.2) 
        refine sw_ldcT (a := 7) O (xx_dt dd_X14_chartNow 29 rfl) (.tail _ (.tail _ (.head _))) hc7 (by omega) ?_
        refine sw_goto (tgt := 86) O (xx_dt dd_X14_chartNow 30 rfl) (by decide) ?_
        refine sw_callVx (as := [.ref 7]) (st := []) (st2 := [.ref 20100]) O (cs_app hl (c := 2 * s - 1 + 1) (b := 0) (G := (apG (fun _ => .int 44) (gD (fun s => f_MholderNow σ rg (nI s) B tn) (fun _ => Value.int 0) s) (2 * s - 1) 1)) (htx).1.2.2 (by omega)) ce_J4_append_15ec4 ml_X14_339 iv_J4_append_15ec4 cl_J4 rfl hBM_r (xx_dt dd_X14_chartNow 39 rfl) (by decide) rfl rfl (Nat.le_of_ble_eq_true rfl) rfl ?_
        rw [cs_1 hs (congrArg Value.int hsg), show 2 * s - 1 + 1 + 1 = 2 * (s + 1) - 1 by omega]
        refine sw_pop O (xx_dt dd_X14_chartNow 40 rfl) rfl ?_
        refine sw_iinc (y := nI (s + 1)) (ls2 := [.ref 5000, .int (nI rg), .ref 20100, .int (nI (s + 1)), .int (f_MholderNow σ rg (nI s) B tn)]) O (xx_dt dd_X14_chartNow 41 rfl) rfl (nI_1 _) (by decide) rfl ?_
        refine sw_goto (tgt := 10) O (xx_dt dd_X14_chartNow 42 rfl) (by decide) ?_
        refine sw_dum (ls2 := [.ref 5000, .int (nI rg), .ref 20100, .int (nI (s + 1)), xx_d]) ⟨.inr rfl, .inr rfl, .inr rfl, .inr rfl, .inl rfl, trivial⟩ ?_
        refine xx_wid (k' := 2 + 4 * (sp rg - (s + 1))) (n' := 13 + 25 * (sp rg - (s + 1))) (by omega) (by omega) ?_
        exact kk
  · have hx : ∀ f i s, s = i → xit (fun _ s => s + 1) f i s = i + f := by
      intro f
      induction f with
      | zero => intro i s e; exact e
      | succ f ih => intro i s e; show xit _ f (i + 1) (s + 1) = _; rw [ih (i + 1) (s + 1) (by rw [e])]; omega
    rw [hx (sp rg) 0 0 rfl, Nat.zero_add]
    refine xx_wid (k' := 2) (n' := 13) (by show _ ≤ 2 + 4 * (sp rg - sp rg); omega) (by show _ ≤ 13 + 25 * (sp rg - sp rg); omega) ?_
    have hbs : xx_bs (hBM h (2 * (sp rg) - 1) 0 (gD (fun s => f_MholderNow σ rg (nI s) B tn) (fun _ => Value.int 0) (sp rg))) := hbs
    show SW Y _ _ (setM z σ (hBM h (2 * (sp rg) - 1) 0 (gD (fun s => f_MholderNow σ rg (nI s) B tn) (fun _ => Value.int 0) (sp rg)))) 10 [.ref 5000, .int (nI rg), .ref 20100, .int (nI ((sp rg))), xx_d] []
    refine sw_iload_n O (xx_dt dd_X14_chartNow 6 rfl) rfl ?_
    refine sw_aload_n O (xx_dt dd_X14_chartNow 7 rfl) rfl ?_
    refine sw_get (v := .ref 5001) O (xx_dt dd_X14_chartNow 8 rfl) cl_X14 fl_X14_23 (lm_mod (σ := σ)) (by decide) rfl ?_
    refine sw_iload_n O (xx_dt dd_X14_chartNow 9 rfl) rfl ?_
    refine sw_callVL (ci := 6) (as := [.int (nI rg)]) (st := [.int (nI ((sp rg)))]) (st2 := [.ref (5010 + rg), .int (nI ((sp rg)))]) O (ct_get (z := z) (σ := σ) (h := (hBM h (2 * (sp rg) - 1) 0 (gD (fun s => f_MholderNow σ rg (nI s) B tn) (fun _ => Value.int 0) (sp rg)))) hl hbs (lm_5001 (z := z) (σ := σ) (h := (hBM h (2 * (sp rg) - 1) 0 (gD (fun s => f_MholderNow σ rg (nI s) B tn) (fun _ => Value.int 0) (sp rg)))) (R := R) hR (by omega)) (by omega) (i := rg) (x := 5010 + rg) (by omega) (by omega) rfl) ce_Jx4a65c_get_915e3 ml_X14_61 iv_Jx4a65c_get_915e3 cl_Jx4a65c rfl (lm_5001 (z := z) (σ := σ) (h := (hBM h (2 * (sp rg) - 1) 0 (gD (fun s => f_MholderNow σ rg (nI s) B tn) (fun _ => Value.int 0) (sp rg)))) (R := R) hR (by omega)) (xx_dt dd_X14_chartNow 10 rfl) (by decide) rfl rfl (Nat.le_of_ble_eq_true rfl) rfl ?_
    refine sw_castO O (xx_dt dd_X14_chartNow 11 rfl) cl_X12 (lm_reg (σ := σ) (R := R) hR (by omega) (j := rg) (by omega)) cw_X14_65 ?_
    have hz22 := (hsp rg (by omega)).2
    refine sw_get (v := .int (nI (sp rg))) O (xx_dt dd_X14_chartNow 12 rfl) cl_X12 fl_X14_81 (lm_reg (σ := σ) (R := R) hR (by omega) (j := rg) (by omega)) (by decide) (congrArg Value.int (hsp rg (by omega)).1) ?_
    refine sw_icmp_ge (tgt := 96) O (xx_dt dd_X14_chartNow 13 rfl) (by decide) (fun _ => ?_) (fun q => absurd (Int32.le_refl _) q)
    refine sw_aload_n O (xx_dt dd_X14_chartNow 43 rfl) rfl ?_
    have hGI := gD_int (f := (fun s => f_MholderNow σ rg (nI s) B tn)) (G := (fun _ => Value.int 0)) (s := sp rg) (fun k hk => (hho k hk).imp id (fun e => ⟨_, by have := e.2; omega, e.1⟩))
    refine xx_wid (k' := 0 + 2) (n' := 0 + (2 * sp rg - 1 + 4)) (by omega) (by omega) (sw_callVx (k := 0) (n := 0) (as := []) (st := []) (st2 := [.ref 20102]) O (sb_toString hl (r := 20100) (v := 20101) (t := 20102) (u := 20103) (c := 2 * sp rg - 1) (b := 0) (G := (gD (fun s => f_MholderNow σ rg (nI s) B tn) (fun _ => Value.int 0) (sp rg))) hBM_r hBM_v ((hBM_o (by omega) (by omega)).trans ((setM_out (by omega)).trans (hf4 20102 (by omega) (by omega)))) ((hBM_o (by omega) (by omega)).trans ((setM_out (by omega)).trans (hf4 20103 (by omega) (by omega)))) (by omega) (by omega) (by omega) hGI (by omega)) ce_J4_toString_0e30d ml_X14_348 iv_J4_toString_0e30d cl_J4 rfl hBM_r (xx_dt dd_X14_chartNow 44 rfl) (by decide) rfl rfl (Nat.le_of_ble_eq_true rfl) rfl ?_)
    rw [hTM_e]
    exact sw_aretD (h' := setM z σ (hTM h (2 * sp rg - 1) (gD (fun s => f_MholderNow σ rg (nI s) B tn) (fun _ => Value.int 0) (sp rg)))) O (xx_dt dd_X14_chartNow 45 rfl) rfl (.inl ⟨_, rfl⟩) (hTM_sub hf4) (hTM_cls hcl (fun j hj => (hGI j hj).imp fun _ e => e.1)) (by rw [hh]; exact hTM_dom hf4) (by rw [← hTM_e, xx_up_ne (by omega), xx_up_eq]; rfl) (by rw [hQ]; exact ⟨rfl, rfl⟩)
