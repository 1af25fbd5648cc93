/-! ===== chart ===== -/
def hS (h : XH) (c : Nat) (G : Nat → Value) : XH := xx_up (xx_up h 4002 (0, 4, xx_so 4003)) 4003 (102, c, fun j => if j < c then G j else .int 0)
section
variable {σ : XS9} {h : XH} {c c' : Nat} {b b' : Int32} {G G' : Nat → Value}
theorem hS_up : xx_up (xx_up (setC σ h) 4002 (0, 4, xx_so 4003)) 4003 (102, c, fun j => if j < c then G j else .int 0) = setC σ (hS h c G) := by
  rw [← setC_up (by omega), ← setC_up (by omega)]
  rfl
theorem hB_new {c0 : XC} : xx_up (xx_up (xx_up (setC σ h) 4000 c0) 4000 (1, 4, xx_sb 4001 c b)) 4001 (102, 16, G) = setC σ (hB h c b G) := by
  rw [xx_up_up, ← setC_up (by omega), ← setC_up (by omega)]
  rfl
theorem hS_sub (h0 : h 4000 = none) (h1 : h 4001 = none) : xx_sub (setC σ (hS h c G)) (setC σ (hS (hB h c' b G') c G)) := by
  intro q d hq
  unfold setC at hq ⊢
  split at hq
  · rename_i e
    rw [if_pos e]
    exact hq
  · rename_i e
    rw [if_neg e]
    unfold hS hB xx_up at *
    by_cases a3 : q = 4003
    · rw [if_pos a3] at hq ⊢
      exact hq
    · rw [if_neg a3] at hq ⊢
      by_cases a2 : q = 4002
      · rw [if_pos a2] at hq ⊢
        exact hq
      · rw [if_neg a2] at hq ⊢
        by_cases a1 : q = 4001
        · rw [a1, h1] at hq
          cases hq
        · rw [if_neg a1]
          by_cases a0 : q = 4000
          · rw [a0, h0] at hq
            cases hq
          · rw [if_neg a0]
            exact hq
theorem hS_cls (hcl : xx_cls (setC σ h)) (hG : ∀ j, j < c → ∃ z : Int32, G j = .int z) : xx_cls (setC σ (hS h c G)) := by
  rw [← hS_up, xx_up_sw (by omega)]
  refine xx_cls.up (xx_cls.up hcl (fun j hj => ?_)) (fun j hj => ?_)
  · show xx_in _ (if j < c then G j else .int 0)
    rw [if_pos hj]
    obtain ⟨z, e⟩ := hG j hj
    rw [e]
    trivial
  · match j, hj with
    | 0, _ => exact (by rw [xx_up_ne (by omega), xx_up_eq]; rfl : ((xx_up (xx_up (setC σ h) 4003 (102, c, fun j => if j < c then G j else .int 0)) 4002 (0, 4, xx_so 4003)) 4003).isSome = true)
    | 1, _ => trivial
    | 2, _ => trivial
    | 3, _ => trivial
theorem hS_dom (h2 : h 4002 = none) (h3 : h 4003 = none) (r : Nat) (hr : (setC σ h r).isSome = true) : (setC σ (hS h c G) r).isSome = true := by
  rw [← hS_up]
  by_cases a3 : r = 4003
  · rw [a3, xx_up_eq]; rfl
  · rw [xx_up_ne a3]
    by_cases a2 : r = 4002
    · rw [a2, xx_up_eq]; rfl
    · rw [xx_up_ne a2]
      exact hr
end
theorem gD_int {f : Nat → Int32} {G : Nat → Value} {s : Nat} (hf : ∀ k, k < s → f k = -1 ∨ ∃ x, x < 10 ∧ f k = nI x) : ∀ j, j < 2 * s - 1 → ∃ z : Int32, gD f G s j = .int z ∧ fits .byte (.int z) = true := by
  intro j hj
  unfold gD
  rw [if_pos hj]
  refine ⟨_, rfl, ?_⟩
  split
  · decide
  · unfold sgn
    rcases hf (j / 2) (by omega) with e | ⟨x, hx, e⟩
    · rw [if_pos e]; decide
    · have : ∀ a : Fin 10, fits .byte (.int (if nI a.1 = -1 then 45 else 48 + nI a.1)) = true := by decide +kernel
      rw [e]
      exact this ⟨x, hx⟩
/-- what chart leaves: its string -/
def g_chart (σ : XS9) (h : XH) (r s : Nat) : XH := hS h (2 * s - 1) (gD (σ (1141 + r)) (fun _ => .int 0) s)
def o_chart (x : Int32) (R : Nat) : XO := if n_lt x R then .inl (some (.ref 4002)) else .inr eIOB
theorem ct_X7_chart {l : Launch} {h : XH} (hl : l.stackTraces = false) {σ : XS9} {R : Nat} (hR : σ 1001 4 = nI R) (hR5 : R ≤ 5) {sp : Nat → Nat} (hsp : ∀ r, r < 5 → σ 1010 r = nI (sp r) ∧ sp r ≤ 5) (hho : ∀ r, r < R → ∀ k, k < sp r → σ (1141 + r) k = -1 ∨ ∃ x, x < 10 ∧ σ (1141 + r) k = nI x) (hdg : xx_dig h) (h0 : h 4000 = none) (h1 : h 4001 = none) (h2 : h 4002 = none) (h3 : h 4003 = none) {x : Int32}  : XEo l m_X7_chart 7 4 40 [.ref 1000, .int x] (setC σ h) (o_chart x R) (if n_lt x R then setC σ (g_chart σ h (cn x) (sp (cn x))) else setC σ h) := by
  refine XMet.of hl rfl rfl (Nat.le_of_ble_eq_true rfl) (fun Y O hh hQ => ?_)
  refine sw_cls (fun hcl => ?_)
  show SW Y 4 40 (setC σ h) 0 [.ref 1000, .int x, xx_d] []
  refine sw_aload_n O (xx_dt dd_X7_chart 0 rfl) rfl ?_
  refine sw_iload_n O (xx_dt dd_X7_chart 1 rfl) rfl ?_
  by_cases q1 : n_lt x R
  · refine sw_callVx (as := [.int x]) (st := []) (st2 := []) (k := 4) (n := 40) (k' := 0) (n' := 0) O (ct_X7_needRegion_ok hl (σ := σ) (R := R) hR (by omega) q1) ce_X7_needRegion ml_X7_87 iv_X7_needRegion cl_X7 rfl (ly_1000 σ h) (xx_dt dd_X7_chart 2 rfl) (by decide) rfl rfl (Nat.le_of_ble_eq_true rfl) rfl ?_
    rw [if_pos q1] at hQ
    refine sw_lsE (ls2 := [.ref 1000, .int (nI (cn x)), xx_d]) (by rw [← q1.1]) ?_
    have hv := q1.2
    have hs5 := (hsp (cn x) (by omega)).2
    refine sw_new (k := 3) (n := 36) (r := 4000) O (xx_dt dd_X7_chart 3 rfl) cl_J4 nw_X7_293 (show setC σ h 4000 = none from (setC_out (by omega)).trans h0) (by omega) ?_
    rw [xx_blk_up]
    refine sw_dup O (xx_dt dd_X7_chart 4 rfl) rfl ?_
    refine sw_callIx (k := 2) (n := 20) (k' := 1) (n' := 16) (as := []) (st := [.ref 4000]) (st2 := [.ref 4000]) O (sb_init hl (h := xx_up (setC σ h) 4000 (1, 4, fun j => defaultValue (tyJ4 j))) (r := 4000) (v := 4001) (xx_up_eq _ _ _) (by omega) ((xx_up_ne (by omega)).trans (show setC σ h 4001 = none from (setC_out (by omega)).trans h1)) (by omega)) ce_J4_init_da8c8 ml_X7_295 ii_J4_init_da8c8 (xx_dt dd_X7_chart 5 rfl) (by decide) rfl rfl (Nat.le_of_ble_eq_true rfl) rfl ?_
    rw [hB_new]
    refine sw_astore_n (ls2 := [.ref 1000, .int (nI (cn x)), .ref 4000]) O (xx_dt dd_X7_chart 6 rfl) (by decide) rfl ?_
    refine sw_aload_n O (xx_dt dd_X7_chart 7 rfl) rfl ?_
    refine sw_get (v := .ref 1005) O (xx_dt dd_X7_chart 8 rfl) cl_X7 fl_X7_43 (ly_1000 σ (hB h 0 0 (fun _ => Value.int 0))) (by decide) rfl ?_
    refine sw_aload_n O (xx_dt dd_X7_chart 9 rfl) rfl ?_
    refine sw_get (v := .ref 1001) O (xx_dt dd_X7_chart 10 rfl) cl_X7 fl_X7_12 (ly_1000 σ (hB h 0 0 (fun _ => Value.int 0))) (by decide) rfl ?_
    refine sw_iload_n O (xx_dt dd_X7_chart 11 rfl) rfl ?_
    refine sw_aload_n O (xx_dt dd_X7_chart 12 rfl) rfl ?_
    refine sw_callVx (as := [.ref 1001, .int (nI (cn x)), .ref 4000]) (st := []) (st2 := []) (k := 2) (n := 20) (k' := 0) (n' := 0) O (ct_X3_draw hl (rg := cn x) (sp := sp (cn x)) (by omega) (hsp (cn x) (by omega)).1 hs5 hdg (hho (cn x) hv)) ce_X3_draw ml_X7_296 iv_X3_draw cl_X3 rfl (ly_1005 σ (hB h 0 0 (fun _ => Value.int 0))) (xx_dt dd_X7_chart 13 rfl) (by decide) rfl rfl (Nat.le_of_ble_eq_true rfl) rfl ?_
    refine sw_aload_n O (xx_dt dd_X7_chart 14 rfl) rfl ?_
    refine xx_wid (k' := 0 + 2) (n' := 0 + (2 * sp (cn x) - 1 + 4)) (by omega) (by omega) (sw_callVx (k := 0) (n := 0) (as := []) (st := []) (st2 := [.ref 4002]) O (sb_toString hl (r := 4000) (v := 4001) (t := 4002) (u := 4003) (c := 2 * sp (cn x) - 1) (b := 0) (G := (gD (σ (1141 + cn x)) (fun _ => Value.int 0) (sp (cn x)))) hB_r hB_v ((hB_o (by omega) (by omega) (by omega)).trans h2) ((hB_o (by omega) (by omega) (by omega)).trans h3) (by omega) (by omega) (by omega) (gD_int (hho (cn x) hv)) (by omega)) ce_J4_toString_0e30d ml_X7_300 iv_J4_toString_0e30d cl_J4 rfl hB_r (xx_dt dd_X7_chart 15 rfl) (by decide) rfl rfl (Nat.le_of_ble_eq_true rfl) rfl ?_)
    rw [hS_up]
    exact sw_aretD (h' := setC σ (g_chart σ h (cn x) (sp (cn x)))) O (xx_dt dd_X7_chart 16 rfl) rfl (.inl ⟨_, rfl⟩) (hS_sub h0 h1) (hS_cls hcl (fun j hj => (gD_int (hho (cn x) hv) j hj).imp fun _ e => e.1)) (by rw [hh]; exact hS_dom h2 h3) (by unfold g_chart; rw [← hS_up, xx_up_ne (by omega), xx_up_eq]; rfl) (by rw [hQ]; exact ⟨by unfold o_chart; rw [if_pos q1], rfl⟩)
  · exact sw_callVt (as := [.int x]) (st := []) (k := 3) (n := 34) (k' := 1) (n' := 6) O (ct_X7_needRegion_no hl (σ := σ) (R := R) hR (by omega) q1) ce_X7_needRegion ml_X7_87 iv_X7_needRegion cl_X7 rfl (ly_1000 σ h) (xx_dt dd_X7_chart 2 rfl) (by decide) rfl rfl (Nat.le_of_ble_eq_true rfl) (by rw [hQ]; exact ⟨by unfold o_chart; rw [if_neg q1], by rw [if_neg q1]⟩)
