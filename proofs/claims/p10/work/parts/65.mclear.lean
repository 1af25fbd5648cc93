/-! ===== the reference packs stations: packs, clear ===== -/
def f_Mcp (σ : XS9) (x : Int32) (fr C : Nat) (rg : Nat → Nat) (qa ch : Nat) : Int32 := (fg_Mpk x C rg qa ch C).1 σ fr
def g_Mcp (σ : XS9) (x : Int32) (fr C : Nat) (rg : Nat → Nat) (qa ch : Nat) : XS9 := (fg_Mpk x C rg qa ch C).2 σ fr
theorem fr_Mcp {σ : XS9} {x : Int32} {fr C : Nat} {rg : Nat → Nat} {qa ch q : Nat} (h : q ≠ qa ∧ ch ≤ 6) : g_Mcp σ x fr C rg qa ch q = σ q := (fr_Mpk h.2 C).1 q h.1
theorem fl_Mcp {σ : XS9} {x : Int32} {fr C : Nat} {rg : Nat → Nat} {qa ch : Nat} (h : ch ≤ 6) : g_Mcp σ x fr C rg qa ch qa 20 = σ qa 20 ∧ g_Mcp σ x fr C rg qa ch qa 21 = σ qa 21 := (fr_Mpk h C).2
theorem ct_X14_canPack {l : Launch} {h : XH} (hl : l.stackTraces = false) {z : Int64} {σ : XS9} (hbs : xx_bs h) {R : Nat} (hR : σ 5001 900 = nI R) (hR5 : R ≤ 5) {C : Nat} (hS : σ 5004 900 = nI (2 * C)) (hC10 : C ≤ 10) {rg : Nat → Nat} (hrg : ∀ q, q < C → σ 5004 (2 * q) = nI (rg q) ∧ rg q < R) {qa ch : Nat} (hqa : 20000 ≤ qa ∧ qa < 20010) (hqf : σ qa 20 = nI 1) (hqn : σ qa 21 = nI ch) (hch : ch ≤ 6) {x : Int32} {fr : Nat} (hfr2 : fr ≤ C) : XEx l m_X14_canPack (C + 7) 0 0 [.ref 5000, .int x, .int (nI fr), .ref qa] (setM z σ h) (some (.int (f_Mcp σ x fr C rg qa ch))) (setM z (g_Mcp σ x fr C rg qa ch) h) := ct_Mpk hl hbs hR5 hC10 hqa hch C σ fr (by omega) hfr2 hqf hqn hR hS hrg
def f_Mpacks (σ : XS9) (x y : Int32) (R C : Nat) (rg : Nat → Nat) : Int32 := (if n_lt x (2 ^ C) then (if n_bt y 1 6 then (if (f_Mcp (uR (u2 σ 5000 0 0) 20000 (rowN (cn y))) (nI (cn x)) 0 C rg 20000 (cn y)) = 0 then 0 else 1) else 0) else 0)
def g_Mpacks (σ : XS9) (x y : Int32) (R C : Nat) (rg : Nat → Nat) : XS9 := (if n_lt x (2 ^ C) then (if n_bt y 1 6 then u2 (g_Mcp (uR (u2 σ 5000 0 0) 20000 (rowN (cn y))) (nI (cn x)) 0 C rg 20000 (cn y)) 20000 20 0 else u2 σ 5000 0 1) else u2 σ 5000 0 1)
theorem ct_X14_packs {l : Launch} {h : XH} (hl : l.stackTraces = false) {z : Int64} {σ : XS9} (hbs : xx_bs h) (hfr : ∀ r, 5000 ≤ r → r < 20010 → h r = none) (hme : mem_eq σ σ) {R : Nat} (hR : σ 5001 900 = nI R) (hR5 : R ≤ 5) {C : Nat} (hS : σ 5004 900 = nI (2 * C)) (hC10 : C ≤ 10) {rg : Nat → Nat} (hrg : ∀ q, q < C → σ 5004 (2 * q) = nI (rg q) ∧ rg q < R) {x y : Int32}  : XEx l m_X14_packs 18 1 6 [.ref 5000, .int x, .int y] (setM z σ h) (some (.int (f_Mpacks σ x y R C rg))) (setM z (g_Mpacks σ x y R C rg) h) := by
  refine XMet.of hl rfl rfl (Nat.le_of_ble_eq_true rfl) (fun Y O hh hQ => ?_)
  refine sw_cls (fun hcl => ?_)
  show SW Y 1 6 (setM z σ h) 0 [.ref 5000, .int x, .int y] []
  refine sw_aload_n O (xx_dt dd_X14_packs 0 rfl) rfl ?_
  refine sw_aload_n O (xx_dt dd_X14_packs 1 rfl) rfl ?_
  refine sw_iload_n O (xx_dt dd_X14_packs 2 rfl) rfl ?_
  refine sw_callVx (as := [.int x]) (st := [.ref 5000]) (st2 := [.int (bZ (n_lt x (2 ^ C))), .ref 5000]) O (ct_X14_areStations hl (z := z) (σ := σ) hbs (C := C) hS hC10 (x := x)) ce_X14_areStations ml_X14_279 iv_X14_areStations cl_X14 rfl (lm_mod (σ := σ)) (xx_dt dd_X14_packs 3 rfl) (by omega) rfl rfl (Nat.le_of_ble_eq_true rfl) rfl ?_
  refine sw_if_eqB (tgt := 23) O (xx_dt dd_X14_packs 4 rfl) (by decide) (fun q1 => ?_) (fun q1 => ?_)
  · refine sw_iconst (x := 1) O (xx_dt dd_X14_packs 12 rfl) (by decide) ?_
    refine sw_put (h2 := setM z (u2 σ 5000 0 1) h) O (xx_dt dd_X14_packs 13 rfl) cl_X14 fl_X14_46 (lm_mod (σ := σ)) (by decide) (by omega) rfl (fun _ => ⟨rfl, rfl⟩) (pm_mod (σ := σ) (by omega)) ?_
    refine sw_aload_n O (xx_dt dd_X14_packs 14 rfl) rfl ?_
    refine sw_get (v := .int 1) O (xx_dt dd_X14_packs 15 rfl) cl_X14 fl_X14_46 (lm_mod (σ := u2 σ 5000 0 1)) (by decide) rfl ?_
    refine sw_if_ne (tgt := 50) O (xx_dt dd_X14_packs 16 rfl) (by decide) (fun q2 => ?_) (fun q2 => ?_)
    · refine sw_iconst (x := 0) O (xx_dt dd_X14_packs 26 rfl) (by decide) ?_
      exact sw_iret O (xx_dt dd_X14_packs 27 rfl) rfl rfl (by rw [hQ]; exact ⟨by unfold f_Mpacks; simp only [if_neg q1], by unfold g_Mpacks; simp only [if_neg q1]⟩)
    · exact absurd q2 (by decide)
  · have hc6 := q1
    refine sw_lsE (ls2 := [.ref 5000, .int (nI (cn x)), .int y]) (by rw [← hc6.1]) ?_
    have hd6 := hc6.2
    refine sw_iload_n O (xx_dt dd_X14_packs 5 rfl) rfl ?_
    refine sw_iconst (x := 1) O (xx_dt dd_X14_packs 6 rfl) (by decide) ?_
    refine sw_bipush (x := 6) O (xx_dt dd_X14_packs 7 rfl) (by decide) ?_
    refine sw_callSx (as := [.int y, .int 1, .int 6]) (st := [.ref 5000]) (st2 := [.int (bZ (n_bt y 1 6)), .ref 5000]) O (ct_X14_is hl) ce_X14_is ml_X14_70 st_X14_is (xx_dt dd_X14_packs 8 rfl) (by omega) rfl rfl (Nat.le_of_ble_eq_true rfl) rfl ?_
    refine sw_if_eqB (tgt := 23) O (xx_dt dd_X14_packs 9 rfl) (by decide) (fun q3 => ?_) (fun q3 => ?_)
    · refine sw_iconst (x := 1) O (xx_dt dd_X14_packs 12 rfl) (by decide) ?_
      refine sw_put (h2 := setM z (u2 σ 5000 0 1) h) O (xx_dt dd_X14_packs 13 rfl) cl_X14 fl_X14_46 (lm_mod (σ := σ)) (by decide) (by omega) rfl (fun _ => ⟨rfl, rfl⟩) (pm_mod (σ := σ) (by omega)) ?_
      refine sw_aload_n O (xx_dt dd_X14_packs 14 rfl) rfl ?_
      refine sw_get (v := .int 1) O (xx_dt dd_X14_packs 15 rfl) cl_X14 fl_X14_46 (lm_mod (σ := u2 σ 5000 0 1)) (by decide) rfl ?_
      refine sw_if_ne (tgt := 50) O (xx_dt dd_X14_packs 16 rfl) (by decide) (fun q4 => ?_) (fun q4 => ?_)
      · refine sw_iconst (x := 0) O (xx_dt dd_X14_packs 26 rfl) (by decide) ?_
        exact sw_iret O (xx_dt dd_X14_packs 27 rfl) rfl rfl (by rw [hQ]; exact ⟨by unfold f_Mpacks; simp only [if_pos q1, if_neg q3], by unfold g_Mpacks; simp only [if_pos q1, if_neg q3]⟩)
      · exact absurd q4 (by decide)
    · have hc16 := (bt_nat 6 q3 (by decide) rfl (by decide))
      refine sw_lsE (ls2 := [.ref 5000, .int (nI (cn x)), .int (nI (cn y))]) (by rw [← hc16.1]) ?_
      have hd16 := hc16.2
      refine sw_iconst (x := 0) O (xx_dt dd_X14_packs 10 rfl) (by decide) ?_
      refine sw_goto (tgt := 24) O (xx_dt dd_X14_packs 11 rfl) (by decide) ?_
      refine sw_put (h2 := setM z (u2 σ 5000 0 0) h) O (xx_dt dd_X14_packs 13 rfl) cl_X14 fl_X14_46 (lm_mod (σ := σ)) (by decide) (by omega) rfl (fun _ => ⟨rfl, rfl⟩) (pm_mod (σ := σ) (by omega)) ?_
      refine sw_aload_n O (xx_dt dd_X14_packs 14 rfl) rfl ?_
      refine sw_get (v := .int 0) O (xx_dt dd_X14_packs 15 rfl) cl_X14 fl_X14_46 (lm_mod (σ := u2 σ 5000 0 0)) (by decide) rfl ?_
      refine sw_if_ne (tgt := 50) O (xx_dt dd_X14_packs 16 rfl) (by decide) (fun q5 => ?_) (fun q5 => ?_)
      · exact absurd q5 (by decide)
      · refine sw_aload_n O (xx_dt dd_X14_packs 17 rfl) rfl ?_
        refine sw_iload_n O (xx_dt dd_X14_packs 18 rfl) rfl ?_
        refine sw_iconst (x := 0) O (xx_dt dd_X14_packs 19 rfl) (by decide) ?_
        refine sw_iload_n O (xx_dt dd_X14_packs 20 rfl) rfl ?_
        refine xx_wid (k' := 0 + 1) (n' := 0 + (cn y)) (by omega) (by omega) (sw_newarray (k := 0) (n := 0) (t := 100) (N := cn y) (r := 20000) O (xx_dt dd_X14_packs 21 rfl) ⟨⟨by omega, by omega⟩, rfl⟩ ac_int (by first | decide | (have h9 := xx_nlt0 (cn y) (by omega); exact h9)) (by first | rfl | exact nI_clamp (by omega)) (by show (cn y) * 4 ≤ _; omega) ((setM_tn (z := z) (σ := u2 σ 5000 0 0) (q := 20000) (by omega) (hme.2.2 20000 (by omega) (by omega)).2).trans (hfr 20000 (by omega) (by omega))) (by omega) ?_)
        rw [xx_blk_up]
        refine sw_alter (F2 := fun k => .int (rowN (cn y) k)) (xx_up_eq _ _ _) (fun j9 hj9 => (rowN_lt (by omega)).symm) ?_
        rw [xx_up_up]
        rw [new_tmp (σ := u2 σ 5000 0 0) (q := 20000) (n := cn y) (by omega) (by omega)]
        refine sw_callVx (as := [.int (nI (cn x)), .int 0, .ref 20000]) (st := []) (st2 := [.int (f_Mcp (uR (u2 σ 5000 0 0) 20000 (rowN (cn y))) (nI (cn x)) 0 C rg 20000 (cn y))]) O (ct_X14_canPack hl (z := z) (σ := uR (u2 σ 5000 0 0) 20000 (rowN (cn y))) hbs (R := R) hR (by omega) (C := C) hS (by omega) (rg := rg) hrg (qa := 20000) (ch := cn y) (by omega) tmp20 tmp21 (by omega) (x := nI (cn x)) (fr := 0) (by omega)) ce_X14_canPack ml_X14_272 iv_X14_canPack cl_X14 rfl (lm_mod (σ := uR (u2 σ 5000 0 0) 20000 (rowN (cn y)))) (xx_dt dd_X14_packs 22 rfl) (by omega) rfl rfl (Nat.le_of_ble_eq_true rfl) rfl ?_
        refine sw_if_eq (tgt := 50) O (xx_dt dd_X14_packs 23 rfl) (by decide) (fun q6 => ?_) (fun q6 => ?_)
        · refine sw_iconst (x := 0) O (xx_dt dd_X14_packs 26 rfl) (by decide) ?_
          have me9 : mem_eq σ (u2 (g_Mcp (uR (u2 σ 5000 0 0) 20000 (rowN (cn y))) (nI (cn x)) 0 C rg 20000 (cn y)) 20000 20 0) := (mem_eq.frame (τ0 := u2 σ 5000 0 0) (mem_eq.int (r := 5000) (i := 0) (x := 0) hme rfl) (fun q h1 h2 h3 => by simp (disch := omega) only [u2_ne, uR_ne, fr_Cinit, fr_Cpay1, fr_Cpay2, fr_Mcp]) (by (simp (disch := omega) only [u2_ne, uR_ne, fr_Cinit, fr_Cpay1, fr_Cpay2, fr_Mcp]); exact hme.2.1.1.1) (fun q h1 h2 => by by_cases e0 : q = 20000; (subst e0; rfl); ((simp (disch := omega) only [u2_ne, uR_ne, fr_Cinit, fr_Cpay1, fr_Cpay2, fr_Mcp]; exact (hme.2.2 q h1 h2).1))))
          exact sw_iretD (h' := setM z (u2 (g_Mcp (uR (u2 σ 5000 0 0) 20000 (rowN (cn y))) (nI (cn x)) 0 C rg 20000 (cn y)) 20000 20 0) h) O (xx_dt dd_X14_packs 27 rfl) rfl rfl (dropT (by omega) hfr) (me9.cls hcl) (by rw [hh]; exact fun r hr => me9.dom hr) (by rw [hQ]; exact ⟨by unfold f_Mpacks; simp only [if_pos q1, if_pos q3, if_pos q6], by unfold g_Mpacks; simp only [if_pos q1, if_pos q3, if_pos q6]⟩)
        · refine sw_iconst (x := 1) O (xx_dt dd_X14_packs 24 rfl) (by decide) ?_
          refine sw_goto (tgt := 51) O (xx_dt dd_X14_packs 25 rfl) (by decide) ?_
          have me9 : mem_eq σ (u2 (g_Mcp (uR (u2 σ 5000 0 0) 20000 (rowN (cn y))) (nI (cn x)) 0 C rg 20000 (cn y)) 20000 20 0) := (mem_eq.frame (τ0 := u2 σ 5000 0 0) (mem_eq.int (r := 5000) (i := 0) (x := 0) hme rfl) (fun q h1 h2 h3 => by simp (disch := omega) only [u2_ne, uR_ne, fr_Cinit, fr_Cpay1, fr_Cpay2, fr_Mcp]) (by (simp (disch := omega) only [u2_ne, uR_ne, fr_Cinit, fr_Cpay1, fr_Cpay2, fr_Mcp]); exact hme.2.1.1.1) (fun q h1 h2 => by by_cases e0 : q = 20000; (subst e0; rfl); ((simp (disch := omega) only [u2_ne, uR_ne, fr_Cinit, fr_Cpay1, fr_Cpay2, fr_Mcp]; exact (hme.2.2 q h1 h2).1))))
          exact sw_iretD (h' := setM z (u2 (g_Mcp (uR (u2 σ 5000 0 0) 20000 (rowN (cn y))) (nI (cn x)) 0 C rg 20000 (cn y)) 20000 20 0) h) O (xx_dt dd_X14_packs 27 rfl) rfl rfl (dropT (by omega) hfr) (me9.cls hcl) (by rw [hh]; exact fun r hr => me9.dom hr) (by rw [hQ]; exact ⟨by unfold f_Mpacks; simp only [if_pos q1, if_pos q3, if_neg q6], by unfold g_Mpacks; simp only [if_pos q1, if_pos q3, if_neg q6]⟩)
theorem pow_le10 {C : Nat} (hC : C ≤ 10) : 2 ^ C ≤ 1024 ∧ 0 < 2 ^ C := by
  have : ∀ a : Fin 11, 2 ^ a.1 ≤ 1024 ∧ 0 < 2 ^ a.1 := by decide
  exact this ⟨C, by omega⟩
def x_MclearNow_41 (σ : XS9) (C : Nat) (s29 : XS9 × Int32 × Int32) (i29 : Nat) (s0 : Int32) : Int32 := xit (fun i41 s41 => s41 + ((((nI i29) >>> ((nI i41) &&& 31)) &&& 1) * (σ 5004 (2 * i41 + 1)))) C 0 s0
def x_MclearNow_29 (σ : XS9) (ch C : Nat) (rg : Nat → Nat) (s0 : XS9 × Int32 × Int32) : XS9 × Int32 × Int32 := xit (fun i29 s29 => (if s29.2.2 ≤ (x_MclearNow_41 σ C s29 i29 0) then (s29.1, s29.2.1, s29.2.2) else (if (f_Mcp s29.1 ((nI (2 ^ C - 1)) &&& ((nI i29) ^^^ (-1))) 0 C rg 20000 ch) = 0 then (g_Mcp s29.1 ((nI (2 ^ C - 1)) &&& ((nI i29) ^^^ (-1))) 0 C rg 20000 ch, s29.2.1, s29.2.2) else (g_Mcp s29.1 ((nI (2 ^ C - 1)) &&& ((nI i29) ^^^ (-1))) 0 C rg 20000 ch, nI i29, (x_MclearNow_41 σ C s29 i29 0))))) (2 ^ C) 0 s0
theorem fr_McN {σ : XS9} {ch C : Nat} {rg : Nat → Nat} {s0 : XS9 × Int32 × Int32} {q : Nat} (h : q ≠ 20000 ∧ ch ≤ 6) : (x_MclearNow_29 σ ch C rg s0).1 q = s0.1 q := xit_keep (fun s : XS9 × Int32 × Int32 => s.1 q) (fun i s => by (try dsimp only); (repeat' split) <;> first | rfl | simp (disch := omega) only [fr_Mcp]) _ _ _
def f_MclearNow (σ : XS9) (ch R C : Nat) (rg : Nat → Nat) : Int32 := (x_MclearNow_29 σ ch C rg (uR σ 20000 (rowN ch), nI (2 ^ C - 1), 2147483647)).2.1
def g_MclearNow (σ : XS9) (ch R C : Nat) (rg : Nat → Nat) : XS9 := u2 ((x_MclearNow_29 σ ch C rg (uR σ 20000 (rowN ch), nI (2 ^ C - 1), 2147483647)).1) 20000 20 0
theorem ct_X14_clearNow {l : Launch} {h : XH} (hl : l.stackTraces = false) {z : Int64} {σ : XS9} (hbs : xx_bs h) (hfr : ∀ r, 5000 ≤ r → r < 20010 → h r = none) (hme : mem_eq σ σ) {R : Nat} (hR : σ 5001 900 = nI R) (hR5 : R ≤ 5) {C : Nat} (hS : σ 5004 900 = nI (2 * C)) (hC10 : C ≤ 10) {rg : Nat → Nat} (hrg : ∀ q, q < C → σ 5004 (2 * q) = nI (rg q) ∧ rg q < R) {ch : Nat} (hch : ch ≤ 6)  : XEx l m_X14_clearNow 18 1 6 [.ref 5000, .int (nI ch)] (setM z σ h) (some (.int (f_MclearNow σ ch R C rg))) (setM z (g_MclearNow σ ch R C rg) h) := by
  refine XMet.of hl rfl rfl (Nat.le_of_ble_eq_true rfl) (fun Y O hh hQ => ?_)
  refine sw_cls (fun hcl => ?_)
  show SW Y 1 6 (setM z σ h) 0 [.ref 5000, .int (nI ch), xx_d, xx_d, xx_d, xx_d, xx_d, xx_d, xx_d] []
  refine sw_iconst (x := 1) O (xx_dt dd_X14_clearNow 0 rfl) (by decide) ?_
  refine sw_aload_n O (xx_dt dd_X14_clearNow 1 rfl) rfl ?_
  refine sw_get (v := .ref 5004) O (xx_dt dd_X14_clearNow 2 rfl) cl_X14 fl_X14_33 (lm_mod (σ := σ)) (by decide) rfl ?_
  refine sw_callVL (ci := 6) (as := []) (st := [.int 1]) (st2 := [.int (nI (2 * C)), .int 1]) O (ct_AL_size hl (lm_5004 (σ := σ) (S := 2 * C) hS (by omega))) ce_Jx4a65c_size_8abf5 ml_X14_57 iv_Jx4a65c_size_8abf5 cl_Jx4a65c rfl (lm_5004 (σ := σ) (S := 2 * C) hS (by omega)) (xx_dt dd_X14_clearNow 3 rfl) (by omega) rfl rfl (Nat.le_of_ble_eq_true rfl) rfl ?_
  refine sw_iconst (x := 2) O (xx_dt dd_X14_clearNow 4 rfl) (by decide) ?_
  refine sw_idiv O (xx_dt dd_X14_clearNow 5 rfl) (by first | decide | assumption) ?_
  have hx9 := trivial
  rw [nI_half (by omega)]
  refine sw_ishl O (xx_dt dd_X14_clearNow 6 rfl) ?_
  refine sw_iconst (x := 1) O (xx_dt dd_X14_clearNow 7 rfl) (by decide) ?_
  refine sw_isub O (xx_dt dd_X14_clearNow 8 rfl) ?_
  have hx12 := pow_le10 hC10
  rw [all_nat (C := C) (by omega)]
  refine sw_istore_n (ls2 := [.ref 5000, .int (nI ch), .int (nI (2 ^ C - 1)), xx_d, xx_d, xx_d, xx_d, xx_d, xx_d]) O (xx_dt dd_X14_clearNow 9 rfl) (by decide) rfl ?_
  refine sw_iload_n O (xx_dt dd_X14_clearNow 10 rfl) rfl ?_
  refine xx_wid (k' := 0 + 1) (n' := 0 + ch) (by omega) (by omega) (sw_newarray (k := 0) (n := 0) (t := 100) (N := ch) (r := 20000) O (xx_dt dd_X14_clearNow 11 rfl) ⟨⟨by omega, by omega⟩, rfl⟩ ac_int (by first | decide | (have h9 := xx_nlt0 ch (by omega); exact h9)) (by first | rfl | exact nI_clamp (by omega)) (by show ch * 4 ≤ _; omega) ((setM_tn (z := z) (σ := σ) (q := 20000) (by omega) (hme.2.2 20000 (by omega) (by omega)).2).trans (hfr 20000 (by omega) (by omega))) (by omega) ?_)
  rw [xx_blk_up]
  refine sw_alter (F2 := fun k => .int (rowN ch k)) (xx_up_eq _ _ _) (fun j9 hj9 => (rowN_lt (by omega)).symm) ?_
  rw [xx_up_up]
  rw [new_tmp (σ := σ) (q := 20000) (n := ch) (by omega) (by omega)]
  refine sw_astore_n (ls2 := [.ref 5000, .int (nI ch), .int (nI (2 ^ C - 1)), .ref 20000, xx_d, xx_d, xx_d, xx_d, xx_d]) O (xx_dt dd_X14_clearNow 12 rfl) (by decide) rfl ?_
  refine sw_iload_n O (xx_dt dd_X14_clearNow 13 rfl) rfl ?_
  refine sw_istore (ls2 := [.ref 5000, .int (nI ch), .int (nI (2 ^ C - 1)), .ref 20000, .int (nI (2 ^ C - 1)), xx_d, xx_d, xx_d, xx_d]) O (xx_dt dd_X14_clearNow 14 rfl) (by decide) rfl ?_
  refine sw_ldcw O ct_X14_286 (xx_dt dd_X14_clearNow 15 rfl) ?_
  refine sw_istore (ls2 := [.ref 5000, .int (nI ch), .int (nI (2 ^ C - 1)), .ref 20000, .int (nI (2 ^ C - 1)), .int 2147483647, xx_d, xx_d, xx_d]) O (xx_dt dd_X14_clearNow 16 rfl) (by decide) rfl ?_
  refine sw_iconst (x := 0) O (xx_dt dd_X14_clearNow 17 rfl) (by decide) ?_
  refine sw_istore (ls2 := [.ref 5000, .int (nI ch), .int (nI (2 ^ C - 1)), .ref 20000, .int (nI (2 ^ C - 1)), .int 2147483647, .int 0, xx_d, xx_d]) O (xx_dt dd_X14_clearNow 18 rfl) (by decide) rfl ?_
  refine sw_for (S := XS9 × Int32 × Int32) (fun i29 s29 => (if s29.2.2 ≤ (x_MclearNow_41 σ C s29 i29 0) then (s29.1, s29.2.1, s29.2.2) else (if (f_Mcp s29.1 ((nI (2 ^ C - 1)) &&& ((nI i29) ^^^ (-1))) 0 C rg 20000 ch) = 0 then (g_Mcp s29.1 ((nI (2 ^ C - 1)) &&& ((nI i29) ^^^ (-1))) 0 C rg 20000 ch, s29.2.1, s29.2.2) else (g_Mcp s29.1 ((nI (2 ^ C - 1)) &&& ((nI i29) ^^^ (-1))) 0 C rg 20000 ch, nI i29, (x_MclearNow_41 σ C s29 i29 0))))) (fun _ s29 => s29.1 20000 20 = nI 1 ∧ s29.1 20000 21 = nI ch ∧ (∀ q, q ≠ 20000 → s29.1 q = (uR σ 20000 (rowN ch)) q)) (hp := fun s29 => setM z s29.1 h) (hd := 29) (lc := fun i29 s29 => [.ref 5000, .int (nI ch), .int (nI (2 ^ C - 1)), .ref 20000, .int s29.2.1, .int s29.2.2, .int (nI i29), xx_d, xx_d]) (N := (2 ^ C)) (fun i29 s29 hi29 hP29 => ⟨(by (try dsimp only); (repeat' split) <;> (refine ⟨?_, ?_, ?_⟩ <;> (first | exact hP29.1 | exact hP29.2.1 | exact hP29.2.2 | exact (by (try dsimp only); rw [(fl_Mcp (by omega)).1]; exact hP29.1) | exact (by (try dsimp only); rw [(fl_Mcp (by omega)).2]; exact hP29.2.1) | exact (fun q9 hq9 => by (try dsimp only); rw [fr_Mcp ⟨hq9, by omega⟩]; exact hP29.2.2 q9 hq9) | exact (fun q9 hq9 => by (simp (disch := omega) only [u2_ne, uR_ne, fr_fill, fr_Ctake]); exact hP29.2.2 q9 hq9) | exact hi29 | exact .inl rfl | exact .inr rfl | (simp (disch := omega) only [u2_ne, uR_ne, fr_fill, fr_Ctake]; first | exact hP29.1 | exact hP29.2.1 | exact hP29.2.2 | exact (by (try dsimp only); rw [(fl_Mcp (by omega)).1]; exact hP29.1) | exact (by (try dsimp only); rw [(fl_Mcp (by omega)).2]; exact hP29.2.1) | exact (fun q9 hq9 => by (try dsimp only); rw [fr_Mcp ⟨hq9, by omega⟩]; exact hP29.2.2 q9 hq9) | exact (fun q9 hq9 => by (simp (disch := omega) only [u2_ne, uR_ne, fr_fill, fr_Ctake]); exact hP29.2.2 q9 hq9))))), fun kk29 => ?_⟩) (2 ^ C) 0 (uR σ 20000 (rowN ch), nI (2 ^ C - 1), 2147483647) (by omega) (⟨(show (uR σ 20000 (rowN ch)) 20000 20 = nI 1 from tmp20), (show (uR σ 20000 (rowN ch)) 20000 21 = nI ch from tmp21), (fun _ _ => rfl)⟩) (fun hP29 => ?_)
  · refine sw_iload O (xx_dt dd_X14_clearNow 19 rfl) rfl ?_
    refine sw_iload_n O (xx_dt dd_X14_clearNow 20 rfl) rfl ?_
    refine sw_icmp_gt (tgt := 132) O (xx_dt dd_X14_clearNow 21 rfl) (by decide) (fun q1 => ?_) (fun q1 => ?_)
    · exact absurd ((nI_ltI (a := (2 ^ C - 1)) (b := i29) (by omega) (by omega)).mp q1) (by omega)
    · refine sw_iconst (x := 0) O (xx_dt dd_X14_clearNow 22 rfl) (by decide) ?_
      refine sw_istore (ls2 := [.ref 5000, .int (nI ch), .int (nI (2 ^ C - 1)), .ref 20000, .int s29.2.1, .int s29.2.2, .int (nI i29), .int 0, xx_d]) O (xx_dt dd_X14_clearNow 23 rfl) (by decide) rfl ?_
      refine sw_iconst (x := 0) O (xx_dt dd_X14_clearNow 24 rfl) (by decide) ?_
      refine sw_istore (ls2 := [.ref 5000, .int (nI ch), .int (nI (2 ^ C - 1)), .ref 20000, .int s29.2.1, .int s29.2.2, .int (nI i29), .int 0, .int 0]) O (xx_dt dd_X14_clearNow 25 rfl) (by decide) rfl ?_
      refine sw_for (S := Int32) (fun i41 s41 => s41 + ((((nI i29) >>> ((nI i41) &&& 31)) &&& 1) * (σ 5004 (2 * i41 + 1)))) (fun _ _ => True) (hp := fun _ => setM z s29.1 h) (hd := 41) (lc := fun i41 s41 => [.ref 5000, .int (nI ch), .int (nI (2 ^ C - 1)), .ref 20000, .int s29.2.1, .int s29.2.2, .int (nI i29), .int s41, .int (nI i41)]) (N := C) (fun i41 s41 hi41 hP41 => ⟨trivial, fun kk41 => ?_⟩) C 0 0 (by omega) (trivial) (fun hP41 => ?_)
      · refine sw_iload O (xx_dt dd_X14_clearNow 26 rfl) rfl ?_
        refine sw_aload_n O (xx_dt dd_X14_clearNow 27 rfl) rfl ?_
        refine sw_get (v := .ref 5004) O (xx_dt dd_X14_clearNow 28 rfl) cl_X14 fl_X14_33 (lm_mod (σ := s29.1)) (by decide) rfl ?_
        refine sw_callVL (ci := 6) (as := []) (st := [.int (nI i41)]) (st2 := [.int (nI (2 * C)), .int (nI i41)]) O (ct_AL_size hl (lm_5004 (σ := s29.1) (S := 2 * C) ((congrFun (hP29.2.2 _ (by omega)) 900).trans hS) (by omega))) ce_Jx4a65c_size_8abf5 ml_X14_57 iv_Jx4a65c_size_8abf5 cl_Jx4a65c rfl (lm_5004 (σ := s29.1) (S := 2 * C) ((congrFun (hP29.2.2 _ (by omega)) 900).trans hS) (by omega)) (xx_dt dd_X14_clearNow 29 rfl) (by omega) rfl rfl (Nat.le_of_ble_eq_true rfl) rfl ?_
        refine sw_iconst (x := 2) O (xx_dt dd_X14_clearNow 30 rfl) (by decide) ?_
        refine sw_idiv O (xx_dt dd_X14_clearNow 31 rfl) (by first | decide | assumption) ?_
        have hx51 := trivial
        rw [nI_half (by omega)]
        refine sw_icmp_ge (tgt := 93) O (xx_dt dd_X14_clearNow 32 rfl) (by decide) (fun q2 => ?_) (fun q2 => ?_)
        · exact absurd q2 (nI_ge (b := C) hi41 (by omega))
        · refine sw_iload O (xx_dt dd_X14_clearNow 33 rfl) rfl ?_
          refine sw_iload O (xx_dt dd_X14_clearNow 34 rfl) rfl ?_
          refine sw_iload O (xx_dt dd_X14_clearNow 35 rfl) rfl ?_
          refine sw_ishr O (xx_dt dd_X14_clearNow 36 rfl) ?_
          refine sw_iconst (x := 1) O (xx_dt dd_X14_clearNow 37 rfl) (by decide) ?_
          refine sw_iand O (xx_dt dd_X14_clearNow 38 rfl) ?_
          refine sw_aload_n O (xx_dt dd_X14_clearNow 39 rfl) rfl ?_
          refine sw_get (v := .ref 5004) O (xx_dt dd_X14_clearNow 40 rfl) cl_X14 fl_X14_33 (lm_mod (σ := s29.1)) (by decide) rfl ?_
          refine sw_iconst (x := 2) O (xx_dt dd_X14_clearNow 41 rfl) (by decide) ?_
          refine sw_iload O (xx_dt dd_X14_clearNow 42 rfl) rfl ?_
          refine sw_imul O (xx_dt dd_X14_clearNow 43 rfl) ?_
          have hx71 := trivial
          rw [nI_dbl]
          refine sw_iconst (x := 1) O (xx_dt dd_X14_clearNow 44 rfl) (by decide) ?_
          refine sw_iadd O (xx_dt dd_X14_clearNow 45 rfl) ?_
          rw [nI_a1 (2 * i41)]
          refine sw_callVL (ci := 6) (as := [.int (nI (2 * i41 + 1))]) (st := [.int (((nI i29) >>> ((nI i41) &&& 31)) &&& 1), .int s41]) (st2 := [.ref (xx_box (s29.1 5004 (2 * i41 + 1)) (nmS s29.1 (2 * i41 + 1))), .int (((nI i29) >>> ((nI i41) &&& 31)) &&& 1), .int s41]) O (ct_get hl hbs (lm_5004 (σ := s29.1) (S := 2 * C) ((congrFun (hP29.2.2 _ (by omega)) 900).trans hS) (by omega)) (by omega) (i := 2 * i41 + 1) (x := xx_box (s29.1 5004 (2 * i41 + 1)) (nmS s29.1 (2 * i41 + 1))) (by omega) (by omega) rfl) ce_Jx4a65c_get_915e3 ml_X14_61 iv_Jx4a65c_get_915e3 cl_Jx4a65c rfl (lm_5004 (σ := s29.1) (S := 2 * C) ((congrFun (hP29.2.2 _ (by omega)) 900).trans hS) (by omega)) (xx_dt dd_X14_clearNow 46 rfl) (by omega) rfl rfl (Nat.le_of_ble_eq_true rfl) rfl ?_
          refine sw_castO O (xx_dt dd_X14_clearNow 47 rfl) cl_J6 (lm_sbox (σ := s29.1) hbs (S := 2 * C) ((congrFun (hP29.2.2 _ (by omega)) 900).trans hS) (by omega) (k := 2 * i41 + 1) (by omega)) cw_X14_113 ?_
          refine sw_callVx (as := []) (st := [.int (((nI i29) >>> ((nI i41) &&& 31)) &&& 1), .int s41]) (st2 := [.int (σ 5004 (2 * i41 + 1)), .int (((nI i29) >>> ((nI i41) &&& 31)) &&& 1), .int s41]) O (ct_intValue hl (lm_sbox (σ := s29.1) hbs (S := 2 * C) ((congrFun (hP29.2.2 _ (by omega)) 900).trans hS) (by omega) (k := 2 * i41 + 1) (by omega)) (congrArg Value.int (congrFun (hP29.2.2 _ (by omega)) (2 * i41 + 1)))) ce_J6_intValue_8abf5 ml_X14_265 iv_J6_intValue_8abf5 cl_J6 rfl (lm_sbox (σ := s29.1) hbs (S := 2 * C) ((congrFun (hP29.2.2 _ (by omega)) 900).trans hS) (by omega) (k := 2 * i41 + 1) (by omega)) (xx_dt dd_X14_clearNow 48 rfl) (by omega) rfl rfl (Nat.le_of_ble_eq_true rfl) rfl ?_
          refine sw_imul O (xx_dt dd_X14_clearNow 49 rfl) ?_
          refine sw_iadd O (xx_dt dd_X14_clearNow 50 rfl) ?_
          refine sw_istore (ls2 := [.ref 5000, .int (nI ch), .int (nI (2 ^ C - 1)), .ref 20000, .int s29.2.1, .int s29.2.2, .int (nI i29), .int (s41 + ((((nI i29) >>> ((nI i41) &&& 31)) &&& 1) * (σ 5004 (2 * i41 + 1)))), .int (nI i41)]) O (xx_dt dd_X14_clearNow 51 rfl) (by decide) rfl ?_
          refine sw_iinc (y := nI (i41 + 1)) (ls2 := [.ref 5000, .int (nI ch), .int (nI (2 ^ C - 1)), .ref 20000, .int s29.2.1, .int s29.2.2, .int (nI i29), .int (s41 + ((((nI i29) >>> ((nI i41) &&& 31)) &&& 1) * (σ 5004 (2 * i41 + 1)))), .int (nI (i41 + 1))]) O (xx_dt dd_X14_clearNow 52 rfl) rfl (nI_1 _) (by decide) rfl ?_
          refine sw_goto (tgt := 41) O (xx_dt dd_X14_clearNow 53 rfl) (by decide) ?_
          exact kk41
      · show SW Y _ _ (setM z s29.1 h) 41 [.ref 5000, .int (nI ch), .int (nI (2 ^ C - 1)), .ref 20000, .int s29.2.1, .int s29.2.2, .int (nI i29), .int (x_MclearNow_41 σ C s29 i29 0), .int (nI C)] []
        refine sw_iload O (xx_dt dd_X14_clearNow 26 rfl) rfl ?_
        refine sw_aload_n O (xx_dt dd_X14_clearNow 27 rfl) rfl ?_
        refine sw_get (v := .ref 5004) O (xx_dt dd_X14_clearNow 28 rfl) cl_X14 fl_X14_33 (lm_mod (σ := s29.1)) (by decide) rfl ?_
        refine sw_callVL (ci := 6) (as := []) (st := [.int (nI C)]) (st2 := [.int (nI (2 * C)), .int (nI C)]) O (ct_AL_size hl (lm_5004 (σ := s29.1) (S := 2 * C) ((congrFun (hP29.2.2 _ (by omega)) 900).trans hS) (by omega))) ce_Jx4a65c_size_8abf5 ml_X14_57 iv_Jx4a65c_size_8abf5 cl_Jx4a65c rfl (lm_5004 (σ := s29.1) (S := 2 * C) ((congrFun (hP29.2.2 _ (by omega)) 900).trans hS) (by omega)) (xx_dt dd_X14_clearNow 29 rfl) (by omega) rfl rfl (Nat.le_of_ble_eq_true rfl) rfl ?_
        refine sw_iconst (x := 2) O (xx_dt dd_X14_clearNow 30 rfl) (by decide) ?_
        refine sw_idiv O (xx_dt dd_X14_clearNow 31 rfl) (by first | decide | assumption) ?_
        have hx51 := trivial
        rw [nI_half (by omega)]
        refine sw_icmp_ge (tgt := 93) O (xx_dt dd_X14_clearNow 32 rfl) (by decide) (fun q2 => ?_) (fun q2 => ?_)
        · refine sw_iload O (xx_dt dd_X14_clearNow 54 rfl) rfl ?_
          refine sw_iload O (xx_dt dd_X14_clearNow 55 rfl) rfl ?_
          refine sw_icmp_ge (tgt := 126) O (xx_dt dd_X14_clearNow 56 rfl) (by decide) (fun q3 => ?_) (fun q3 => ?_)
          · refine sw_iinc (y := nI (i29 + 1)) (ls2 := [.ref 5000, .int (nI ch), .int (nI (2 ^ C - 1)), .ref 20000, .int s29.2.1, .int s29.2.2, .int (nI (i29 + 1)), .int (x_MclearNow_41 σ C s29 i29 0), .int (nI C)]) O (xx_dt dd_X14_clearNow 72 rfl) rfl (nI_1 _) (by decide) rfl ?_
            refine sw_goto (tgt := 29) O (xx_dt dd_X14_clearNow 73 rfl) (by decide) ?_
            refine sw_dum (ls2 := [.ref 5000, .int (nI ch), .int (nI (2 ^ C - 1)), .ref 20000, .int s29.2.1, .int s29.2.2, .int (nI (i29 + 1)), xx_d, xx_d]) ⟨.inr rfl, .inr rfl, .inr rfl, .inr rfl, .inr rfl, .inr rfl, .inr rfl, .inl rfl, .inl rfl, trivial⟩ ?_
            simp only [if_pos q3] at kk29
            exact kk29
          · refine sw_aload_n O (xx_dt dd_X14_clearNow 57 rfl) rfl ?_
            refine sw_iload_n O (xx_dt dd_X14_clearNow 58 rfl) rfl ?_
            refine sw_iload O (xx_dt dd_X14_clearNow 59 rfl) rfl ?_
            refine sw_iconst (x := (-1)) O (xx_dt dd_X14_clearNow 60 rfl) (by decide) ?_
            refine sw_ixor O (xx_dt dd_X14_clearNow 61 rfl) ?_
            refine sw_iand O (xx_dt dd_X14_clearNow 62 rfl) ?_
            refine sw_iconst (x := 0) O (xx_dt dd_X14_clearNow 63 rfl) (by decide) ?_
            refine sw_aload_n O (xx_dt dd_X14_clearNow 64 rfl) rfl ?_
            refine sw_callVx (as := [.int ((nI (2 ^ C - 1)) &&& ((nI i29) ^^^ (-1))), .int 0, .ref 20000]) (st := []) (st2 := [.int (f_Mcp s29.1 ((nI (2 ^ C - 1)) &&& ((nI i29) ^^^ (-1))) 0 C rg 20000 ch)]) O (ct_X14_canPack hl (z := z) (σ := s29.1) hbs (R := R) ((congrFun (hP29.2.2 _ (by omega)) 900).trans hR) (by omega) (C := C) ((congrFun (hP29.2.2 _ (by omega)) 900).trans hS) (by omega) (rg := rg) (fun j9 hj9 => by rw [show s29.1 5004 = σ 5004 from (hP29.2.2 _ (by omega))]; exact hrg j9 hj9) (qa := 20000) (ch := ch) (by omega) hP29.1 hP29.2.1 (by omega) (x := (nI (2 ^ C - 1)) &&& ((nI i29) ^^^ (-1))) (fr := 0) (by omega)) ce_X14_canPack ml_X14_272 iv_X14_canPack cl_X14 rfl (lm_mod (σ := s29.1)) (xx_dt dd_X14_clearNow 65 rfl) (by omega) rfl rfl (Nat.le_of_ble_eq_true rfl) rfl ?_
            refine sw_if_ne (tgt := 118) O (xx_dt dd_X14_clearNow 66 rfl) (by decide) (fun q4 => ?_) (fun q4 => ?_)
            · refine sw_iload O (xx_dt dd_X14_clearNow 68 rfl) rfl ?_
              refine sw_istore (ls2 := [.ref 5000, .int (nI ch), .int (nI (2 ^ C - 1)), .ref 20000, .int (nI i29), .int s29.2.2, .int (nI i29), .int (x_MclearNow_41 σ C s29 i29 0), .int (nI C)]) O (xx_dt dd_X14_clearNow 69 rfl) (by decide) rfl ?_
              refine sw_iload O (xx_dt dd_X14_clearNow 70 rfl) rfl ?_
              refine sw_istore (ls2 := [.ref 5000, .int (nI ch), .int (nI (2 ^ C - 1)), .ref 20000, .int (nI i29), .int (x_MclearNow_41 σ C s29 i29 0), .int (nI i29), .int (x_MclearNow_41 σ C s29 i29 0), .int (nI C)]) O (xx_dt dd_X14_clearNow 71 rfl) (by decide) rfl ?_
              refine sw_iinc (y := nI (i29 + 1)) (ls2 := [.ref 5000, .int (nI ch), .int (nI (2 ^ C - 1)), .ref 20000, .int (nI i29), .int (x_MclearNow_41 σ C s29 i29 0), .int (nI (i29 + 1)), .int (x_MclearNow_41 σ C s29 i29 0), .int (nI C)]) O (xx_dt dd_X14_clearNow 72 rfl) rfl (nI_1 _) (by decide) rfl ?_
              refine sw_goto (tgt := 29) O (xx_dt dd_X14_clearNow 73 rfl) (by decide) ?_
              refine sw_dum (ls2 := [.ref 5000, .int (nI ch), .int (nI (2 ^ C - 1)), .ref 20000, .int (nI i29), .int (x_MclearNow_41 σ C s29 i29 0), .int (nI (i29 + 1)), xx_d, xx_d]) ⟨.inr rfl, .inr rfl, .inr rfl, .inr rfl, .inr rfl, .inr rfl, .inr rfl, .inl rfl, .inl rfl, trivial⟩ ?_
              simp only [if_neg q3, if_neg q4] at kk29
              exact kk29
            · refine sw_goto (tgt := 126) O (xx_dt dd_X14_clearNow 67 rfl) (by decide) ?_
              refine sw_iinc (y := nI (i29 + 1)) (ls2 := [.ref 5000, .int (nI ch), .int (nI (2 ^ C - 1)), .ref 20000, .int s29.2.1, .int s29.2.2, .int (nI (i29 + 1)), .int (x_MclearNow_41 σ C s29 i29 0), .int (nI C)]) O (xx_dt dd_X14_clearNow 72 rfl) rfl (nI_1 _) (by decide) rfl ?_
              refine sw_goto (tgt := 29) O (xx_dt dd_X14_clearNow 73 rfl) (by decide) ?_
              refine sw_dum (ls2 := [.ref 5000, .int (nI ch), .int (nI (2 ^ C - 1)), .ref 20000, .int s29.2.1, .int s29.2.2, .int (nI (i29 + 1)), xx_d, xx_d]) ⟨.inr rfl, .inr rfl, .inr rfl, .inr rfl, .inr rfl, .inr rfl, .inr rfl, .inl rfl, .inl rfl, trivial⟩ ?_
              simp only [if_neg q3, if_pos q4] at kk29
              exact kk29
        · exact absurd (Int32.le_refl _) q2
  · show SW Y _ _ (setM z ((x_MclearNow_29 σ ch C rg (uR σ 20000 (rowN ch), nI (2 ^ C - 1), 2147483647)).1) h) 29 [.ref 5000, .int (nI ch), .int (nI (2 ^ C - 1)), .ref 20000, .int ((x_MclearNow_29 σ ch C rg (uR σ 20000 (rowN ch), nI (2 ^ C - 1), 2147483647)).2.1), .int ((x_MclearNow_29 σ ch C rg (uR σ 20000 (rowN ch), nI (2 ^ C - 1), 2147483647)).2.2), .int (nI ((2 ^ C))), xx_d, xx_d] []
    have hP29 : ((x_MclearNow_29 σ ch C rg (uR σ 20000 (rowN ch), nI (2 ^ C - 1), 2147483647)).1) 20000 20 = nI 1 ∧ ((x_MclearNow_29 σ ch C rg (uR σ 20000 (rowN ch), nI (2 ^ C - 1), 2147483647)).1) 20000 21 = nI ch ∧ (∀ q, q ≠ 20000 → (x_MclearNow_29 σ ch C rg (uR σ 20000 (rowN ch), nI (2 ^ C - 1), 2147483647)).1 q = (uR σ 20000 (rowN ch)) q) := hP29
    refine sw_iload O (xx_dt dd_X14_clearNow 19 rfl) rfl ?_
    refine sw_iload_n O (xx_dt dd_X14_clearNow 20 rfl) rfl ?_
    refine sw_icmp_gt (tgt := 132) O (xx_dt dd_X14_clearNow 21 rfl) (by decide) (fun q1 => ?_) (fun q1 => ?_)
    · refine sw_iload O (xx_dt dd_X14_clearNow 74 rfl) rfl ?_
      have me9 : mem_eq σ (u2 ((x_MclearNow_29 σ ch C rg (uR σ 20000 (rowN ch), nI (2 ^ C - 1), 2147483647)).1) 20000 20 0) := (mem_eq.frame (τ0 := σ) hme (fun q h1 h2 h3 => by simp (disch := omega) only [u2_ne, uR_ne, fr_Cinit, fr_Cpay1, fr_Cpay2, fr_Mcp, fr_McN]) (by (simp (disch := omega) only [u2_ne, uR_ne, fr_Cinit, fr_Cpay1, fr_Cpay2, fr_Mcp, fr_McN]); exact hme.2.1.1.1) (fun q h1 h2 => by by_cases e0 : q = 20000; (subst e0; rfl); ((simp (disch := omega) only [u2_ne, uR_ne, fr_Cinit, fr_Cpay1, fr_Cpay2, fr_Mcp, fr_McN]; exact (hme.2.2 q h1 h2).1))))
      exact sw_iretD (h' := setM z (u2 ((x_MclearNow_29 σ ch C rg (uR σ 20000 (rowN ch), nI (2 ^ C - 1), 2147483647)).1) 20000 20 0) h) O (xx_dt dd_X14_clearNow 75 rfl) rfl rfl (dropT (by omega) hfr) (me9.cls hcl) (by rw [hh]; exact fun r hr => me9.dom hr) (by rw [hQ]; exact ⟨by unfold f_MclearNow; rfl, by unfold g_MclearNow; rfl⟩)
    · exact absurd (nI_lt (a := (2 ^ C - 1)) (b := (2 ^ C)) (by omega) (by omega)) q1
theorem fr_MclearNow {σ : XS9} {ch R C : Nat} {rg : Nat → Nat} {q : Nat} (h : q ≠ 20000 ∧ ch ≤ 6) : g_MclearNow σ ch R C rg q = σ q := by
  unfold g_MclearNow
  simp (disch := omega) only [u2_ne, uR_ne, fr_McN]
theorem mem_eq.refl {σ τ : XS9} (h : mem_eq σ τ) : mem_eq τ τ := ⟨fun _ _ _ _ _ => rfl, ⟨⟨h.2.1.1.1, h.2.1.1.1⟩, h.2.1.2.1, h.2.1.2.1⟩, fun q h1 h2 => ⟨(h.2.2 q h1 h2).1, (h.2.2 q h1 h2).1⟩⟩
def f_Mclear (σ : XS9) (x : Int32) (R C : Nat) (rg : Nat → Nat) : Int32 := (if n_bt x 1 6 then f_MclearNow (u2 σ 5000 0 0) (cn x) R C rg else 0)
def g_Mclear (σ : XS9) (x : Int32) (R C : Nat) (rg : Nat → Nat) : XS9 := (if n_bt x 1 6 then g_MclearNow (u2 σ 5000 0 0) (cn x) R C rg else u2 (u2 σ 5000 0 0) 5000 0 1)
theorem ct_X14_clear {l : Launch} {h : XH} (hl : l.stackTraces = false) {z : Int64} {σ : XS9} (hbs : xx_bs h) (hfr : ∀ r, 5000 ≤ r → r < 20010 → h r = none) (hme : mem_eq σ σ) {R : Nat} (hR : σ 5001 900 = nI R) (hR5 : R ≤ 5) {C : Nat} (hS : σ 5004 900 = nI (2 * C)) (hC10 : C ≤ 10) {rg : Nat → Nat} (hrg : ∀ q, q < C → σ 5004 (2 * q) = nI (rg q) ∧ rg q < R) {x : Int32} : XEx l m_X14_clear 19 1 6 [.ref 5000, .int x] (setM z σ h) (some (.int (f_Mclear σ x R C rg))) (setM z (g_Mclear σ x R C rg) h) := by
  refine XMet.of hl rfl rfl (Nat.le_of_ble_eq_true rfl) (fun Y O hh hQ => ?_)
  show SW Y 1 6 (setM z σ h) 0 [.ref 5000, .int x] []
  refine sw_aload_n O (xx_dt dd_X14_clear 0 rfl) rfl ?_
  refine sw_iconst (x := 0) O (xx_dt dd_X14_clear 1 rfl) (by decide) ?_
  refine sw_put (h2 := setM z (u2 σ 5000 0 0) h) O (xx_dt dd_X14_clear 2 rfl) cl_X14 fl_X14_46 (lm_mod (σ := σ)) (by decide) (by omega) rfl (fun _ => ⟨rfl, rfl⟩) (pm_mod (σ := σ) (by omega)) ?_
  refine sw_iload_n O (xx_dt dd_X14_clear 3 rfl) rfl ?_
  refine sw_iconst (x := 1) O (xx_dt dd_X14_clear 4 rfl) (by decide) ?_
  refine sw_bipush (x := 6) O (xx_dt dd_X14_clear 5 rfl) (by decide) ?_
  refine sw_callSx (as := [.int x, .int 1, .int 6]) (st := []) (st2 := [.int (bZ (n_bt x 1 6))]) O (ct_X14_is hl) ce_X14_is ml_X14_70 st_X14_is (xx_dt dd_X14_clear 6 rfl) (by omega) rfl rfl (Nat.le_of_ble_eq_true rfl) rfl ?_
  refine sw_if_eqB (tgt := 23) O (xx_dt dd_X14_clear 7 rfl) (by decide) (fun q1 => ?_) (fun q1 => ?_)
  · refine sw_aload_n O (xx_dt dd_X14_clear 12 rfl) rfl ?_
    refine sw_iconst (x := 1) O (xx_dt dd_X14_clear 13 rfl) (by decide) ?_
    refine sw_callVx (as := [.int 1]) (st := []) (st2 := [.int 0]) O (ct_X14_refuse hl (z := z) (σ := u2 σ 5000 0 0) hbs (x := 1)) ce_X14_refuse ml_X14_74 iv_X14_refuse cl_X14 rfl (lm_mod (σ := u2 σ 5000 0 0)) (xx_dt dd_X14_clear 14 rfl) (by omega) rfl rfl (Nat.le_of_ble_eq_true rfl) rfl ?_
    exact sw_iret O (xx_dt dd_X14_clear 15 rfl) rfl rfl (by rw [hQ]; exact ⟨by unfold f_Mclear; simp only [if_neg q1], by unfold g_Mclear; simp only [if_neg q1]⟩)
  · have hc12 := (bt_nat 6 q1 (by decide) rfl (by decide))
    refine sw_lsE (ls2 := [.ref 5000, .int (nI (cn x))]) (by rw [← hc12.1]) ?_
    have hd12 := hc12.2
    refine sw_aload_n O (xx_dt dd_X14_clear 8 rfl) rfl ?_
    refine sw_iload_n O (xx_dt dd_X14_clear 9 rfl) rfl ?_
    refine sw_callVx (as := [.int (nI (cn x))]) (st := []) (st2 := [.int (f_MclearNow (u2 σ 5000 0 0) (cn x) R C rg)]) O (ct_X14_clearNow hl (z := z) (σ := u2 σ 5000 0 0) hbs hfr (mem_eq.refl (mem_eq.int (r := 5000) (i := 0) (x := 0) hme rfl)) (R := R) hR (by omega) (C := C) hS (by omega) (rg := rg) hrg (ch := cn x) (by omega)) ce_X14_clearNow ml_X14_287 iv_X14_clearNow cl_X14 rfl (lm_mod (σ := u2 σ 5000 0 0)) (xx_dt dd_X14_clear 10 rfl) (by omega) rfl rfl (Nat.le_of_ble_eq_true rfl) rfl ?_
    refine sw_goto (tgt := 28) O (xx_dt dd_X14_clear 11 rfl) (by decide) ?_
    exact sw_iret O (xx_dt dd_X14_clear 15 rfl) rfl rfl (by rw [hQ]; exact ⟨by unfold f_Mclear; simp only [if_pos q1], by unfold g_Mclear; simp only [if_pos q1]⟩)
