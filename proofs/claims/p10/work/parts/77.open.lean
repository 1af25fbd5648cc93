/-! ===== the reference: border, open ===== -/
theorem setM_it {z : Int64} {σ : XS9} {h : XH} {r : Nat} (h1 : 10300 ≤ r) (h2 : r < 20000) : setM z σ h r = h r := setM_no (by
  unfold lyQ
  rw [if_neg (by omega), if_neg (by omega), if_neg (by omega), if_neg (by omega), if_neg (by omega), if_neg (by omega), if_neg (by omega), if_neg (by omega), if_neg (by omega), if_neg (by omega), if_neg (by omega), if_neg (by omega), if_neg (by omega), if_neg (by omega), if_neg (by omega), if_neg (by omega), if_neg (by omega), if_neg (by omega), if_pos (by omega)])
theorem sub_up {h : XH} {r : Nat} {c : XC} (hn : h r = none) : xx_sub h (xx_up h r c) := fun q c9 e => by
  have : q ≠ r := fun e9 => by rw [e9, hn] at e; cases e
  rw [xx_up_ne this]
  exact e
abbrev itF (n : Nat) (i : Nat) : Nat → Value := vp_V [.int (nI i), .int (match i with | 0 => -1 | i + 1 => nI i), .int (nI n), .ref 5001]
theorem ct_hasN {l : Launch} {h : XH} (hl : l.stackTraces = false) {t r n i : Nat} {la : Int32} {f : Nat → Value} (ht : h t = some (5, 4, vp_V [.int (nI i), .int la, .int (nI n), .ref r])) (h1 : 1000 ≤ t) (hc : h r = some (206, n, f)) (hn : n < 2147483648) (hi : i < n)  : XEx l m_Jx35411_hasNext_aae02 0 0 0 [.ref t] (h) (some (.int 1)) (h) := by
  have e := ct_It_hasNext hl ht h1 hc hn (by omega)
  rw [if_pos hi] at e
  exact e
theorem ct_hasE {l : Launch} {h : XH} (hl : l.stackTraces = false) {t r n : Nat} {la : Int32} {f : Nat → Value} (ht : h t = some (5, 4, vp_V [.int (nI n), .int la, .int (nI n), .ref r])) (h1 : 1000 ≤ t) (hc : h r = some (206, n, f)) (hn : n < 2147483648) : XEx l m_Jx35411_hasNext_aae02 0 0 0 [.ref t] (h) (some (.int 0)) (h) := by
  have e := ct_It_hasNext hl ht h1 hc hn (Nat.le_refl n)
  rw [if_neg (Nat.lt_irrefl n)] at e
  exact e
theorem u2_nj {σ : XS9} {r i j : Nat} {x : Int32} (h : j ≠ i) : u2 σ r i x r j = σ r j := by
  rw [u2_eq]
  exact if_neg h
theorem u2_v {σ : XS9} {r i : Nat} {x : Int32} : u2 σ r i x r i = x := by
  rw [u2_eq]
  exact if_pos rfl
theorem lq_7000 {z : Int64} {C : XS9} {s : Nat → Int32} : lyQ z C 7000 s = if C 7000 20 = 0 then none else lyB C 7000 0 s := by
  unfold lyQ
  rw [if_neg (by omega), if_neg (by omega), if_neg (by omega), if_neg (by omega), if_neg (by omega), if_neg (by omega), if_neg (by omega), if_neg (by omega), if_neg (by omega), if_neg (by omega), if_neg (by omega), if_neg (by omega), if_pos (by omega)]
theorem lyQ_c {z : Int64} {C C' : XS9} {r : Nat} {s : Nat → Int32} (h1 : ∀ q i, (q ≠ 7000 ∨ i ≠ 25) → C q i = C' q i) (h2 : r ≠ 5000) : lyQ z C r s = lyQ z C' r s := by
  have e1 : ∀ i, C 5001 i = C' 5001 i := fun i => h1 _ _ (.inl (by omega))
  have e2 : ∀ i, C 5002 i = C' 5002 i := fun i => h1 _ _ (.inl (by omega))
  have e3 : ∀ i, C 5003 i = C' 5003 i := fun i => h1 _ _ (.inl (by omega))
  have e4 : ∀ i, C 5004 i = C' 5004 i := fun i => h1 _ _ (.inl (by omega))
  have e8 : ∀ i, C 8000 i = C' 8000 i := fun i => h1 _ _ (.inl (by omega))
  have e9 : ∀ i, C 9000 i = C' 9000 i := fun i => h1 _ _ (.inl (by omega))
  have k0 : C 7000 20 = C' 7000 20 := h1 _ _ (.inr (by omega))
  have k1 : C 7000 21 = C' 7000 21 := h1 _ _ (.inr (by omega))
  have k2 : C 7000 22 = C' 7000 22 := h1 _ _ (.inr (by omega))
  have k3 : C 7000 23 = C' 7000 23 := h1 _ _ (.inr (by omega))
  have k4 : C 7000 24 = C' 7000 24 := h1 _ _ (.inr (by omega))
  by_cases h7 : r = 7000
  · subst h7
    rw [lq_7000, lq_7000]
    unfold lyB
    simp only [e1, k0, k1, k2, k3, k4]
  have er : ∀ i, C r i = C' r i := fun i => h1 _ _ (.inl h7)
  by_cases u0 : r < 5010
  · unfold lyQ
    rw [if_pos u0, if_pos u0]
    split <;> first | rfl | (exfalso; omega) | simp only [e1, e2, e3, e4, nmS]
  by_cases h3 : r < 20000
  · have ep : ∀ i, C (5030 + (r - 10000) / 20) i = C' (5030 + (r - 10000) / 20) i := fun i => h1 _ _ (.inl (by omega))
    unfold lyQ lyB nmS
    simp only [e1, e2, e3, e4, e8, e9, er, ep, k0, k1, k2, k3, k4, if_neg u0]
  · by_cases h4 : r < 20010
    · rw [lq_tmp (by omega), lq_tmp (by omega), er, er]
    · unfold lyQ
      rw [if_neg (by omega), if_neg (by omega), if_neg (by omega), if_neg (by omega), if_neg (by omega), if_neg (by omega), if_neg (by omega), if_neg (by omega), if_neg (by omega), if_neg (by omega), if_neg (by omega), if_neg (by omega), if_neg (by omega), if_neg (by omega), if_neg (by omega), if_neg (by omega), if_neg (by omega), if_neg (by omega), if_neg (by omega), if_neg (by omega), if_neg (by omega), if_neg (by omega), if_neg (by omega), if_neg (by omega), if_neg (by omega), if_neg (by omega), if_neg (by omega), if_neg (by omega), if_neg (by omega), if_neg (by omega), if_neg (by omega), if_neg (by omega), if_neg (by omega), if_neg (by omega), if_neg (by omega), if_neg (by omega), if_neg (by omega), if_neg (by omega), if_neg (by omega), if_neg (by omega)]
theorem pm_clkset {z : Int64} {σ : XS9} {h : XH} : xx_up (setM z σ h) 5000 (20, 17, updV (fun k => match k with | 8 => .ref 5001 | 9 => .ref 5002 | 10 => .ref 5003 | 11 => .ref 5004 | 12 => (if σ 7000 25 = 0 then .null else .ref 7000) | 13 => .ref 5005 | 14 => .ref 5006 | 15 => .ref 5007 | 16 => .long z | k => .int ((σ 5000) k)) 12 (.ref 7000)) = setM z (u2 σ 7000 25 1) h := by
  funext q
  unfold xx_up
  by_cases a : q = 5000
  · rw [if_pos a, a, lm_modC (σ := u2 σ 7000 25 1) (by rw [u2_v]; decide), u2_ne (by omega)]
    congr 3
    funext k
    unfold updV
    by_cases e : k = 12
    · subst e; rfl
    · rw [if_neg e]
      match k, e with
      | 0, _ | 1, _ | 2, _ | 3, _ | 4, _ | 5, _ | 6, _ | 7, _ | 8, _ | 9, _ | 10, _ | 11, _ | 13, _ | 14, _ | 15, _ | 16, _ => rfl
      | 12, e => exact absurd rfl e
      | _ + 17, _ => rfl
  · rw [if_neg a]
    unfold setM
    rw [lyQ_c (C := ctl (u2 σ 7000 25 1)) (C' := ctl σ) (fun r i e => by
      unfold ctl
      rw [show u2 σ 7000 25 1 r i = σ r i by
        rcases e with e | e
        · rw [u2_ne e]
        · by_cases e7 : r = 7000
          · rw [e7]; exact u2_nj e
          · rw [u2_ne e7]]) a]
    by_cases e7 : q = 7000
    · subst e7
      have t : ∀ s s' : Nat → Int32, s 9 = s' 9 → lyQ z (ctl σ) 7000 s = lyQ z (ctl σ) 7000 s' := fun s s' h9 => by
        rw [lq_7000, lq_7000]
        have e0 : ∀ s : Nat → Int32, lyB (ctl σ) 7000 0 s = some (17, 11, fun k => match k with | 0 => .ref (7000 + 1) | 1 => .ref (7000 + 2) | 2 => .ref (7000 + 500 + cn (ctl σ 7000 23)) | 3 => .ref (7000 + 700 + cn (ctl σ 7000 24)) | 4 => .ref (7000 + 3) | 5 => .ref (7000 + 4) | 6 => .ref (7000 + 5) | 7 => .ref (7000 + 6) | 8 => .ref (7000 + 7) | 9 => .int (s 9) | 10 => .ref 5000 | _ => .null) := fun s => rfl
        rw [e0, e0, h9]
      rw [t _ (σ 7000) (u2_nj (by omega))]
    · rw [u2_ne e7]
def f_Mborder (σ : XS9) (x y : Int32) (R : Nat) : Int32 := (if n_lt x R then (if n_lt y R then (if (nI (cn x)) = (nI (cn y)) then 0 else (if (σ 5000 1) = 0 then xit (fun i9 s9 => s9 + f_bitCount ((u2 (u2 (u2 σ 5000 0 0) (5010 + cn x) 3 ((σ (5010 + cn x) 3) ||| (1 <<< ((nI (cn y)) &&& 31)))) (5010 + cn y) 3 (((u2 (u2 σ 5000 0 0) (5010 + cn x) 3 ((σ (5010 + cn x) 3) ||| (1 <<< ((nI (cn y)) &&& 31)))) (5010 + cn y) 3) ||| (1 <<< ((nI (cn x)) &&& 31)))) (5010 + i9) 3)) R 0 0 / 2 else 0)) else 0) else 0)
def g_Mborder (σ : XS9) (x y : Int32) (R : Nat) : XS9 := (if n_lt x R then (if n_lt y R then (if (nI (cn x)) = (nI (cn y)) then u2 (u2 σ 5000 0 0) 5000 0 2 else (if (σ 5000 1) = 0 then u2 (u2 (u2 σ 5000 0 0) (5010 + cn x) 3 ((σ (5010 + cn x) 3) ||| (1 <<< ((nI (cn y)) &&& 31)))) (5010 + cn y) 3 (((u2 (u2 σ 5000 0 0) (5010 + cn x) 3 ((σ (5010 + cn x) 3) ||| (1 <<< ((nI (cn y)) &&& 31)))) (5010 + cn y) 3) ||| (1 <<< ((nI (cn x)) &&& 31))) else u2 (u2 σ 5000 0 0) 5000 0 3)) else u2 (u2 σ 5000 0 0) 5000 0 1) else u2 (u2 σ 5000 0 0) 5000 0 1)
theorem ct_X14_border {l : Launch} {h : XH} (hl : l.stackTraces = false) {z : Int64} {σ : XS9} (hbs : xx_bs h) (hfr : ∀ r, 5000 ≤ r → r < 20010 → h r = none) {R : Nat} (hR : σ 5001 900 = nI R) (hR5 : R ≤ 5) {x y : Int32} : XEx l m_X14_border 9 1 4 [.ref 5000, .int x, .int y] (setM z σ h) (some (.int (f_Mborder σ x y R))) (setM z (g_Mborder σ x y R) h) := by
  refine XMet.of hl rfl rfl (Nat.le_of_ble_eq_true rfl) (fun Y O hh hQ => ?_)
  have hz0 := hbs.1
  show SW Y 1 4 (setM z σ h) 0 [.ref 5000, .int x, .int y, xx_d, xx_d, xx_d] []
  refine sw_aload_n O (xx_dt dd_X14_border 0 rfl) rfl ?_
  refine sw_iconst (x := 0) O (xx_dt dd_X14_border 1 rfl) (by decide) ?_
  refine sw_put (h2 := setM z (u2 σ 5000 0 0) h) O (xx_dt dd_X14_border 2 rfl) cl_X14 fl_X14_46 (lm_mod (σ := σ)) (by decide) (by omega) rfl (fun _ => ⟨rfl, rfl⟩) (pm_mod (σ := σ) (by omega)) ?_
  refine sw_aload_n O (xx_dt dd_X14_border 3 rfl) rfl ?_
  refine sw_iload_n O (xx_dt dd_X14_border 4 rfl) rfl ?_
  refine sw_callVx (as := [.int x]) (st := []) (st2 := [.int (bZ (n_lt x R))]) O (ct_X14_isRegion hl (z := z) (σ := u2 σ 5000 0 0) hbs (R := R) hR (by omega) (x := x)) ce_X14_isRegion ml_X14_91 iv_X14_isRegion cl_X14 rfl (lm_mod (σ := u2 σ 5000 0 0)) (xx_dt dd_X14_border 5 rfl) (by decide) rfl rfl (Nat.le_of_ble_eq_true rfl) rfl ?_
  refine sw_if_eqB (tgt := 21) O (xx_dt dd_X14_border 6 rfl) (by decide) (fun q1 => ?_) (fun q1 => ?_)
  · refine sw_aload_n O (xx_dt dd_X14_border 11 rfl) rfl ?_
    refine sw_iconst (x := 1) O (xx_dt dd_X14_border 12 rfl) (by decide) ?_
    refine sw_callVx (as := [.int 1]) (st := []) (st2 := [.int 0]) O (ct_X14_refuse hl (z := z) (σ := u2 σ 5000 0 0) hbs (x := 1)) ce_X14_refuse ml_X14_74 iv_X14_refuse cl_X14 rfl (lm_mod (σ := u2 σ 5000 0 0)) (xx_dt dd_X14_border 13 rfl) (by decide) rfl rfl (Nat.le_of_ble_eq_true rfl) rfl ?_
    exact sw_iret O (xx_dt dd_X14_border 14 rfl) rfl rfl (by rw [hQ]; exact ⟨by unfold f_Mborder; simp only [if_neg q1], by unfold g_Mborder; simp only [if_neg q1]⟩)
  · have hc10 := q1
    refine sw_lsE (ls2 := [.ref 5000, .int (nI (cn x)), .int y, xx_d, xx_d, xx_d]) (by rw [← hc10.1]) ?_
    have hd10 := hc10.2
    refine sw_aload_n O (xx_dt dd_X14_border 7 rfl) rfl ?_
    refine sw_iload_n O (xx_dt dd_X14_border 8 rfl) rfl ?_
    refine sw_callVx (as := [.int y]) (st := []) (st2 := [.int (bZ (n_lt y R))]) O (ct_X14_isRegion hl (z := z) (σ := u2 σ 5000 0 0) hbs (R := R) hR (by omega) (x := y)) ce_X14_isRegion ml_X14_91 iv_X14_isRegion cl_X14 rfl (lm_mod (σ := u2 σ 5000 0 0)) (xx_dt dd_X14_border 9 rfl) (by decide) rfl rfl (Nat.le_of_ble_eq_true rfl) rfl ?_
    refine sw_if_neB (tgt := 27) O (xx_dt dd_X14_border 10 rfl) (by decide) (fun q2 => ?_) (fun q2 => ?_)
    · have hc18 := q2
      refine sw_lsE (ls2 := [.ref 5000, .int (nI (cn x)), .int (nI (cn y)), xx_d, xx_d, xx_d]) (by rw [← hc18.1]) ?_
      have hd18 := hc18.2
      refine sw_iload_n O (xx_dt dd_X14_border 15 rfl) rfl ?_
      refine sw_iload_n O (xx_dt dd_X14_border 16 rfl) rfl ?_
      refine sw_icmp_ne (tgt := 38) O (xx_dt dd_X14_border 17 rfl) (by decide) (fun q3 => ?_) (fun q3 => ?_)
      · refine sw_aload_n O (xx_dt dd_X14_border 22 rfl) rfl ?_
        refine sw_get (v := .int (σ 5000 1)) O (xx_dt dd_X14_border 23 rfl) cl_X14 fl_X14_77 (lm_mod (σ := u2 σ 5000 0 0)) (by decide) rfl ?_
        refine sw_if_eq (tgt := 51) O (xx_dt dd_X14_border 24 rfl) (by decide) (fun q4 => ?_) (fun q4 => ?_)
        · refine sw_aload_n O (xx_dt dd_X14_border 29 rfl) rfl ?_
          refine sw_get (v := .ref 5001) O (xx_dt dd_X14_border 30 rfl) cl_X14 fl_X14_23 (lm_mod (σ := u2 σ 5000 0 0)) (by decide) rfl ?_
          refine sw_iload_n O (xx_dt dd_X14_border 31 rfl) rfl ?_
          refine sw_callVL (ci := 6) (as := [.int (nI (cn x))]) (st := []) (st2 := [.ref (5010 + cn x)]) O (ct_get hl hbs (lm_5001 (σ := u2 σ 5000 0 0) (R := R) hR (by omega)) (by omega) (i := cn x) (x := 5010 + cn x) (by omega) (by omega) rfl) ce_Jx4a65c_get_915e3 ml_X14_61 iv_Jx4a65c_get_915e3 cl_Jx4a65c rfl (lm_5001 (σ := u2 σ 5000 0 0) (R := R) hR (by omega)) (xx_dt dd_X14_border 32 rfl) (by decide) rfl rfl (Nat.le_of_ble_eq_true rfl) rfl ?_
          refine sw_castO O (xx_dt dd_X14_border 33 rfl) cl_X12 (lm_reg (σ := u2 σ 5000 0 0) (R := R) hR (by omega) (j := cn x) (by omega)) cw_X14_65 ?_
          refine sw_dup O (xx_dt dd_X14_border 34 rfl) rfl ?_
          refine sw_get (v := .int (σ (5010 + cn x) 3)) O (xx_dt dd_X14_border 35 rfl) cl_X12 fl_X14_95 (lm_reg (σ := u2 σ 5000 0 0) (R := R) hR (by omega) (j := cn x) (by omega)) (by decide) (congrArg Value.int (congrFun (u2_ne (by omega)) 3)) ?_
          refine sw_iconst (x := 1) O (xx_dt dd_X14_border 36 rfl) (by decide) ?_
          refine sw_iload_n O (xx_dt dd_X14_border 37 rfl) rfl ?_
          refine sw_ishl O (xx_dt dd_X14_border 38 rfl) ?_
          refine sw_ior O (xx_dt dd_X14_border 39 rfl) ?_
          refine sw_put (h2 := setM z (u2 (u2 σ 5000 0 0) (5010 + cn x) 3 ((σ (5010 + cn x) 3) ||| (1 <<< ((nI (cn y)) &&& 31)))) h) O (xx_dt dd_X14_border 40 rfl) cl_X12 fl_X14_95 (lm_reg (σ := u2 σ 5000 0 0) (R := R) hR (by omega) (j := cn x) (by omega)) (by decide) (by omega) rfl (fun _ => ⟨rfl, rfl⟩) (pm_reg (σ := u2 σ 5000 0 0) (R := R) hR (by omega) (j := cn x) (by omega)) ?_
          refine sw_aload_n O (xx_dt dd_X14_border 41 rfl) rfl ?_
          refine sw_get (v := .ref 5001) O (xx_dt dd_X14_border 42 rfl) cl_X14 fl_X14_23 (lm_mod (σ := u2 (u2 σ 5000 0 0) (5010 + cn x) 3 ((σ (5010 + cn x) 3) ||| (1 <<< ((nI (cn y)) &&& 31))))) (by decide) rfl ?_
          refine sw_iload_n O (xx_dt dd_X14_border 43 rfl) rfl ?_
          refine sw_callVL (ci := 6) (as := [.int (nI (cn y))]) (st := []) (st2 := [.ref (5010 + cn y)]) O (ct_get hl hbs (lm_5001 (σ := u2 (u2 σ 5000 0 0) (5010 + cn x) 3 ((σ (5010 + cn x) 3) ||| (1 <<< ((nI (cn y)) &&& 31)))) (R := R) ((congrFun (u2_ne (by omega)) 900).trans hR) (by omega)) (by omega) (i := cn y) (x := 5010 + cn y) (by omega) (by omega) rfl) ce_Jx4a65c_get_915e3 ml_X14_61 iv_Jx4a65c_get_915e3 cl_Jx4a65c rfl (lm_5001 (σ := u2 (u2 σ 5000 0 0) (5010 + cn x) 3 ((σ (5010 + cn x) 3) ||| (1 <<< ((nI (cn y)) &&& 31)))) (R := R) ((congrFun (u2_ne (by omega)) 900).trans hR) (by omega)) (xx_dt dd_X14_border 44 rfl) (by decide) rfl rfl (Nat.le_of_ble_eq_true rfl) rfl ?_
          refine sw_castO O (xx_dt dd_X14_border 45 rfl) cl_X12 (lm_reg (σ := u2 (u2 σ 5000 0 0) (5010 + cn x) 3 ((σ (5010 + cn x) 3) ||| (1 <<< ((nI (cn y)) &&& 31)))) (R := R) ((congrFun (u2_ne (by omega)) 900).trans hR) (by omega) (j := cn y) (by omega)) cw_X14_65 ?_
          refine sw_dup O (xx_dt dd_X14_border 46 rfl) rfl ?_
          refine sw_get (v := .int ((u2 (u2 σ 5000 0 0) (5010 + cn x) 3 ((σ (5010 + cn x) 3) ||| (1 <<< ((nI (cn y)) &&& 31)))) (5010 + cn y) 3)) O (xx_dt dd_X14_border 47 rfl) cl_X12 fl_X14_95 (lm_reg (σ := u2 (u2 σ 5000 0 0) (5010 + cn x) 3 ((σ (5010 + cn x) 3) ||| (1 <<< ((nI (cn y)) &&& 31)))) (R := R) ((congrFun (u2_ne (by omega)) 900).trans hR) (by omega) (j := cn y) (by omega)) (by decide) rfl ?_
          refine sw_iconst (x := 1) O (xx_dt dd_X14_border 48 rfl) (by decide) ?_
          refine sw_iload_n O (xx_dt dd_X14_border 49 rfl) rfl ?_
          refine sw_ishl O (xx_dt dd_X14_border 50 rfl) ?_
          refine sw_ior O (xx_dt dd_X14_border 51 rfl) ?_
          refine sw_put (h2 := setM z (u2 (u2 (u2 σ 5000 0 0) (5010 + cn x) 3 ((σ (5010 + cn x) 3) ||| (1 <<< ((nI (cn y)) &&& 31)))) (5010 + cn y) 3 (((u2 (u2 σ 5000 0 0) (5010 + cn x) 3 ((σ (5010 + cn x) 3) ||| (1 <<< ((nI (cn y)) &&& 31)))) (5010 + cn y) 3) ||| (1 <<< ((nI (cn x)) &&& 31)))) h) O (xx_dt dd_X14_border 52 rfl) cl_X12 fl_X14_95 (lm_reg (σ := u2 (u2 σ 5000 0 0) (5010 + cn x) 3 ((σ (5010 + cn x) 3) ||| (1 <<< ((nI (cn y)) &&& 31)))) (R := R) ((congrFun (u2_ne (by omega)) 900).trans hR) (by omega) (j := cn y) (by omega)) (by decide) (by omega) rfl (fun _ => ⟨rfl, rfl⟩) (pm_reg (σ := u2 (u2 σ 5000 0 0) (5010 + cn x) 3 ((σ (5010 + cn x) 3) ||| (1 <<< ((nI (cn y)) &&& 31)))) (R := R) ((congrFun (u2_ne (by omega)) 900).trans hR) (by omega) (j := cn y) (by omega)) ?_
          refine sw_iconst (x := 0) O (xx_dt dd_X14_border 53 rfl) (by decide) ?_
          refine sw_istore_n (ls2 := [.ref 5000, .int (nI (cn x)), .int (nI (cn y)), .int 0, xx_d, xx_d]) O (xx_dt dd_X14_border 54 rfl) (by decide) rfl ?_
          refine sw_cls (fun hcl1 => ?_)
          refine sw_dom (fun hdm1 => ?_)
          refine sw_aload_n O (xx_dt dd_X14_border 55 rfl) rfl ?_
          refine sw_get (v := .ref 5001) O (xx_dt dd_X14_border 56 rfl) cl_X14 fl_X14_23 (lm_mod (σ := u2 (u2 (u2 σ 5000 0 0) (5010 + cn x) 3 ((σ (5010 + cn x) 3) ||| (1 <<< ((nI (cn y)) &&& 31)))) (5010 + cn y) 3 (((u2 (u2 σ 5000 0 0) (5010 + cn x) 3 ((σ (5010 + cn x) 3) ||| (1 <<< ((nI (cn y)) &&& 31)))) (5010 + cn y) 3) ||| (1 <<< ((nI (cn x)) &&& 31))))) (by decide) rfl ?_
          have hit : setM z (u2 (u2 (u2 σ 5000 0 0) (5010 + cn x) 3 ((σ (5010 + cn x) 3) ||| (1 <<< ((nI (cn y)) &&& 31)))) (5010 + cn y) 3 (((u2 (u2 σ 5000 0 0) (5010 + cn x) 3 ((σ (5010 + cn x) 3) ||| (1 <<< ((nI (cn y)) &&& 31)))) (5010 + cn y) 3) ||| (1 <<< ((nI (cn x)) &&& 31)))) h 19993 = none := (setM_it (by omega) (by omega)).trans (hfr 19993 (by omega) (by omega))
          refine sw_callVL (k := 0) (n := 0) (k' := 1) (n' := 4) (ci := 6) (as := []) (st := []) (st2 := [.ref 19993]) O (ct_AL_iterator hl (lm_5001 (z := z) (σ := u2 (u2 (u2 σ 5000 0 0) (5010 + cn x) 3 ((σ (5010 + cn x) 3) ||| (1 <<< ((nI (cn y)) &&& 31)))) (5010 + cn y) 3 (((u2 (u2 σ 5000 0 0) (5010 + cn x) 3 ((σ (5010 + cn x) 3) ||| (1 <<< ((nI (cn y)) &&& 31)))) (5010 + cn y) 3) ||| (1 <<< ((nI (cn x)) &&& 31)))) (h := h) (R := R) (((congrFun (u2_ne (by omega)) 900).trans (congrFun (u2_ne (by omega)) 900)).trans hR) (by omega)) hit (by omega)) ce_Jx4a65c_iterator_32c93 ml_X14_98 iv_Jx4a65c_iterator_32c93 cl_Jx4a65c rfl (lm_5001 (z := z) (σ := u2 (u2 (u2 σ 5000 0 0) (5010 + cn x) 3 ((σ (5010 + cn x) 3) ||| (1 <<< ((nI (cn y)) &&& 31)))) (5010 + cn y) 3 (((u2 (u2 σ 5000 0 0) (5010 + cn x) 3 ((σ (5010 + cn x) 3) ||| (1 <<< ((nI (cn y)) &&& 31)))) (5010 + cn y) 3) ||| (1 <<< ((nI (cn x)) &&& 31)))) (h := h) (R := R) (((congrFun (u2_ne (by omega)) 900).trans (congrFun (u2_ne (by omega)) 900)).trans hR) (by omega)) (xx_dt dd_X14_border 57 rfl) (by decide) rfl rfl (Nat.le_of_ble_eq_true rfl) rfl ?_
          refine sw_astore (ls2 := [.ref 5000, .int (nI (cn x)), .int (nI (cn y)), .int 0, .ref 19993, xx_d]) O (xx_dt dd_X14_border 58 rfl) (by decide) rfl ?_
          show SW Y 0 0 (xx_up (setM z (u2 (u2 (u2 σ 5000 0 0) (5010 + cn x) 3 ((σ (5010 + cn x) 3) ||| (1 <<< ((nI (cn y)) &&& 31)))) (5010 + cn y) 3 (((u2 (u2 σ 5000 0 0) (5010 + cn x) 3 ((σ (5010 + cn x) 3) ||| (1 <<< ((nI (cn y)) &&& 31)))) (5010 + cn y) 3) ||| (1 <<< ((nI (cn x)) &&& 31)))) h) 19993 (5, 4, itF R 0)) 106 [.ref 5000, .int (nI (cn x)), .int (nI (cn y)), .int 0, .ref 19993, xx_d] []
          refine sw_fori (S := Int32) (f := (fun i9 s9 => s9 + f_bitCount ((u2 (u2 (u2 σ 5000 0 0) (5010 + cn x) 3 ((σ (5010 + cn x) 3) ||| (1 <<< ((nI (cn y)) &&& 31)))) (5010 + cn y) 3 (((u2 (u2 σ 5000 0 0) (5010 + cn x) 3 ((σ (5010 + cn x) 3) ||| (1 <<< ((nI (cn y)) &&& 31)))) (5010 + cn y) 3) ||| (1 <<< ((nI (cn x)) &&& 31)))) (5010 + i9) 3))) (hp := fun i9 => xx_up (setM z (u2 (u2 (u2 σ 5000 0 0) (5010 + cn x) 3 ((σ (5010 + cn x) 3) ||| (1 <<< ((nI (cn y)) &&& 31)))) (5010 + cn y) 3 (((u2 (u2 σ 5000 0 0) (5010 + cn x) 3 ((σ (5010 + cn x) 3) ||| (1 <<< ((nI (cn y)) &&& 31)))) (5010 + cn y) 3) ||| (1 <<< ((nI (cn x)) &&& 31)))) h) 19993 (5, 4, itF R i9)) (lc := fun i9 s9 => [.ref 5000, .int (nI (cn x)), .int (nI (cn y)), .int s9, .ref 19993, xx_d]) (N := R) (fun i9 s9 hi9 kk9 => ?_) R 0 0 (by omega) ?_
          · refine sw_aload O (xx_dt dd_X14_border 59 rfl) rfl ?_
            refine sw_callF (k' := 0) (n' := 0) (as := []) (st := []) (st2 := [.int 1]) O (ct_hasN hl (n := R) (i := i9) (la := _) (xx_up_eq _ _ _) (by omega) ((xx_up_ne (by omega)).trans (lm_5001 (z := z) (σ := u2 (u2 (u2 σ 5000 0 0) (5010 + cn x) 3 ((σ (5010 + cn x) 3) ||| (1 <<< ((nI (cn y)) &&& 31)))) (5010 + cn y) 3 (((u2 (u2 σ 5000 0 0) (5010 + cn x) 3 ((σ (5010 + cn x) 3) ||| (1 <<< ((nI (cn y)) &&& 31)))) (5010 + cn y) 3) ||| (1 <<< ((nI (cn x)) &&& 31)))) (h := h) (R := R) (((congrFun (u2_ne (by omega)) 900).trans (congrFun (u2_ne (by omega)) 900)).trans hR) (by omega))) (by omega) hi9) ce_Jx35411_hasNext_aae02 if_X14_102 cl_Jx35411 rfl (xx_up_eq _ _ _) (xx_dt dd_X14_border 60 rfl) (by decide) rfl rfl (Nat.le_of_ble_eq_true rfl) rfl ?_
            refine sw_if_eq (tgt := 142) O (xx_dt dd_X14_border 61 rfl) (by decide) (fun q9 => absurd q9 (by decide)) (fun _ => ?_)
            refine sw_aload O (xx_dt dd_X14_border 62 rfl) rfl ?_
            refine sw_callF (k' := 0) (n' := 0) (as := []) (st := []) (st2 := [.ref (5010 + i9)]) O (ct_It_next hl (n := R) (i := i9) (la := _) (e := 19990) (x := 5010 + i9) (xx_up_eq _ _ _) (by omega) ((xx_up_ne (by omega)).trans (lm_5001 (z := z) (σ := u2 (u2 (u2 σ 5000 0 0) (5010 + cn x) 3 ((σ (5010 + cn x) 3) ||| (1 <<< ((nI (cn y)) &&& 31)))) (5010 + cn y) 3 (((u2 (u2 σ 5000 0 0) (5010 + cn x) 3 ((σ (5010 + cn x) 3) ||| (1 <<< ((nI (cn y)) &&& 31)))) (5010 + cn y) 3) ||| (1 <<< ((nI (cn x)) &&& 31)))) (h := h) (R := R) (((congrFun (u2_ne (by omega)) 900).trans (congrFun (u2_ne (by omega)) 900)).trans hR) (by omega))) (by omega) ((xx_up_ne (by omega)).trans (setM_no2 hbs).1) (by omega) (by omega) (f0 := hz0.choose) ((xx_up_ne (by omega)).trans ((setM_out (by omega)).trans hz0.choose_spec)) hi9 rfl) ce_Jx35411_next_0502b if_X14_108 cl_Jx35411 rfl (xx_up_eq _ _ _) (xx_dt dd_X14_border 63 rfl) (by decide) rfl rfl (Nat.le_of_ble_eq_true rfl) rfl ?_
            rw [xx_up_up]
            refine sw_castO O (xx_dt dd_X14_border 64 rfl) cl_X12 ((xx_up_ne (by omega)).trans (lm_reg (z := z) (σ := u2 (u2 (u2 σ 5000 0 0) (5010 + cn x) 3 ((σ (5010 + cn x) 3) ||| (1 <<< ((nI (cn y)) &&& 31)))) (5010 + cn y) 3 (((u2 (u2 σ 5000 0 0) (5010 + cn x) 3 ((σ (5010 + cn x) 3) ||| (1 <<< ((nI (cn y)) &&& 31)))) (5010 + cn y) 3) ||| (1 <<< ((nI (cn x)) &&& 31)))) (h := h) (R := R) (((congrFun (u2_ne (by omega)) 900).trans (congrFun (u2_ne (by omega)) 900)).trans hR) (by omega) (j := i9) (by omega))) cw_X14_65 ?_
            refine sw_astore (ls2 := [.ref 5000, .int (nI (cn x)), .int (nI (cn y)), .int s9, .ref 19993, .ref (5010 + i9)]) O (xx_dt dd_X14_border 65 rfl) (by decide) rfl ?_
            refine sw_iload_n O (xx_dt dd_X14_border 66 rfl) rfl ?_
            refine sw_aload O (xx_dt dd_X14_border 67 rfl) rfl ?_
            refine sw_get (v := .int ((u2 (u2 (u2 σ 5000 0 0) (5010 + cn x) 3 ((σ (5010 + cn x) 3) ||| (1 <<< ((nI (cn y)) &&& 31)))) (5010 + cn y) 3 (((u2 (u2 σ 5000 0 0) (5010 + cn x) 3 ((σ (5010 + cn x) 3) ||| (1 <<< ((nI (cn y)) &&& 31)))) (5010 + cn y) 3) ||| (1 <<< ((nI (cn x)) &&& 31)))) (5010 + i9) 3)) O (xx_dt dd_X14_border 68 rfl) cl_X12 fl_X14_95 ((xx_up_ne (by omega)).trans (lm_reg (z := z) (σ := u2 (u2 (u2 σ 5000 0 0) (5010 + cn x) 3 ((σ (5010 + cn x) 3) ||| (1 <<< ((nI (cn y)) &&& 31)))) (5010 + cn y) 3 (((u2 (u2 σ 5000 0 0) (5010 + cn x) 3 ((σ (5010 + cn x) 3) ||| (1 <<< ((nI (cn y)) &&& 31)))) (5010 + cn y) 3) ||| (1 <<< ((nI (cn x)) &&& 31)))) (h := h) (R := R) (((congrFun (u2_ne (by omega)) 900).trans (congrFun (u2_ne (by omega)) 900)).trans hR) (by omega) (j := i9) (by omega))) (by decide) rfl ?_
            refine sw_callSx (as := [.int ((u2 (u2 (u2 σ 5000 0 0) (5010 + cn x) 3 ((σ (5010 + cn x) 3) ||| (1 <<< ((nI (cn y)) &&& 31)))) (5010 + cn y) 3 (((u2 (u2 σ 5000 0 0) (5010 + cn x) 3 ((σ (5010 + cn x) 3) ||| (1 <<< ((nI (cn y)) &&& 31)))) (5010 + cn y) 3) ||| (1 <<< ((nI (cn x)) &&& 31)))) (5010 + i9) 3)]) (st := [.int s9]) (st2 := [.int (f_bitCount ((u2 (u2 (u2 σ 5000 0 0) (5010 + cn x) 3 ((σ (5010 + cn x) 3) ||| (1 <<< ((nI (cn y)) &&& 31)))) (5010 + cn y) 3 (((u2 (u2 σ 5000 0 0) (5010 + cn x) 3 ((σ (5010 + cn x) 3) ||| (1 <<< ((nI (cn y)) &&& 31)))) (5010 + cn y) 3) ||| (1 <<< ((nI (cn x)) &&& 31)))) (5010 + i9) 3)), .int s9]) O (ct_J6_bitCount_0f7a4 hl (x := (u2 (u2 (u2 σ 5000 0 0) (5010 + cn x) 3 ((σ (5010 + cn x) 3) ||| (1 <<< ((nI (cn y)) &&& 31)))) (5010 + cn y) 3 (((u2 (u2 σ 5000 0 0) (5010 + cn x) 3 ((σ (5010 + cn x) 3) ||| (1 <<< ((nI (cn y)) &&& 31)))) (5010 + cn y) 3) ||| (1 <<< ((nI (cn x)) &&& 31)))) (5010 + i9) 3)) ce_J6_bitCount_0f7a4 ml_X14_112 st_J6_bitCount_0f7a4 (xx_dt dd_X14_border 69 rfl) (by decide) rfl rfl (Nat.le_of_ble_eq_true rfl) rfl ?_
            refine sw_iadd O (xx_dt dd_X14_border 70 rfl) ?_
            refine sw_istore_n (ls2 := [.ref 5000, .int (nI (cn x)), .int (nI (cn y)), .int (s9 + (f_bitCount ((u2 (u2 (u2 σ 5000 0 0) (5010 + cn x) 3 ((σ (5010 + cn x) 3) ||| (1 <<< ((nI (cn y)) &&& 31)))) (5010 + cn y) 3 (((u2 (u2 σ 5000 0 0) (5010 + cn x) 3 ((σ (5010 + cn x) 3) ||| (1 <<< ((nI (cn y)) &&& 31)))) (5010 + cn y) 3) ||| (1 <<< ((nI (cn x)) &&& 31)))) (5010 + i9) 3))), .ref 19993, .ref (5010 + i9)]) O (xx_dt dd_X14_border 71 rfl) (by decide) rfl ?_
            refine sw_goto (tgt := 106) O (xx_dt dd_X14_border 72 rfl) (by decide) ?_
            refine sw_dum (ls2 := [.ref 5000, .int (nI (cn x)), .int (nI (cn y)), .int (s9 + (f_bitCount ((u2 (u2 (u2 σ 5000 0 0) (5010 + cn x) 3 ((σ (5010 + cn x) 3) ||| (1 <<< ((nI (cn y)) &&& 31)))) (5010 + cn y) 3 (((u2 (u2 σ 5000 0 0) (5010 + cn x) 3 ((σ (5010 + cn x) 3) ||| (1 <<< ((nI (cn y)) &&& 31)))) (5010 + cn y) 3) ||| (1 <<< ((nI (cn x)) &&& 31)))) (5010 + i9) 3))), .ref 19993, xx_d]) ⟨.inr rfl, .inr rfl, .inr rfl, .inr rfl, .inr rfl, .inl rfl, trivial⟩ ?_
            exact kk9
          · show SW Y 0 0 (xx_up (setM z (u2 (u2 (u2 σ 5000 0 0) (5010 + cn x) 3 ((σ (5010 + cn x) 3) ||| (1 <<< ((nI (cn y)) &&& 31)))) (5010 + cn y) 3 (((u2 (u2 σ 5000 0 0) (5010 + cn x) 3 ((σ (5010 + cn x) 3) ||| (1 <<< ((nI (cn y)) &&& 31)))) (5010 + cn y) 3) ||| (1 <<< ((nI (cn x)) &&& 31)))) h) 19993 (5, 4, itF R R)) 106 [.ref 5000, .int (nI (cn x)), .int (nI (cn y)), .int (xit (fun i9 s9 => s9 + f_bitCount ((u2 (u2 (u2 σ 5000 0 0) (5010 + cn x) 3 ((σ (5010 + cn x) 3) ||| (1 <<< ((nI (cn y)) &&& 31)))) (5010 + cn y) 3 (((u2 (u2 σ 5000 0 0) (5010 + cn x) 3 ((σ (5010 + cn x) 3) ||| (1 <<< ((nI (cn y)) &&& 31)))) (5010 + cn y) 3) ||| (1 <<< ((nI (cn x)) &&& 31)))) (5010 + i9) 3)) R 0 0), .ref 19993, xx_d] []
            refine sw_aload O (xx_dt dd_X14_border 59 rfl) rfl ?_
            refine sw_callF (k' := 0) (n' := 0) (as := []) (st := []) (st2 := [.int 0]) O (ct_hasE hl (n := R) (la := _) (xx_up_eq _ _ _) (by omega) ((xx_up_ne (by omega)).trans (lm_5001 (z := z) (σ := u2 (u2 (u2 σ 5000 0 0) (5010 + cn x) 3 ((σ (5010 + cn x) 3) ||| (1 <<< ((nI (cn y)) &&& 31)))) (5010 + cn y) 3 (((u2 (u2 σ 5000 0 0) (5010 + cn x) 3 ((σ (5010 + cn x) 3) ||| (1 <<< ((nI (cn y)) &&& 31)))) (5010 + cn y) 3) ||| (1 <<< ((nI (cn x)) &&& 31)))) (h := h) (R := R) (((congrFun (u2_ne (by omega)) 900).trans (congrFun (u2_ne (by omega)) 900)).trans hR) (by omega))) (by omega)) ce_Jx35411_hasNext_aae02 if_X14_102 cl_Jx35411 rfl (xx_up_eq _ _ _) (xx_dt dd_X14_border 60 rfl) (by decide) rfl rfl (Nat.le_of_ble_eq_true rfl) rfl ?_
            refine sw_if_eq (tgt := 142) O (xx_dt dd_X14_border 61 rfl) (by decide) (fun _ => ?_) (fun q9 => absurd rfl q9)
            refine sw_iload_n O (xx_dt dd_X14_border 73 rfl) rfl ?_
            refine sw_iconst (x := 2) O (xx_dt dd_X14_border 74 rfl) (by decide) ?_
            refine sw_idiv O (xx_dt dd_X14_border 75 rfl) (by first | decide | assumption) ?_
            exact sw_iretD (h' := setM z (u2 (u2 (u2 σ 5000 0 0) (5010 + cn x) 3 ((σ (5010 + cn x) 3) ||| (1 <<< ((nI (cn y)) &&& 31)))) (5010 + cn y) 3 (((u2 (u2 σ 5000 0 0) (5010 + cn x) 3 ((σ (5010 + cn x) 3) ||| (1 <<< ((nI (cn y)) &&& 31)))) (5010 + cn y) 3) ||| (1 <<< ((nI (cn x)) &&& 31)))) h) O (xx_dt dd_X14_border 76 rfl) rfl rfl (sub_up hit) hcl1 hdm1 (by rw [hQ]; exact ⟨by unfold f_Mborder; simp only [if_pos q1, if_pos q2, if_neg q3, if_pos q4], by unfold g_Mborder; simp only [if_pos q1, if_pos q2, if_neg q3, if_pos q4]⟩)
        · refine sw_aload_n O (xx_dt dd_X14_border 25 rfl) rfl ?_
          refine sw_iconst (x := 3) O (xx_dt dd_X14_border 26 rfl) (by decide) ?_
          refine sw_callVx (as := [.int 3]) (st := []) (st2 := [.int 0]) O (ct_X14_refuse hl (z := z) (σ := u2 σ 5000 0 0) hbs (x := 3)) ce_X14_refuse ml_X14_74 iv_X14_refuse cl_X14 rfl (lm_mod (σ := u2 σ 5000 0 0)) (xx_dt dd_X14_border 27 rfl) (by decide) rfl rfl (Nat.le_of_ble_eq_true rfl) rfl ?_
          exact sw_iret O (xx_dt dd_X14_border 28 rfl) rfl rfl (by rw [hQ]; exact ⟨by unfold f_Mborder; simp only [if_pos q1, if_pos q2, if_neg q3, if_neg q4], by unfold g_Mborder; simp only [if_pos q1, if_pos q2, if_neg q3, if_neg q4]⟩)
      · refine sw_aload_n O (xx_dt dd_X14_border 18 rfl) rfl ?_
        refine sw_iconst (x := 2) O (xx_dt dd_X14_border 19 rfl) (by decide) ?_
        refine sw_callVx (as := [.int 2]) (st := []) (st2 := [.int 0]) O (ct_X14_refuse hl (z := z) (σ := u2 σ 5000 0 0) hbs (x := 2)) ce_X14_refuse ml_X14_74 iv_X14_refuse cl_X14 rfl (lm_mod (σ := u2 σ 5000 0 0)) (xx_dt dd_X14_border 20 rfl) (by decide) rfl rfl (Nat.le_of_ble_eq_true rfl) rfl ?_
        exact sw_iret O (xx_dt dd_X14_border 21 rfl) rfl rfl (by rw [hQ]; exact ⟨by unfold f_Mborder; simp only [if_pos q1, if_pos q2, if_pos q3], by unfold g_Mborder; simp only [if_pos q1, if_pos q2, if_pos q3]⟩)
    · refine sw_aload_n O (xx_dt dd_X14_border 11 rfl) rfl ?_
      refine sw_iconst (x := 1) O (xx_dt dd_X14_border 12 rfl) (by decide) ?_
      refine sw_callVx (as := [.int 1]) (st := []) (st2 := [.int 0]) O (ct_X14_refuse hl (z := z) (σ := u2 σ 5000 0 0) hbs (x := 1)) ce_X14_refuse ml_X14_74 iv_X14_refuse cl_X14 rfl (lm_mod (σ := u2 σ 5000 0 0)) (xx_dt dd_X14_border 13 rfl) (by decide) rfl rfl (Nat.le_of_ble_eq_true rfl) rfl ?_
      exact sw_iret O (xx_dt dd_X14_border 14 rfl) rfl rfl (by rw [hQ]; exact ⟨by unfold f_Mborder; simp only [if_pos q1, if_neg q2], by unfold g_Mborder; simp only [if_pos q1, if_neg q2]⟩)
theorem fr_Kinit {σ : XS9} {b R B q : Nat} (h : q < b ∨ b + 1000 ≤ q) : g_Kinit σ b R B q = σ q := by
  unfold g_Kinit x_Kinit_132 x_Kinit_95
  rw [xit_keep (fun s : XS9 => s q) (fun i s => by (try dsimp only); rw [u2_ne (by omega), u2_ne (by omega)]), xit_keep (fun s : XS9 => s q) (fun i s => by (try dsimp only); rw [u2_ne (by omega)]), fr_clk0 h]
def f_Mopen (σ : XS9) (R B : Nat) : Int32 := (if (σ 5000 1) = 0 then (if R = 0 then 0 else (if B = 0 then 0 else xit (fun i9 s9 => s9 + (u2 (g_Kinit (u2 (u2 σ 5000 0 0) 5000 1 1) 7000 R B) 7000 25 1) (5010 + i9) 2) R 0 0)) else 0)
def g_Mopen (σ : XS9) (R B : Nat) : XS9 := (if (σ 5000 1) = 0 then (if R = 0 then u2 (u2 σ 5000 0 0) 5000 0 1 else (if B = 0 then u2 (u2 σ 5000 0 0) 5000 0 1 else u2 (g_Kinit (u2 (u2 σ 5000 0 0) 5000 1 1) 7000 R B) 7000 25 1)) else u2 (u2 σ 5000 0 0) 5000 0 1)
theorem ct_X14_open {l : Launch} {h : XH} (hl : l.stackTraces = false) {z : Int64} {σ : XS9} (hbs : xx_bs h) (hfr : ∀ r, 5000 ≤ r → r < 20010 → h r = none) {R : Nat} (hR : σ 5001 900 = nI R) (hR5 : R ≤ 5) {B : Nat} (hB : σ 5002 900 = nI B) (hB6 : B ≤ 6) (hk0 : σ 5000 1 = 0 → σ 7000 20 = 0) : XEx l m_X14_open 10 11 62 [.ref 5000] (setM z σ h) (some (.int (f_Mopen σ R B))) (setM z (g_Mopen σ R B) h) := by
  refine XMet.of hl rfl rfl (Nat.le_of_ble_eq_true rfl) (fun Y O hh hQ => ?_)
  have hz0 := hbs.1
  show SW Y 11 62 (setM z σ h) 0 [.ref 5000, xx_d, xx_d, xx_d] []
  refine sw_aload_n O (xx_dt dd_X14_open 0 rfl) rfl ?_
  refine sw_iconst (x := 0) O (xx_dt dd_X14_open 1 rfl) (by decide) ?_
  refine sw_put (h2 := setM z (u2 σ 5000 0 0) h) O (xx_dt dd_X14_open 2 rfl) cl_X14 fl_X14_46 (lm_mod (σ := σ)) (by decide) (by omega) rfl (fun _ => ⟨rfl, rfl⟩) (pm_mod (σ := σ) (by omega)) ?_
  refine sw_aload_n O (xx_dt dd_X14_open 3 rfl) rfl ?_
  refine sw_get (v := .int (σ 5000 1)) O (xx_dt dd_X14_open 4 rfl) cl_X14 fl_X14_77 (lm_mod (σ := u2 σ 5000 0 0)) (by decide) rfl ?_
  refine sw_if_ne (tgt := 32) O (xx_dt dd_X14_open 5 rfl) (by decide) (fun q1 => ?_) (fun q1 => ?_)
  · refine sw_aload_n O (xx_dt dd_X14_open 14 rfl) rfl ?_
    refine sw_iconst (x := 1) O (xx_dt dd_X14_open 15 rfl) (by decide) ?_
    refine sw_callVx (as := [.int 1]) (st := []) (st2 := [.int 0]) O (ct_X14_refuse hl (z := z) (σ := u2 σ 5000 0 0) hbs (x := 1)) ce_X14_refuse ml_X14_74 iv_X14_refuse cl_X14 rfl (lm_mod (σ := u2 σ 5000 0 0)) (xx_dt dd_X14_open 16 rfl) (by decide) rfl rfl (Nat.le_of_ble_eq_true rfl) rfl ?_
    exact sw_iret O (xx_dt dd_X14_open 17 rfl) rfl rfl (by rw [hQ]; exact ⟨by unfold f_Mopen; simp only [if_neg q1], by unfold g_Mopen; simp only [if_neg q1]⟩)
  · refine sw_aload_n O (xx_dt dd_X14_open 6 rfl) rfl ?_
    refine sw_get (v := .ref 5001) O (xx_dt dd_X14_open 7 rfl) cl_X14 fl_X14_23 (lm_mod (σ := u2 σ 5000 0 0)) (by decide) rfl ?_
    refine sw_callVL (ci := 6) (as := []) (st := []) (st2 := [.int (bZ (R = 0))]) O (ct_AL_isEmpty hl (lm_5001 (σ := u2 σ 5000 0 0) (R := R) hR (by omega)) (by omega)) ce_Jx4a65c_isEmpty_aae02 ml_X14_133 iv_Jx4a65c_isEmpty_aae02 cl_Jx4a65c rfl (lm_5001 (σ := u2 σ 5000 0 0) (R := R) hR (by omega)) (xx_dt dd_X14_open 8 rfl) (by decide) rfl rfl (Nat.le_of_ble_eq_true rfl) rfl ?_
    refine sw_if_neB (tgt := 32) O (xx_dt dd_X14_open 9 rfl) (by decide) (fun q2 => ?_) (fun q2 => ?_)
    · refine sw_aload_n O (xx_dt dd_X14_open 14 rfl) rfl ?_
      refine sw_iconst (x := 1) O (xx_dt dd_X14_open 15 rfl) (by decide) ?_
      refine sw_callVx (as := [.int 1]) (st := []) (st2 := [.int 0]) O (ct_X14_refuse hl (z := z) (σ := u2 σ 5000 0 0) hbs (x := 1)) ce_X14_refuse ml_X14_74 iv_X14_refuse cl_X14 rfl (lm_mod (σ := u2 σ 5000 0 0)) (xx_dt dd_X14_open 16 rfl) (by decide) rfl rfl (Nat.le_of_ble_eq_true rfl) rfl ?_
      exact sw_iret O (xx_dt dd_X14_open 17 rfl) rfl rfl (by rw [hQ]; exact ⟨by unfold f_Mopen; simp only [if_pos q1, if_pos q2], by unfold g_Mopen; simp only [if_pos q1, if_pos q2]⟩)
    · refine sw_aload_n O (xx_dt dd_X14_open 10 rfl) rfl ?_
      refine sw_get (v := .ref 5002) O (xx_dt dd_X14_open 11 rfl) cl_X14 fl_X14_27 (lm_mod (σ := u2 σ 5000 0 0)) (by decide) rfl ?_
      refine sw_callVL (ci := 6) (as := []) (st := []) (st2 := [.int (bZ (B = 0))]) O (ct_AL_isEmpty hl (lm_5002 (σ := u2 σ 5000 0 0) (B := B) hB (by omega)) (by omega)) ce_Jx4a65c_isEmpty_aae02 ml_X14_133 iv_Jx4a65c_isEmpty_aae02 cl_Jx4a65c rfl (lm_5002 (σ := u2 σ 5000 0 0) (B := B) hB (by omega)) (xx_dt dd_X14_open 12 rfl) (by decide) rfl rfl (Nat.le_of_ble_eq_true rfl) rfl ?_
      refine sw_if_eqB (tgt := 38) O (xx_dt dd_X14_open 13 rfl) (by decide) (fun q3 => ?_) (fun q3 => ?_)
      · refine sw_aload_n O (xx_dt dd_X14_open 18 rfl) rfl ?_
        refine sw_iconst (x := 1) O (xx_dt dd_X14_open 19 rfl) (by decide) ?_
        refine sw_put (h2 := setM z (u2 (u2 σ 5000 0 0) 5000 1 1) h) O (xx_dt dd_X14_open 20 rfl) cl_X14 fl_X14_77 (lm_mod (σ := u2 σ 5000 0 0)) (by decide) (by omega) rfl (fun _ => ⟨rfl, rfl⟩) (pm_mod (σ := u2 σ 5000 0 0) (by omega)) ?_
        refine sw_aload_n O (xx_dt dd_X14_open 21 rfl) rfl ?_
        refine sw_new (k := 10) (n := 51) (r := 7000) O (xx_dt dd_X14_open 22 rfl) cl_X11 nw_X14_136 (noK_r (z := z) (σ := u2 (u2 σ 5000 0 0) 5000 1 1) (r := 7000) (.inl rfl) (hk0 q1) (by omega) (by omega) hfr) (by omega) ?_
        rw [xx_blk_up]
        refine sw_dup O (xx_dt dd_X14_open 23 rfl) rfl ?_
        refine sw_aload_n O (xx_dt dd_X14_open 24 rfl) rfl ?_
        refine sw_callIx (k := 1) (n := 4) (k' := 9) (n' := 47) (as := [.ref 5000]) (st := [.ref 7000, .ref 5000]) (st2 := [.ref 7000, .ref 5000]) O (ct_Kinit hl (z := z) (σ := u2 (u2 σ 5000 0 0) 5000 1 1) hbs hfr (R := R) hR (by omega) (B := B) hB (by omega) (b := 7000) (.inl rfl) (hk0 q1)) ce_X11_init ml_X14_138 ii_X11_init (xx_dt dd_X14_open 25 rfl) (by decide) rfl rfl (Nat.le_of_ble_eq_true rfl) rfl ?_
        refine sw_put (h2 := setM z (u2 (g_Kinit (u2 (u2 σ 5000 0 0) 5000 1 1) 7000 R B) 7000 25 1) h) O (xx_dt dd_X14_open 26 rfl) cl_X14 fl_X14_141 (lm_mod (σ := g_Kinit (u2 (u2 σ 5000 0 0) 5000 1 1) 7000 R B)) (by decide) (by omega) rfl (fun _ => ⟨rfl, rfl⟩) pm_clkset ?_
        refine sw_iconst (x := 0) O (xx_dt dd_X14_open 27 rfl) (by decide) ?_
        refine sw_istore_n (ls2 := [.ref 5000, .int 0, xx_d, xx_d]) O (xx_dt dd_X14_open 28 rfl) (by decide) rfl ?_
        refine sw_cls (fun hcl1 => ?_)
        refine sw_dom (fun hdm1 => ?_)
        refine sw_aload_n O (xx_dt dd_X14_open 29 rfl) rfl ?_
        refine sw_get (v := .ref 5001) O (xx_dt dd_X14_open 30 rfl) cl_X14 fl_X14_23 (lm_mod (σ := u2 (g_Kinit (u2 (u2 σ 5000 0 0) 5000 1 1) 7000 R B) 7000 25 1)) (by decide) rfl ?_
        have hit : setM z (u2 (g_Kinit (u2 (u2 σ 5000 0 0) 5000 1 1) 7000 R B) 7000 25 1) h 19993 = none := (setM_it (by omega) (by omega)).trans (hfr 19993 (by omega) (by omega))
        refine sw_callVL (k := 0) (n := 0) (k' := 1) (n' := 4) (ci := 6) (as := []) (st := []) (st2 := [.ref 19993]) O (ct_AL_iterator hl (lm_5001 (z := z) (σ := u2 (g_Kinit (u2 (u2 σ 5000 0 0) 5000 1 1) 7000 R B) 7000 25 1) (h := h) (R := R) (((congrFun (u2_ne (by omega)) 900).trans (congrFun (fr_Kinit (by omega)) 900)).trans hR) (by omega)) hit (by omega)) ce_Jx4a65c_iterator_32c93 ml_X14_98 iv_Jx4a65c_iterator_32c93 cl_Jx4a65c rfl (lm_5001 (z := z) (σ := u2 (g_Kinit (u2 (u2 σ 5000 0 0) 5000 1 1) 7000 R B) 7000 25 1) (h := h) (R := R) (((congrFun (u2_ne (by omega)) 900).trans (congrFun (fr_Kinit (by omega)) 900)).trans hR) (by omega)) (xx_dt dd_X14_open 31 rfl) (by decide) rfl rfl (Nat.le_of_ble_eq_true rfl) rfl ?_
        refine sw_astore_n (ls2 := [.ref 5000, .int 0, .ref 19993, xx_d]) O (xx_dt dd_X14_open 32 rfl) (by decide) rfl ?_
        show SW Y 0 0 (xx_up (setM z (u2 (g_Kinit (u2 (u2 σ 5000 0 0) 5000 1 1) 7000 R B) 7000 25 1) h) 19993 (5, 4, itF R 0)) 65 [.ref 5000, .int 0, .ref 19993, xx_d] []
        refine sw_fori (S := Int32) (f := (fun i9 s9 => s9 + (u2 (g_Kinit (u2 (u2 σ 5000 0 0) 5000 1 1) 7000 R B) 7000 25 1) (5010 + i9) 2)) (hp := fun i9 => xx_up (setM z (u2 (g_Kinit (u2 (u2 σ 5000 0 0) 5000 1 1) 7000 R B) 7000 25 1) h) 19993 (5, 4, itF R i9)) (lc := fun i9 s9 => [.ref 5000, .int s9, .ref 19993, xx_d]) (N := R) (fun i9 s9 hi9 kk9 => ?_) R 0 0 (by omega) ?_
        · refine sw_aload_n O (xx_dt dd_X14_open 33 rfl) rfl ?_
          refine sw_callF (k' := 0) (n' := 0) (as := []) (st := []) (st2 := [.int 1]) O (ct_hasN hl (n := R) (i := i9) (la := _) (xx_up_eq _ _ _) (by omega) ((xx_up_ne (by omega)).trans (lm_5001 (z := z) (σ := u2 (g_Kinit (u2 (u2 σ 5000 0 0) 5000 1 1) 7000 R B) 7000 25 1) (h := h) (R := R) (((congrFun (u2_ne (by omega)) 900).trans (congrFun (fr_Kinit (by omega)) 900)).trans hR) (by omega))) (by omega) hi9) ce_Jx35411_hasNext_aae02 if_X14_102 cl_Jx35411 rfl (xx_up_eq _ _ _) (xx_dt dd_X14_open 34 rfl) (by decide) rfl rfl (Nat.le_of_ble_eq_true rfl) rfl ?_
          refine sw_if_eq (tgt := 94) O (xx_dt dd_X14_open 35 rfl) (by decide) (fun q9 => absurd q9 (by decide)) (fun _ => ?_)
          refine sw_aload_n O (xx_dt dd_X14_open 36 rfl) rfl ?_
          refine sw_callF (k' := 0) (n' := 0) (as := []) (st := []) (st2 := [.ref (5010 + i9)]) O (ct_It_next hl (n := R) (i := i9) (la := _) (e := 19990) (x := 5010 + i9) (xx_up_eq _ _ _) (by omega) ((xx_up_ne (by omega)).trans (lm_5001 (z := z) (σ := u2 (g_Kinit (u2 (u2 σ 5000 0 0) 5000 1 1) 7000 R B) 7000 25 1) (h := h) (R := R) (((congrFun (u2_ne (by omega)) 900).trans (congrFun (fr_Kinit (by omega)) 900)).trans hR) (by omega))) (by omega) ((xx_up_ne (by omega)).trans (setM_no2 hbs).1) (by omega) (by omega) (f0 := hz0.choose) ((xx_up_ne (by omega)).trans ((setM_out (by omega)).trans hz0.choose_spec)) hi9 rfl) ce_Jx35411_next_0502b if_X14_108 cl_Jx35411 rfl (xx_up_eq _ _ _) (xx_dt dd_X14_open 37 rfl) (by decide) rfl rfl (Nat.le_of_ble_eq_true rfl) rfl ?_
          rw [xx_up_up]
          refine sw_castO O (xx_dt dd_X14_open 38 rfl) cl_X12 ((xx_up_ne (by omega)).trans (lm_reg (z := z) (σ := u2 (g_Kinit (u2 (u2 σ 5000 0 0) 5000 1 1) 7000 R B) 7000 25 1) (h := h) (R := R) (((congrFun (u2_ne (by omega)) 900).trans (congrFun (fr_Kinit (by omega)) 900)).trans hR) (by omega) (j := i9) (by omega))) cw_X14_65 ?_
          refine sw_astore_n (ls2 := [.ref 5000, .int s9, .ref 19993, .ref (5010 + i9)]) O (xx_dt dd_X14_open 39 rfl) (by decide) rfl ?_
          refine sw_iload_n O (xx_dt dd_X14_open 40 rfl) rfl ?_
          refine sw_aload_n O (xx_dt dd_X14_open 41 rfl) rfl ?_
          refine sw_get (v := .int ((u2 (g_Kinit (u2 (u2 σ 5000 0 0) 5000 1 1) 7000 R B) 7000 25 1) (5010 + i9) 2)) O (xx_dt dd_X14_open 42 rfl) cl_X12 fl_X14_84 ((xx_up_ne (by omega)).trans (lm_reg (z := z) (σ := u2 (g_Kinit (u2 (u2 σ 5000 0 0) 5000 1 1) 7000 R B) 7000 25 1) (h := h) (R := R) (((congrFun (u2_ne (by omega)) 900).trans (congrFun (fr_Kinit (by omega)) 900)).trans hR) (by omega) (j := i9) (by omega))) (by decide) rfl ?_
          refine sw_iadd O (xx_dt dd_X14_open 43 rfl) ?_
          refine sw_istore_n (ls2 := [.ref 5000, .int (s9 + ((u2 (g_Kinit (u2 (u2 σ 5000 0 0) 5000 1 1) 7000 R B) 7000 25 1) (5010 + i9) 2)), .ref 19993, .ref (5010 + i9)]) O (xx_dt dd_X14_open 44 rfl) (by decide) rfl ?_
          refine sw_goto (tgt := 65) O (xx_dt dd_X14_open 45 rfl) (by decide) ?_
          refine sw_dum (ls2 := [.ref 5000, .int (s9 + ((u2 (g_Kinit (u2 (u2 σ 5000 0 0) 5000 1 1) 7000 R B) 7000 25 1) (5010 + i9) 2)), .ref 19993, xx_d]) ⟨.inr rfl, .inr rfl, .inr rfl, .inl rfl, trivial⟩ ?_
          exact kk9
        · show SW Y 0 0 (xx_up (setM z (u2 (g_Kinit (u2 (u2 σ 5000 0 0) 5000 1 1) 7000 R B) 7000 25 1) h) 19993 (5, 4, itF R R)) 65 [.ref 5000, .int (xit (fun i9 s9 => s9 + (u2 (g_Kinit (u2 (u2 σ 5000 0 0) 5000 1 1) 7000 R B) 7000 25 1) (5010 + i9) 2) R 0 0), .ref 19993, xx_d] []
          refine sw_aload_n O (xx_dt dd_X14_open 33 rfl) rfl ?_
          refine sw_callF (k' := 0) (n' := 0) (as := []) (st := []) (st2 := [.int 0]) O (ct_hasE hl (n := R) (la := _) (xx_up_eq _ _ _) (by omega) ((xx_up_ne (by omega)).trans (lm_5001 (z := z) (σ := u2 (g_Kinit (u2 (u2 σ 5000 0 0) 5000 1 1) 7000 R B) 7000 25 1) (h := h) (R := R) (((congrFun (u2_ne (by omega)) 900).trans (congrFun (fr_Kinit (by omega)) 900)).trans hR) (by omega))) (by omega)) ce_Jx35411_hasNext_aae02 if_X14_102 cl_Jx35411 rfl (xx_up_eq _ _ _) (xx_dt dd_X14_open 34 rfl) (by decide) rfl rfl (Nat.le_of_ble_eq_true rfl) rfl ?_
          refine sw_if_eq (tgt := 94) O (xx_dt dd_X14_open 35 rfl) (by decide) (fun _ => ?_) (fun q9 => absurd rfl q9)
          refine sw_iload_n O (xx_dt dd_X14_open 46 rfl) rfl ?_
          exact sw_iretD (h' := setM z (u2 (g_Kinit (u2 (u2 σ 5000 0 0) 5000 1 1) 7000 R B) 7000 25 1) h) O (xx_dt dd_X14_open 47 rfl) rfl rfl (sub_up hit) hcl1 hdm1 (by rw [hQ]; exact ⟨by unfold f_Mopen; simp only [if_pos q1, if_neg q2, if_neg q3], by unfold g_Mopen; simp only [if_pos q1, if_neg q2, if_neg q3]⟩)
      · refine sw_aload_n O (xx_dt dd_X14_open 14 rfl) rfl ?_
        refine sw_iconst (x := 1) O (xx_dt dd_X14_open 15 rfl) (by decide) ?_
        refine sw_callVx (as := [.int 1]) (st := []) (st2 := [.int 0]) O (ct_X14_refuse hl (z := z) (σ := u2 σ 5000 0 0) hbs (x := 1)) ce_X14_refuse ml_X14_74 iv_X14_refuse cl_X14 rfl (lm_mod (σ := u2 σ 5000 0 0)) (xx_dt dd_X14_open 16 rfl) (by decide) rfl rfl (Nat.le_of_ble_eq_true rfl) rfl ?_
        exact sw_iret O (xx_dt dd_X14_open 17 rfl) rfl rfl (by rw [hQ]; exact ⟨by unfold f_Mopen; simp only [if_pos q1, if_neg q2, if_pos q3], by unfold g_Mopen; simp only [if_pos q1, if_neg q2, if_pos q3]⟩)
