/-! ===== the reference: channel ===== -/
theorem fr_MisFits {σ : XS9} {x : Int32} {j c C : Nat} {rg : Nat → Nat} {qa ch q : Nat} (h : q ≠ qa ∧ ch ≤ 6) : g_MisFits σ x j c C rg qa ch q = σ q := by
  unfold g_MisFits
  split
  · rfl
  · rw [u2_ne h.1, fr_Mcp h, u2_ne h.1]
theorem fl_MisFits {σ : XS9} {x : Int32} {j c C : Nat} {rg : Nat → Nat} {qa ch : Nat} (h : ch ≤ 6) (hc : c < 20) : g_MisFits σ x j c C rg qa ch qa 20 = σ qa 20 ∧ g_MisFits σ x j c C rg qa ch qa 21 = σ qa 21 := by
  unfold g_MisFits
  split
  · exact ⟨rfl, rfl⟩
  · exact ⟨by rw [u2_oi (by omega), (fl_Mcp h).1, u2_oi (by omega)], by rw [u2_oi (by omega), (fl_Mcp h).2, u2_oi (by omega)]⟩
theorem bt_pos {v hi : Int32} (h : n_bt v 1 hi) (e : v = nI (cn v)) (b : cn v < 1000) : 1 ≤ cn v := by
  have t := h.1
  rw [e] at t
  exact (nI_leI (a := 1) (b := cn v) (by omega) (by omega)).mp t
def x_Mchannel_104 (x y : Int32) (C : Nat) (rg : Nat → Nat) (i83 : Nat) (s0 : XS9 × Nat) : XS9 × Nat := xitB (fun i104 s104 => (if (f_MisFits s104.1 (nI (cn x)) i83 s104.2 C rg 20000 (cn y)) = 0 then .inl (g_MisFits s104.1 (nI (cn x)) i83 s104.2 C rg 20000 (cn y), s104.2 + 1) else .inr (g_MisFits s104.1 (nI (cn x)) i83 s104.2 C rg 20000 (cn y), s104.2))) (cn y) 0 s0
def x_Mchannel_83 (x y v : Int32) (C : Nat) (rg : Nat → Nat) (s0 : XS9) : XS9 ⊕ (XS9 × Int32) := xitR (fun i83 s83 => (if (((nI (cn x)) >>> ((nI i83) &&& 31)) &&& 1) = 0 then .inl s83 else (if (nI i83) = (nI (cn v)) then .inr (u2 (u2 ((x_Mchannel_104 x y C rg i83 (s83, 0)).1) 20000 ((x_Mchannel_104 x y C rg i83 (s83, 0)).2) ((((x_Mchannel_104 x y C rg i83 (s83, 0)).1) 20000 ((x_Mchannel_104 x y C rg i83 (s83, 0)).2)) ||| (1 <<< ((nI i83) &&& 31)))) 20000 20 0, nI ((x_Mchannel_104 x y C rg i83 (s83, 0)).2)) else .inl (u2 ((x_Mchannel_104 x y C rg i83 (s83, 0)).1) 20000 ((x_Mchannel_104 x y C rg i83 (s83, 0)).2) ((((x_Mchannel_104 x y C rg i83 (s83, 0)).1) 20000 ((x_Mchannel_104 x y C rg i83 (s83, 0)).2)) ||| (1 <<< ((nI i83) &&& 31))))))) (cn v + 1) 0 s0
theorem in_Mchan {x y : Int32} {C : Nat} {rg : Nat → Nat} {i83 : Nat} {s : XS9} (h1 : 1 ≤ cn y) (h6 : cn y ≤ 6) (f1 : s 20000 20 = nI 1) (f2 : s 20000 21 = nI (cn y)) : (x_Mchannel_104 x y C rg i83 (s, 0)).1 20000 20 = nI 1 ∧ (x_Mchannel_104 x y C rg i83 (s, 0)).1 20000 21 = nI (cn y) ∧ (∀ q, q ≠ 20000 → (x_Mchannel_104 x y C rg i83 (s, 0)).1 q = s q) ∧ (x_Mchannel_104 x y C rg i83 (s, 0)).2 ≤ cn y := by
  unfold x_Mchannel_104
  have H : ∀ f i (t : XS9 × Nat), i + f = cn y → t.1 20000 20 = nI 1 ∧ t.1 20000 21 = nI (cn y) ∧ (∀ q, q ≠ 20000 → t.1 q = s q) ∧ t.2 ≤ i → (xitB (fun i104 s104 => (if (f_MisFits s104.1 (nI (cn x)) i83 s104.2 C rg 20000 (cn y)) = 0 then .inl (g_MisFits s104.1 (nI (cn x)) i83 s104.2 C rg 20000 (cn y), s104.2 + 1) else .inr (g_MisFits s104.1 (nI (cn x)) i83 s104.2 C rg 20000 (cn y), s104.2)) : Nat → XS9 × Nat → (XS9 × Nat) ⊕ (XS9 × Nat)) f i t).1 20000 20 = nI 1 ∧ (xitB (fun i104 s104 => (if (f_MisFits s104.1 (nI (cn x)) i83 s104.2 C rg 20000 (cn y)) = 0 then .inl (g_MisFits s104.1 (nI (cn x)) i83 s104.2 C rg 20000 (cn y), s104.2 + 1) else .inr (g_MisFits s104.1 (nI (cn x)) i83 s104.2 C rg 20000 (cn y), s104.2)) : Nat → XS9 × Nat → (XS9 × Nat) ⊕ (XS9 × Nat)) f i t).1 20000 21 = nI (cn y) ∧ (∀ q, q ≠ 20000 → (xitB (fun i104 s104 => (if (f_MisFits s104.1 (nI (cn x)) i83 s104.2 C rg 20000 (cn y)) = 0 then .inl (g_MisFits s104.1 (nI (cn x)) i83 s104.2 C rg 20000 (cn y), s104.2 + 1) else .inr (g_MisFits s104.1 (nI (cn x)) i83 s104.2 C rg 20000 (cn y), s104.2)) : Nat → XS9 × Nat → (XS9 × Nat) ⊕ (XS9 × Nat)) f i t).1 q = s q) ∧ (xitB (fun i104 s104 => (if (f_MisFits s104.1 (nI (cn x)) i83 s104.2 C rg 20000 (cn y)) = 0 then .inl (g_MisFits s104.1 (nI (cn x)) i83 s104.2 C rg 20000 (cn y), s104.2 + 1) else .inr (g_MisFits s104.1 (nI (cn x)) i83 s104.2 C rg 20000 (cn y), s104.2)) : Nat → XS9 × Nat → (XS9 × Nat) ⊕ (XS9 × Nat)) f i t).2 ≤ cn y := by
    intro f
    induction f with
    | zero => exact fun i t e h => ⟨h.1, h.2.1, h.2.2.1, by have := h.2.2.2; show t.2 ≤ cn y; omega⟩
    | succ f ih =>
      intro i t e h
      have h9 := h.2.2.2
      unfold xitB
      by_cases q : f_MisFits t.1 (nI (cn x)) i83 t.2 C rg 20000 (cn y) = 0
      · (try simp only [if_pos q])
        exact ih (i + 1) _ (by omega) ⟨(fl_MisFits (by omega) (by omega)).1.trans h.1, (fl_MisFits (by omega) (by omega)).2.trans h.2.1, fun q hq => (fr_MisFits ⟨hq, by omega⟩).trans (h.2.2.1 q hq), by show t.2 + 1 ≤ i + 1; omega⟩
      · (try simp only [if_neg q])
        exact ⟨(fl_MisFits (by omega) (by omega)).1.trans h.1, (fl_MisFits (by omega) (by omega)).2.trans h.2.1, fun q hq => (fr_MisFits ⟨hq, by omega⟩).trans (h.2.2.1 q hq), by show t.2 ≤ cn y; omega⟩
  exact H (cn y) 0 (s, 0) (by omega) ⟨f1, f2, fun _ _ => rfl, by show 0 ≤ 0; omega⟩
def s_Mchan (x y v : Int32) (C : Nat) (rg : Nat → Nat) : Nat → XS9 → XS9 ⊕ (XS9 × Int32) := fun i83 s83 => (if (((nI (cn x)) >>> ((nI i83) &&& 31)) &&& 1) = 0 then .inl s83 else (if (nI i83) = (nI (cn v)) then .inr (u2 (u2 ((x_Mchannel_104 x y C rg i83 (s83, 0)).1) 20000 ((x_Mchannel_104 x y C rg i83 (s83, 0)).2) ((((x_Mchannel_104 x y C rg i83 (s83, 0)).1) 20000 ((x_Mchannel_104 x y C rg i83 (s83, 0)).2)) ||| (1 <<< ((nI i83) &&& 31)))) 20000 20 0, nI ((x_Mchannel_104 x y C rg i83 (s83, 0)).2)) else .inl (u2 ((x_Mchannel_104 x y C rg i83 (s83, 0)).1) 20000 ((x_Mchannel_104 x y C rg i83 (s83, 0)).2) ((((x_Mchannel_104 x y C rg i83 (s83, 0)).1) 20000 ((x_Mchannel_104 x y C rg i83 (s83, 0)).2)) ||| (1 <<< ((nI i83) &&& 31))))))
def f_Mchannel (σ : XS9) (x y v : Int32) (R C : Nat) (rg : Nat → Nat) : Int32 := (if n_bt v 0 ((nI C) - 1) then (if n_lt x (2 ^ C) then (if n_bt y 1 6 then (if (((nI (cn x)) >>> ((nI (cn v)) &&& 31)) &&& 1) = 0 then (-1) else (if (f_Mcp (uR (u2 σ 5000 0 0) 20000 (rowN (cn y))) (nI (cn x)) 0 C rg 20000 (cn y)) = 0 then (-1) else (match (x_Mchannel_83 x y v C rg (g_Mcp (uR (u2 σ 5000 0 0) 20000 (rowN (cn y))) (nI (cn x)) 0 C rg 20000 (cn y))) with | .inl s83 => (-1) | .inr r83 => r83.2))) else 0) else 0) else 0)
def g_Mchannel (σ : XS9) (x y v : Int32) (R C : Nat) (rg : Nat → Nat) : XS9 := (if n_bt v 0 ((nI C) - 1) then (if n_lt x (2 ^ C) then (if n_bt y 1 6 then (if (((nI (cn x)) >>> ((nI (cn v)) &&& 31)) &&& 1) = 0 then u2 (uR (u2 σ 5000 0 0) 20000 (rowN (cn y))) 20000 20 0 else (if (f_Mcp (uR (u2 σ 5000 0 0) 20000 (rowN (cn y))) (nI (cn x)) 0 C rg 20000 (cn y)) = 0 then u2 (g_Mcp (uR (u2 σ 5000 0 0) 20000 (rowN (cn y))) (nI (cn x)) 0 C rg 20000 (cn y)) 20000 20 0 else (match (x_Mchannel_83 x y v C rg (g_Mcp (uR (u2 σ 5000 0 0) 20000 (rowN (cn y))) (nI (cn x)) 0 C rg 20000 (cn y))) with | .inl s83 => u2 s83 20000 20 0 | .inr r83 => r83.1))) else u2 (u2 σ 5000 0 0) 5000 0 2) else u2 (u2 σ 5000 0 0) 5000 0 2) else u2 (u2 σ 5000 0 0) 5000 0 1)
theorem ct_X14_channel {l : Launch} {h : XH} (hl : l.stackTraces = false) {z : Int64} {σ : XS9} (hbs : xx_bs h) (hfr : ∀ r, 5000 ≤ r → r < 20010 → h r = none) (hme : mem_eq σ σ) {R : Nat} (hR : σ 5001 900 = nI R) (hR5 : R ≤ 5) {C : Nat} (hS : σ 5004 900 = nI (2 * C)) (hC10 : C ≤ 10) {rg : Nat → Nat} (hrg : ∀ q, q < C → σ 5004 (2 * q) = nI (rg q) ∧ rg q < R) {x y v : Int32} {PI : Nat → XS9 → Prop} {PJ : Nat → Nat → XS9 → Prop} (hPI0 : n_bt v 0 ((nI C) - 1) → n_lt x (2 ^ C) → n_bt y 1 6 → ¬ f_Mcp (uR (u2 σ 5000 0 0) 20000 (rowN (cn y))) (nI (cn x)) 0 C rg 20000 (cn y) = 0 → ¬ ((nI (cn x)) >>> ((nI (cn v)) &&& 31)) &&& 1 = 0 → PI 0 (g_Mcp (uR (u2 σ 5000 0 0) 20000 (rowN (cn y))) (nI (cn x)) 0 C rg 20000 (cn y))) (hPI : ∀ i s s', i < cn v + 1 → PI i s → s_Mchan x y v C rg i s = .inl s' → PI (i + 1) s') (hPJ0 : ∀ i s, i < cn v + 1 → PI i s → ¬ ((nI (cn x)) >>> ((nI i) &&& 31)) &&& 1 = 0 → PJ i 0 s) (hPJ1 : ∀ i c s, PJ i c s → c < cn y → f_MisFits s (nI (cn x)) i c C rg 20000 (cn y) = 0 → PJ i (c + 1) (g_MisFits s (nI (cn x)) i c C rg 20000 (cn y))) (hPJe : ∀ i s, ¬ PJ i (cn y) s)  : XEx l m_X14_channel 19 1 6 [.ref 5000, .int x, .int y, .int v] (setM z σ h) (some (.int (f_Mchannel σ x y v R C rg))) (setM z (g_Mchannel σ x y v R C rg) h) := by
  refine XMet.of hl rfl rfl (Nat.le_of_ble_eq_true rfl) (fun Y O hh hQ => ?_)
  refine sw_cls (fun hcl => ?_)
  show SW Y 1 6 (setM z σ h) 0 [.ref 5000, .int x, .int y, .int v, xx_d, xx_d, xx_d] []
  refine sw_aload_n O (xx_dt dd_X14_channel 0 rfl) rfl ?_
  refine sw_iconst (x := 0) O (xx_dt dd_X14_channel 1 rfl) (by decide) ?_
  refine sw_put (h2 := setM z (u2 σ 5000 0 0) h) O (xx_dt dd_X14_channel 2 rfl) cl_X14 fl_X14_46 (lm_mod (σ := σ)) (by decide) (by omega) rfl (fun _ => ⟨rfl, rfl⟩) (pm_mod (σ := σ) (by omega)) ?_
  refine sw_iload_n O (xx_dt dd_X14_channel 3 rfl) rfl ?_
  refine sw_iconst (x := 0) O (xx_dt dd_X14_channel 4 rfl) (by decide) ?_
  refine sw_aload_n O (xx_dt dd_X14_channel 5 rfl) rfl ?_
  refine sw_get (v := .ref 5004) O (xx_dt dd_X14_channel 6 rfl) cl_X14 fl_X14_33 (lm_mod (σ := u2 σ 5000 0 0)) (by decide) rfl ?_
  refine sw_callVL (ci := 6) (as := []) (st := [.int 0, .int v]) (st2 := [.int (nI (2 * C)), .int 0, .int v]) O (ct_AL_size hl (lm_5004 (σ := u2 σ 5000 0 0) (S := 2 * C) hS (by omega))) ce_Jx4a65c_size_8abf5 ml_X14_57 iv_Jx4a65c_size_8abf5 cl_Jx4a65c rfl (lm_5004 (σ := u2 σ 5000 0 0) (S := 2 * C) hS (by omega)) (xx_dt dd_X14_channel 7 rfl) (by omega) rfl rfl (Nat.le_of_ble_eq_true rfl) rfl ?_
  refine sw_iconst (x := 2) O (xx_dt dd_X14_channel 8 rfl) (by decide) ?_
  refine sw_idiv O (xx_dt dd_X14_channel 9 rfl) (by first | decide | assumption) ?_
  have hx15 := trivial
  rw [nI_half (by omega)]
  refine sw_iconst (x := 1) O (xx_dt dd_X14_channel 10 rfl) (by decide) ?_
  refine sw_isub O (xx_dt dd_X14_channel 11 rfl) ?_
  refine sw_callSx (as := [.int v, .int 0, .int ((nI C) - 1)]) (st := []) (st2 := [.int (bZ (n_bt v 0 ((nI C) - 1)))]) O (ct_X14_is hl) ce_X14_is ml_X14_70 st_X14_is (xx_dt dd_X14_channel 12 rfl) (by omega) rfl rfl (Nat.le_of_ble_eq_true rfl) rfl ?_
  refine sw_if_neB (tgt := 30) O (xx_dt dd_X14_channel 13 rfl) (by decide) (fun q1 => ?_) (fun q1 => ?_)
  · have hc21 := ((sub1_lt (R := C) (by omega)).mp q1)
    refine sw_lsE (ls2 := [.ref 5000, .int x, .int y, .int (nI (cn v)), xx_d, xx_d, xx_d]) (by rw [← hc21.1]) ?_
    have hd21 := hc21.2
    refine sw_aload_n O (xx_dt dd_X14_channel 18 rfl) rfl ?_
    refine sw_iload_n O (xx_dt dd_X14_channel 19 rfl) rfl ?_
    refine sw_callVx (as := [.int x]) (st := []) (st2 := [.int (bZ (n_lt x (2 ^ C)))]) O (ct_X14_areStations hl (z := z) (σ := u2 σ 5000 0 0) hbs (C := C) hS hC10 (x := x)) ce_X14_areStations ml_X14_279 iv_X14_areStations cl_X14 rfl (lm_mod (σ := u2 σ 5000 0 0)) (xx_dt dd_X14_channel 20 rfl) (by omega) rfl rfl (Nat.le_of_ble_eq_true rfl) rfl ?_
    refine sw_if_eqB (tgt := 48) O (xx_dt dd_X14_channel 21 rfl) (by decide) (fun q2 => ?_) (fun q2 => ?_)
    · refine sw_aload_n O (xx_dt dd_X14_channel 27 rfl) rfl ?_
      refine sw_iconst (x := 2) O (xx_dt dd_X14_channel 28 rfl) (by decide) ?_
      refine sw_callVx (as := [.int 2]) (st := []) (st2 := [.int 0]) O (ct_X14_refuse hl (z := z) (σ := u2 σ 5000 0 0) hbs (x := 2)) ce_X14_refuse ml_X14_74 iv_X14_refuse cl_X14 rfl (lm_mod (σ := u2 σ 5000 0 0)) (xx_dt dd_X14_channel 29 rfl) (by omega) rfl rfl (Nat.le_of_ble_eq_true rfl) rfl ?_
      exact sw_iret O (xx_dt dd_X14_channel 30 rfl) rfl rfl (by rw [hQ]; exact ⟨by unfold f_Mchannel; simp only [if_pos q1, if_neg q2], by unfold g_Mchannel; simp only [if_pos q1, if_neg q2]⟩)
    · have hc35 := q2
      refine sw_lsE (ls2 := [.ref 5000, .int (nI (cn x)), .int y, .int (nI (cn v)), xx_d, xx_d, xx_d]) (by rw [← hc35.1]) ?_
      have hd35 := hc35.2
      refine sw_iload_n O (xx_dt dd_X14_channel 22 rfl) rfl ?_
      refine sw_iconst (x := 1) O (xx_dt dd_X14_channel 23 rfl) (by decide) ?_
      refine sw_bipush (x := 6) O (xx_dt dd_X14_channel 24 rfl) (by decide) ?_
      refine sw_callSx (as := [.int y, .int 1, .int 6]) (st := []) (st2 := [.int (bZ (n_bt y 1 6))]) O (ct_X14_is hl) ce_X14_is ml_X14_70 st_X14_is (xx_dt dd_X14_channel 25 rfl) (by omega) rfl rfl (Nat.le_of_ble_eq_true rfl) rfl ?_
      refine sw_if_neB (tgt := 54) O (xx_dt dd_X14_channel 26 rfl) (by decide) (fun q3 => ?_) (fun q3 => ?_)
      · have hc45 := (bt_nat 6 q3 (by decide) rfl (by decide))
        refine sw_lsE (ls2 := [.ref 5000, .int (nI (cn x)), .int (nI (cn y)), .int (nI (cn v)), xx_d, xx_d, xx_d]) (by rw [← hc45.1]) ?_
        have hd45 := hc45.2
        have hy1 : 1 ≤ cn y := bt_pos q3 hc45.1 (by omega)
        refine sw_iload_n O (xx_dt dd_X14_channel 31 rfl) rfl ?_
        refine xx_wid (k' := 0 + 1) (n' := 0 + (cn y)) (by omega) (by omega) (sw_newarray (k := 0) (n := 0) (t := 100) (N := cn y) (r := 20000) O (xx_dt dd_X14_channel 32 rfl) ⟨⟨by omega, by omega⟩, rfl⟩ ac_int (by first | decide | (have h9 := xx_nlt0 (cn y) (by omega); exact h9)) (by first | rfl | exact nI_clamp (by omega)) (by show (cn y) * 4 ≤ _; omega) ((setM_tn (z := z) (σ := u2 σ 5000 0 0) (q := 20000) (by omega) (hme.2.2 20000 (by omega) (by omega)).2).trans (hfr 20000 (by omega) (by omega))) (by omega) ?_)
        rw [xx_blk_up]
        refine sw_alter (F2 := fun k => .int (rowN (cn y) k)) (xx_up_eq _ _ _) (fun j9 hj9 => (rowN_lt (by omega)).symm) ?_
        rw [xx_up_up]
        rw [new_tmp (σ := u2 σ 5000 0 0) (q := 20000) (n := cn y) (by omega) (by omega)]
        refine sw_astore (ls2 := [.ref 5000, .int (nI (cn x)), .int (nI (cn y)), .int (nI (cn v)), .ref 20000, xx_d, xx_d]) O (xx_dt dd_X14_channel 33 rfl) (by decide) rfl ?_
        refine sw_iload_n O (xx_dt dd_X14_channel 34 rfl) rfl ?_
        refine sw_iload_n O (xx_dt dd_X14_channel 35 rfl) rfl ?_
        refine sw_ishr O (xx_dt dd_X14_channel 36 rfl) ?_
        refine sw_iconst (x := 1) O (xx_dt dd_X14_channel 37 rfl) (by decide) ?_
        refine sw_iand O (xx_dt dd_X14_channel 38 rfl) ?_
        refine sw_if_eq (tgt := 78) O (xx_dt dd_X14_channel 39 rfl) (by decide) (fun q4 => ?_) (fun q4 => ?_)
        · refine sw_iconst (x := (-1)) O (xx_dt dd_X14_channel 46 rfl) (by decide) ?_
          have me9 : mem_eq σ (u2 (uR (u2 σ 5000 0 0) 20000 (rowN (cn y))) 20000 20 0) := (mem_eq.frame (τ0 := u2 σ 5000 0 0) (mem_eq.int (r := 5000) (i := 0) (x := 0) hme rfl) (fun q h1 h2 h3 => by simp (disch := omega) only [u2_ne, uR_ne, fr_Cinit, fr_Cpay1, fr_Cpay2, fr_Mcp]) (by (simp (disch := omega) only [u2_ne, uR_ne, fr_Cinit, fr_Cpay1, fr_Cpay2, fr_Mcp]); exact hme.2.1.1.1) (fun q h1 h2 => by by_cases e0 : q = 20000; (subst e0; rfl); ((simp (disch := omega) only [u2_ne, uR_ne, fr_Cinit, fr_Cpay1, fr_Cpay2, fr_Mcp]; exact (hme.2.2 q h1 h2).1))))
          exact sw_iretD (h' := setM z (u2 (uR (u2 σ 5000 0 0) 20000 (rowN (cn y))) 20000 20 0) h) O (xx_dt dd_X14_channel 47 rfl) rfl rfl (dropT (by omega) hfr) (me9.cls hcl) (by rw [hh]; exact fun r hr => me9.dom hr) (by rw [hQ]; exact ⟨by unfold f_Mchannel; simp only [if_pos q1, if_pos q2, if_pos q3, if_pos q4], by unfold g_Mchannel; simp only [if_pos q1, if_pos q2, if_pos q3, if_pos q4]⟩)
        · refine sw_aload_n O (xx_dt dd_X14_channel 40 rfl) rfl ?_
          refine sw_iload_n O (xx_dt dd_X14_channel 41 rfl) rfl ?_
          refine sw_iconst (x := 0) O (xx_dt dd_X14_channel 42 rfl) (by decide) ?_
          refine sw_aload O (xx_dt dd_X14_channel 43 rfl) rfl ?_
          refine sw_callVx (as := [.int (nI (cn x)), .int 0, .ref 20000]) (st := []) (st2 := [.int (f_Mcp (uR (u2 σ 5000 0 0) 20000 (rowN (cn y))) (nI (cn x)) 0 C rg 20000 (cn y))]) O (ct_X14_canPack hl (z := z) (σ := uR (u2 σ 5000 0 0) 20000 (rowN (cn y))) hbs (R := R) hR (by omega) (C := C) hS (by omega) (rg := rg) hrg (qa := 20000) (ch := cn y) (by omega) tmp20 tmp21 (by omega) (x := nI (cn x)) (fr := 0) (by omega)) ce_X14_canPack ml_X14_272 iv_X14_canPack cl_X14 rfl (lm_mod (σ := uR (u2 σ 5000 0 0) 20000 (rowN (cn y)))) (xx_dt dd_X14_channel 44 rfl) (by omega) rfl rfl (Nat.le_of_ble_eq_true rfl) rfl ?_
          refine sw_if_ne (tgt := 80) O (xx_dt dd_X14_channel 45 rfl) (by decide) (fun q5 => ?_) (fun q5 => ?_)
          · refine sw_iconst (x := 0) O (xx_dt dd_X14_channel 48 rfl) (by decide) ?_
            refine sw_istore (ls2 := [.ref 5000, .int (nI (cn x)), .int (nI (cn y)), .int (nI (cn v)), .ref 20000, .int 0, xx_d]) O (xx_dt dd_X14_channel 49 rfl) (by decide) rfl ?_
            refine sw_forR (S := XS9) (R := (XS9 × Int32)) (fun i83 s83 => (if (((nI (cn x)) >>> ((nI i83) &&& 31)) &&& 1) = 0 then .inl s83 else (if (nI i83) = (nI (cn v)) then .inr (u2 (u2 ((x_Mchannel_104 x y C rg i83 (s83, 0)).1) 20000 ((x_Mchannel_104 x y C rg i83 (s83, 0)).2) ((((x_Mchannel_104 x y C rg i83 (s83, 0)).1) 20000 ((x_Mchannel_104 x y C rg i83 (s83, 0)).2)) ||| (1 <<< ((nI i83) &&& 31)))) 20000 20 0, nI ((x_Mchannel_104 x y C rg i83 (s83, 0)).2)) else .inl (u2 ((x_Mchannel_104 x y C rg i83 (s83, 0)).1) 20000 ((x_Mchannel_104 x y C rg i83 (s83, 0)).2) ((((x_Mchannel_104 x y C rg i83 (s83, 0)).1) 20000 ((x_Mchannel_104 x y C rg i83 (s83, 0)).2)) ||| (1 <<< ((nI i83) &&& 31))))))) (fun i s => s 20000 20 = nI 1 ∧ s 20000 21 = nI (cn y) ∧ (∀ q, q ≠ 20000 → s q = (g_Mcp (uR (u2 σ 5000 0 0) 20000 (rowN (cn y))) (nI (cn x)) 0 C rg 20000 (cn y)) q) ∧ PI i s) (FR := fun r9 => f_Mchannel σ x y v R C rg = r9.2 ∧ g_Mchannel σ x y v R C rg = r9.1) (hp := fun s83 => setM z s83 h) (hd := 83) (lc := fun i83 s83 => [.ref 5000, .int (nI (cn x)), .int (nI (cn y)), .int (nI (cn v)), .ref 20000, .int (nI i83), xx_d]) (N := (cn v + 1)) (fun i83 s83 hi83 hP83 => ⟨(by intro s' e'; refine ⟨?_, ?_, ?_, hPI _ _ _ hi83 hP83.2.2.2 e'⟩ <;> (revert e'; (try dsimp only); (repeat' split) <;> intro e' <;> first | (cases e'; done) | (have e9 := Sum.inl.inj e'; subst e9; first | exact hP83.1 | exact hP83.2.1 | exact hP83.2.2.1 | (have hz := in_Mchan (i83 := i83) (x := x) (C := C) (rg := rg) (by omega) (by omega) hP83.1 hP83.2.1; first | (rw [u2_oi (by omega)]; first | exact hz.1 | exact hz.2.1) | (intro q hq; rw [u2_ne hq]; exact (hz.2.2.1 q hq).trans (hP83.2.2.1 q hq)))))), fun kk83 kr83 => ?_⟩) (cn v + 1) 0 (g_Mcp (uR (u2 σ 5000 0 0) 20000 (rowN (cn y))) (nI (cn x)) 0 C rg 20000 (cn y)) (by omega) (⟨(fl_Mcp (by omega)).1.trans tmp20, (fl_Mcp (by omega)).2.trans tmp21, fun _ _ => rfl, hPI0 q1 q2 q3 (by assumption) (by assumption)⟩) (fun sN83 eN83 hP83 => ?_) (fun r83 eN83 => ?_)
            · refine sw_iload O (xx_dt dd_X14_channel 50 rfl) rfl ?_
              refine sw_iload_n O (xx_dt dd_X14_channel 51 rfl) rfl ?_
              refine sw_icmp_gt (tgt := 151) O (xx_dt dd_X14_channel 52 rfl) (by decide) (fun q6 => ?_) (fun q6 => ?_)
              · exact absurd ((nI_ltI (a := (cn v)) (b := i83) (by omega) (by omega)).mp q6) (by omega)
              · refine sw_iload_n O (xx_dt dd_X14_channel 53 rfl) rfl ?_
                refine sw_iload O (xx_dt dd_X14_channel 54 rfl) rfl ?_
                refine sw_ishr O (xx_dt dd_X14_channel 55 rfl) ?_
                refine sw_iconst (x := 1) O (xx_dt dd_X14_channel 56 rfl) (by decide) ?_
                refine sw_iand O (xx_dt dd_X14_channel 57 rfl) ?_
                refine sw_if_ne (tgt := 101) O (xx_dt dd_X14_channel 58 rfl) (by decide) (fun q7 => ?_) (fun q7 => ?_)
                · refine sw_iconst (x := 0) O (xx_dt dd_X14_channel 60 rfl) (by decide) ?_
                  refine sw_istore (ls2 := [.ref 5000, .int (nI (cn x)), .int (nI (cn y)), .int (nI (cn v)), .ref 20000, .int (nI i83), .int 0]) O (xx_dt dd_X14_channel 61 rfl) (by decide) rfl ?_
                  refine sw_forB (S := XS9 × Nat) (fun i104 s104 => (if (f_MisFits s104.1 (nI (cn x)) i83 s104.2 C rg 20000 (cn y)) = 0 then .inl (g_MisFits s104.1 (nI (cn x)) i83 s104.2 C rg 20000 (cn y), s104.2 + 1) else .inr (g_MisFits s104.1 (nI (cn x)) i83 s104.2 C rg 20000 (cn y), s104.2))) (fun i s => s.1 20000 20 = nI 1 ∧ s.1 20000 21 = nI (cn y) ∧ (∀ q, q ≠ 20000 → s.1 q = s83 q) ∧ s.2 = i ∧ PJ i83 i s.1) (fun s => s.1 20000 20 = nI 1 ∧ s.1 20000 21 = nI (cn y) ∧ (∀ q, q ≠ 20000 → s.1 q = s83 q) ∧ s.2 < cn y) (hp := fun s104 => setM z s104.1 h) (hd := 104) (lc := fun i104 s104 => [.ref 5000, .int (nI (cn x)), .int (nI (cn y)), .int (nI (cn v)), .ref 20000, .int (nI i83), .int (nI (s104.2))]) (ex := 124) (lx := fun s104 => [.ref 5000, .int (nI (cn x)), .int (nI (cn y)), .int (nI (cn v)), .ref 20000, .int (nI i83), .int (nI (s104.2))]) (N := (cn y)) (fun i104 s104 hi104 hP104 => ⟨(have h9 : s104.2 = i104 := hP104.2.2.2.1; ⟨(by intro s' e'; revert e'; (try dsimp only); (repeat' split) <;> intro e' <;> first | (cases e'; done) | (have e9 := Sum.inl.inj e'; subst e9; refine ⟨(fl_MisFits (by omega) (by omega)).1.trans hP104.1, (fl_MisFits (by omega) (by omega)).2.trans hP104.2.1, fun q hq => (fr_MisFits ⟨hq, by omega⟩).trans (hP104.2.2.1 q hq), ?_, ?_⟩; (show s104.2 + 1 = i104 + 1; omega); (show PJ i83 (i104 + 1) (g_MisFits s104.1 (nI (cn x)) i83 s104.2 C rg 20000 (cn y)); rw [h9]; exact hPJ1 _ _ _ hP104.2.2.2.2 (by omega) (by rw [← h9]; assumption)))), (by intro s' e'; revert e'; (try dsimp only); (repeat' split) <;> intro e' <;> first | (cases e'; done) | (have e9 := Sum.inr.inj e'; subst e9; refine ⟨(fl_MisFits (by omega) (by omega)).1.trans hP104.1, (fl_MisFits (by omega) (by omega)).2.trans hP104.2.1, fun q hq => (fr_MisFits ⟨hq, by omega⟩).trans (hP104.2.2.1 q hq), ?_⟩; (show s104.2 < cn y; omega)))⟩), fun kk104 kb104 => ?_⟩) (fun s104 hP104 => ⟨absurd hP104.2.2.2.2 (hPJe _ _), fun kx104 => ?_⟩) (cn y) 0 (s83, 0) (by omega) (⟨hP83.1, hP83.2.1, fun _ _ => rfl, rfl, hPJ0 _ _ hi83 hP83.2.2.2 (by assumption)⟩) (fun hP104 => ?_)
                  · refine sw_aload_n O (xx_dt dd_X14_channel 62 rfl) rfl ?_
                    refine sw_iload_n O (xx_dt dd_X14_channel 63 rfl) rfl ?_
                    refine sw_iload O (xx_dt dd_X14_channel 64 rfl) rfl ?_
                    refine sw_iload O (xx_dt dd_X14_channel 65 rfl) rfl ?_
                    refine sw_aload O (xx_dt dd_X14_channel 66 rfl) rfl ?_
                    refine sw_callVx (as := [.int (nI (cn x)), .int (nI i83), .int (nI (s104.2)), .ref 20000]) (st := []) (st2 := [.int (f_MisFits s104.1 (nI (cn x)) i83 s104.2 C rg 20000 (cn y))]) O (ct_X14_isFits hl (z := z) (σ := s104.1) hbs (R := R) ((((congrFun (hP104.2.2.1 _ (by omega)) 900).trans (congrFun (hP83.2.2.1 _ (by omega)) 900)).trans (congrFun (fr_Mcp ⟨by omega, by omega⟩) 900)).trans hR) (by omega) (C := C) ((((congrFun (hP104.2.2.1 _ (by omega)) 900).trans (congrFun (hP83.2.2.1 _ (by omega)) 900)).trans (congrFun (fr_Mcp ⟨by omega, by omega⟩) 900)).trans hS) (by omega) (rg := rg) (fun j9 hj9 => by rw [show s104.1 5004 = σ 5004 from (((hP104.2.2.1 _ (by omega)).trans (hP83.2.2.1 _ (by omega))).trans (fr_Mcp ⟨by omega, by omega⟩))]; exact hrg j9 hj9) (qa := 20000) (ch := cn y) (by omega) hP104.1 hP104.2.1 (by omega) (x := nI (cn x)) (j := i83) (by omega) (c := s104.2) (by omega)) ce_X14_isFits ml_X14_282 iv_X14_isFits cl_X14 rfl (lm_mod (σ := s104.1)) (xx_dt dd_X14_channel 67 rfl) (by omega) rfl rfl (Nat.le_of_ble_eq_true rfl) rfl ?_
                    have h9 : s104.2 = i104 := hP104.2.2.2.1
                    refine sw_if_ne (tgt := 124) O (xx_dt dd_X14_channel 68 rfl) (by decide) (fun q9 => ?_) (fun q9 => ?_)
                    · exact kb104 (g_MisFits s104.1 (nI (cn x)) i83 s104.2 C rg 20000 (cn y), s104.2) (by simp only [if_neg q9])
                    · refine sw_iinc (y := nI (s104.2 + 1)) (ls2 := [.ref 5000, .int (nI (cn x)), .int (nI (cn y)), .int (nI (cn v)), .ref 20000, .int (nI i83), .int (nI (s104.2 + 1))]) O (xx_dt dd_X14_channel 69 rfl) rfl (nI_1 _) (by decide) rfl ?_
                      refine sw_goto (tgt := 104) O (xx_dt dd_X14_channel 70 rfl) (by decide) ?_
                      exact kk104 (g_MisFits s104.1 (nI (cn x)) i83 s104.2 C rg 20000 (cn y), s104.2 + 1) (by simp only [if_pos q9])
                  · exact absurd hP104.2.2.2.2 (hPJe _ _)
                  · show SW Y _ _ (setM z ((x_Mchannel_104 x y C rg i83 (s83, 0)).1) h) 124 [.ref 5000, .int (nI (cn x)), .int (nI (cn y)), .int (nI (cn v)), .ref 20000, .int (nI i83), .int (nI ((x_Mchannel_104 x y C rg i83 (s83, 0)).2))] []
                    have hP104 : ((x_Mchannel_104 x y C rg i83 (s83, 0)).1) 20000 20 = nI 1 ∧ ((x_Mchannel_104 x y C rg i83 (s83, 0)).1) 20000 21 = nI (cn y) ∧ (∀ q, q ≠ 20000 → (x_Mchannel_104 x y C rg i83 (s83, 0)).1 q = s83 q) ∧ (x_Mchannel_104 x y C rg i83 (s83, 0)).2 < cn y := hP104
                    refine sw_aload O (xx_dt dd_X14_channel 71 rfl) rfl ?_
                    refine sw_iload O (xx_dt dd_X14_channel 72 rfl) rfl ?_
                    refine sw_dup2 O (xx_dt dd_X14_channel 73 rfl) rfl rfl ?_
                    refine sw_iaload (v := .int (((x_Mchannel_104 x y C rg i83 (s83, 0)).1) 20000 ((x_Mchannel_104 x y C rg i83 (s83, 0)).2))) O (xx_dt dd_X14_channel 74 rfl) ((lm_tmp (z := z) (σ := (x_Mchannel_104 x y C rg i83 (s83, 0)).1) (h := h) (q := 20000) (by omega) (fl1 hP104.1) hP104.2.1 (by omega)).get _) (pk_in ((x_Mchannel_104 x y C rg i83 (s83, 0)).2) _ (by omega)) (by rw [nI_clamp (by omega)]; try exact rfl) ?_
                    refine sw_iconst (x := 1) O (xx_dt dd_X14_channel 75 rfl) (by decide) ?_
                    refine sw_iload O (xx_dt dd_X14_channel 76 rfl) rfl ?_
                    refine sw_ishl O (xx_dt dd_X14_channel 77 rfl) ?_
                    refine sw_ior O (xx_dt dd_X14_channel 78 rfl) ?_
                    refine sw_iastore (h2 := setM z (u2 ((x_Mchannel_104 x y C rg i83 (s83, 0)).1) 20000 ((x_Mchannel_104 x y C rg i83 (s83, 0)).2) ((((x_Mchannel_104 x y C rg i83 (s83, 0)).1) 20000 ((x_Mchannel_104 x y C rg i83 (s83, 0)).2)) ||| (1 <<< ((nI i83) &&& 31)))) h) O (xx_dt dd_X14_channel 79 rfl) ((lm_tmp (z := z) (σ := (x_Mchannel_104 x y C rg i83 (s83, 0)).1) (h := h) (q := 20000) (by omega) (fl1 hP104.1) hP104.2.1 (by omega)).get _) (pk_in ((x_Mchannel_104 x y C rg i83 (s83, 0)).2) _ (by omega)) (by omega) (by rw [nI_clamp (by omega)]; exact ((lm_tmp (z := z) (σ := (x_Mchannel_104 x y C rg i83 (s83, 0)).1) (h := h) (q := 20000) (by omega) (fl1 hP104.1) hP104.2.1 (by omega)).put (by omega))) ?_
                    refine sw_iload O (xx_dt dd_X14_channel 80 rfl) rfl ?_
                    refine sw_iload_n O (xx_dt dd_X14_channel 81 rfl) rfl ?_
                    refine sw_icmp_ne (tgt := 145) O (xx_dt dd_X14_channel 82 rfl) (by decide) (fun q10 => ?_) (fun q10 => ?_)
                    · refine sw_iinc (y := nI (i83 + 1)) (ls2 := [.ref 5000, .int (nI (cn x)), .int (nI (cn y)), .int (nI (cn v)), .ref 20000, .int (nI (i83 + 1)), .int (nI ((x_Mchannel_104 x y C rg i83 (s83, 0)).2))]) O (xx_dt dd_X14_channel 85 rfl) rfl (nI_1 _) (by decide) rfl ?_
                      refine sw_goto (tgt := 83) O (xx_dt dd_X14_channel 86 rfl) (by decide) ?_
                      refine sw_dum (ls2 := [.ref 5000, .int (nI (cn x)), .int (nI (cn y)), .int (nI (cn v)), .ref 20000, .int (nI (i83 + 1)), xx_d]) ⟨.inr rfl, .inr rfl, .inr rfl, .inr rfl, .inr rfl, .inr rfl, .inl rfl, trivial⟩ ?_
                      exact kk83 (u2 ((x_Mchannel_104 x y C rg i83 (s83, 0)).1) 20000 ((x_Mchannel_104 x y C rg i83 (s83, 0)).2) ((((x_Mchannel_104 x y C rg i83 (s83, 0)).1) 20000 ((x_Mchannel_104 x y C rg i83 (s83, 0)).2)) ||| (1 <<< ((nI i83) &&& 31)))) (by simp only [if_neg q7, if_neg q10])
                    · refine sw_iload O (xx_dt dd_X14_channel 83 rfl) rfl ?_
                      have kz := kr83 (u2 (u2 ((x_Mchannel_104 x y C rg i83 (s83, 0)).1) 20000 ((x_Mchannel_104 x y C rg i83 (s83, 0)).2) ((((x_Mchannel_104 x y C rg i83 (s83, 0)).1) 20000 ((x_Mchannel_104 x y C rg i83 (s83, 0)).2)) ||| (1 <<< ((nI i83) &&& 31)))) 20000 20 0, nI ((x_Mchannel_104 x y C rg i83 (s83, 0)).2)) (by simp only [if_neg q7, if_pos q10])
                      have me9 : mem_eq σ (u2 (u2 ((x_Mchannel_104 x y C rg i83 (s83, 0)).1) 20000 ((x_Mchannel_104 x y C rg i83 (s83, 0)).2) ((((x_Mchannel_104 x y C rg i83 (s83, 0)).1) 20000 ((x_Mchannel_104 x y C rg i83 (s83, 0)).2)) ||| (1 <<< ((nI i83) &&& 31)))) 20000 20 0) := (mem_eq.frame (τ0 := u2 σ 5000 0 0) (mem_eq.int (r := 5000) (i := 0) (x := 0) hme rfl) (fun q h1 h2 h3 => by simp (disch := omega) only [u2_ne, uR_ne, fr_Cinit, fr_Cpay1, fr_Cpay2, fr_Mcp, hP104.2.2.1, hP83.2.2.1]) (by (simp (disch := omega) only [u2_ne, uR_ne, fr_Cinit, fr_Cpay1, fr_Cpay2, fr_Mcp, hP104.2.2.1, hP83.2.2.1]); exact hme.2.1.1.1) (fun q h1 h2 => by by_cases e0 : q = 20000; (subst e0; rfl); ((simp (disch := omega) only [u2_ne, uR_ne, fr_Cinit, fr_Cpay1, fr_Cpay2, fr_Mcp, hP104.2.2.1, hP83.2.2.1]; exact (hme.2.2 q h1 h2).1))))
                      exact sw_iretD (h' := setM z (u2 (u2 ((x_Mchannel_104 x y C rg i83 (s83, 0)).1) 20000 ((x_Mchannel_104 x y C rg i83 (s83, 0)).2) ((((x_Mchannel_104 x y C rg i83 (s83, 0)).1) 20000 ((x_Mchannel_104 x y C rg i83 (s83, 0)).2)) ||| (1 <<< ((nI i83) &&& 31)))) 20000 20 0) h) O (xx_dt dd_X14_channel 84 rfl) rfl rfl (dropT (by omega) hfr) (me9.cls hcl) (by rw [hh]; exact fun r hr => me9.dom hr) (by rw [hQ]; exact ⟨by rw [kz.1], by rw [kz.2]⟩)
                · refine sw_goto (tgt := 145) O (xx_dt dd_X14_channel 59 rfl) (by decide) ?_
                  refine sw_iinc (y := nI (i83 + 1)) (ls2 := [.ref 5000, .int (nI (cn x)), .int (nI (cn y)), .int (nI (cn v)), .ref 20000, .int (nI (i83 + 1)), xx_d]) O (xx_dt dd_X14_channel 85 rfl) rfl (nI_1 _) (by decide) rfl ?_
                  refine sw_goto (tgt := 83) O (xx_dt dd_X14_channel 86 rfl) (by decide) ?_
                  exact kk83 s83 (by simp only [if_pos q7])
            · show SW Y _ _ (setM z sN83 h) 83 [.ref 5000, .int (nI (cn x)), .int (nI (cn y)), .int (nI (cn v)), .ref 20000, .int (nI ((cn v + 1))), xx_d] []
              refine sw_iload O (xx_dt dd_X14_channel 50 rfl) rfl ?_
              refine sw_iload_n O (xx_dt dd_X14_channel 51 rfl) rfl ?_
              refine sw_icmp_gt (tgt := 151) O (xx_dt dd_X14_channel 52 rfl) (by decide) (fun q6 => ?_) (fun q6 => ?_)
              · refine sw_iconst (x := (-1)) O (xx_dt dd_X14_channel 87 rfl) (by decide) ?_
                have me9 : mem_eq σ (u2 sN83 20000 20 0) := (mem_eq.frame (τ0 := u2 σ 5000 0 0) (mem_eq.int (r := 5000) (i := 0) (x := 0) hme rfl) (fun q h1 h2 h3 => by simp (disch := omega) only [u2_ne, uR_ne, fr_Cinit, fr_Cpay1, fr_Cpay2, fr_Mcp, hP83.2.2.1]) (by (simp (disch := omega) only [u2_ne, uR_ne, fr_Cinit, fr_Cpay1, fr_Cpay2, fr_Mcp, hP83.2.2.1]); exact hme.2.1.1.1) (fun q h1 h2 => by by_cases e0 : q = 20000; (subst e0; rfl); ((simp (disch := omega) only [u2_ne, uR_ne, fr_Cinit, fr_Cpay1, fr_Cpay2, fr_Mcp, hP83.2.2.1]; exact (hme.2.2 q h1 h2).1))))
                exact sw_iretD (h' := setM z (u2 sN83 20000 20 0) h) O (xx_dt dd_X14_channel 88 rfl) rfl rfl (dropT (by omega) hfr) (me9.cls hcl) (by rw [hh]; exact fun r hr => me9.dom hr) (by rw [hQ]; exact ⟨by unfold f_Mchannel; simp only [if_pos q1, if_pos q2, if_pos q3, if_neg q4, if_neg q5, x_Mchannel_83, eN83], by unfold g_Mchannel; simp only [if_pos q1, if_pos q2, if_pos q3, if_neg q4, if_neg q5, x_Mchannel_83, eN83]⟩)
              · exact absurd (nI_lt (a := (cn v)) (b := (cn v + 1)) (by omega) (by omega)) q6
            · exact ⟨by unfold f_Mchannel; simp only [if_pos q1, if_pos q2, if_pos q3, if_neg q4, if_neg q5, x_Mchannel_83, eN83], by unfold g_Mchannel; simp only [if_pos q1, if_pos q2, if_pos q3, if_neg q4, if_neg q5, x_Mchannel_83, eN83]⟩
          · refine sw_iconst (x := (-1)) O (xx_dt dd_X14_channel 46 rfl) (by decide) ?_
            have me9 : mem_eq σ (u2 (g_Mcp (uR (u2 σ 5000 0 0) 20000 (rowN (cn y))) (nI (cn x)) 0 C rg 20000 (cn y)) 20000 20 0) := (mem_eq.frame (τ0 := u2 σ 5000 0 0) (mem_eq.int (r := 5000) (i := 0) (x := 0) hme rfl) (fun q h1 h2 h3 => by simp (disch := omega) only [u2_ne, uR_ne, fr_Cinit, fr_Cpay1, fr_Cpay2, fr_Mcp]) (by (simp (disch := omega) only [u2_ne, uR_ne, fr_Cinit, fr_Cpay1, fr_Cpay2, fr_Mcp]); exact hme.2.1.1.1) (fun q h1 h2 => by by_cases e0 : q = 20000; (subst e0; rfl); ((simp (disch := omega) only [u2_ne, uR_ne, fr_Cinit, fr_Cpay1, fr_Cpay2, fr_Mcp]; exact (hme.2.2 q h1 h2).1))))
            exact sw_iretD (h' := setM z (u2 (g_Mcp (uR (u2 σ 5000 0 0) 20000 (rowN (cn y))) (nI (cn x)) 0 C rg 20000 (cn y)) 20000 20 0) h) O (xx_dt dd_X14_channel 47 rfl) rfl rfl (dropT (by omega) hfr) (me9.cls hcl) (by rw [hh]; exact fun r hr => me9.dom hr) (by rw [hQ]; exact ⟨by unfold f_Mchannel; simp only [if_pos q1, if_pos q2, if_pos q3, if_neg q4, if_pos q5], by unfold g_Mchannel; simp only [if_pos q1, if_pos q2, if_pos q3, if_neg q4, if_pos q5]⟩)
      · refine sw_aload_n O (xx_dt dd_X14_channel 27 rfl) rfl ?_
        refine sw_iconst (x := 2) O (xx_dt dd_X14_channel 28 rfl) (by decide) ?_
        refine sw_callVx (as := [.int 2]) (st := []) (st2 := [.int 0]) O (ct_X14_refuse hl (z := z) (σ := u2 σ 5000 0 0) hbs (x := 2)) ce_X14_refuse ml_X14_74 iv_X14_refuse cl_X14 rfl (lm_mod (σ := u2 σ 5000 0 0)) (xx_dt dd_X14_channel 29 rfl) (by omega) rfl rfl (Nat.le_of_ble_eq_true rfl) rfl ?_
        exact sw_iret O (xx_dt dd_X14_channel 30 rfl) rfl rfl (by rw [hQ]; exact ⟨by unfold f_Mchannel; simp only [if_pos q1, if_pos q2, if_neg q3], by unfold g_Mchannel; simp only [if_pos q1, if_pos q2, if_neg q3]⟩)
  · refine sw_aload_n O (xx_dt dd_X14_channel 14 rfl) rfl ?_
    refine sw_iconst (x := 1) O (xx_dt dd_X14_channel 15 rfl) (by decide) ?_
    refine sw_callVx (as := [.int 1]) (st := []) (st2 := [.int 0]) O (ct_X14_refuse hl (z := z) (σ := u2 σ 5000 0 0) hbs (x := 1)) ce_X14_refuse ml_X14_74 iv_X14_refuse cl_X14 rfl (lm_mod (σ := u2 σ 5000 0 0)) (xx_dt dd_X14_channel 16 rfl) (by omega) rfl rfl (Nat.le_of_ble_eq_true rfl) rfl ?_
    exact sw_iret O (xx_dt dd_X14_channel 17 rfl) rfl rfl (by rw [hQ]; exact ⟨by unfold f_Mchannel; simp only [if_neg q1], by unfold g_Mchannel; simp only [if_neg q1]⟩)
