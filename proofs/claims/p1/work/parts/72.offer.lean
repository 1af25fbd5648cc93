section
/-! ===== the reference: offer, station, ask ===== -/
theorem fr_Madd {σ : XS9} {j p q : Nat} {c a : Int32} (h : q ≠ 5030 + j) : g_Madd σ j p c a q = σ q := by
  unfold g_Madd
  rw [fr_addI h, fr_addI h]
theorem n_Madd {σ : XS9} {j p : Nat} {c a : Int32} : g_Madd σ j p c a (5030 + j) 900 = nI (2 * (p + 1)) := addI_n2
def x_Moffer_104 (σ : XS9) (y : Int32) (R : Nat) (s0 : Int32 × Int64) : Int32 × Int64 := xit (fun i104 s104 => (if (if (σ (5010 + i104) 0) < (σ 5000 2) then (σ (5010 + i104) 0) else (σ 5000 2)) < (f_of y i104) then (s104.1 &&& 0, s104.2 + ((Int32.toInt64 (f_of y i104)) * (Int32.toInt64 (σ (5010 + i104) 2)))) else (s104.1 &&& 1, s104.2 + ((Int32.toInt64 (f_of y i104)) * (Int32.toInt64 (σ (5010 + i104) 2)))))) R 0 s0
theorem off0 {σ : XS9} {y : Int32} {R : Nat} {a : Int64} : (x_Moffer_104 σ y R (0, a)).1 = 0 := by
  unfold x_Moffer_104
  refine xit_inv (fun s : Int32 × Int64 => s.1 = 0) (N := R) (fun i s hi hP => ?_) R 0 (0, a) (by omega) rfl
  have hP' : s.1 = 0 := hP
  (try dsimp only)
  (repeat' split) <;> (rw [hP']; rfl)
def f_Moffer (σ : XS9) (x y v : Int32) (R B : Nat) (pk : Nat → Nat) : Int32 := (if n_lt x B then (if y < 0 then 0 else (if (f_power R) ≤ y then 0 else (if 0 ≤ v then (if (σ 5000 1) = 2 then (if 6 ≤ (nI (pk (cn x))) then 0 else (if y ≤ 0 then 0 else (if (σ (5020 + cn x) 0) < v then 0 else (if ((x_Moffer_104 σ y R (1, Int64.ofNat (0 : Fin 2))).1) = 0 then 0 else (if 0 ≤ (lg_cmp (Int32.toInt64 v) ((x_Moffer_104 σ y R (1, Int64.ofNat (0 : Fin 2))).2)) then nI (pk (cn x)) else 0))))) else 0) else 0))) else 0)
def g_Moffer (σ : XS9) (x y v : Int32) (R B : Nat) (pk : Nat → Nat) : XS9 := (if n_lt x B then (if y < 0 then u2 (u2 σ 5000 0 0) 5000 0 2 else (if (f_power R) ≤ y then u2 (u2 σ 5000 0 0) 5000 0 2 else (if 0 ≤ v then (if (σ 5000 1) = 2 then (if 6 ≤ (nI (pk (cn x))) then u2 (u2 σ 5000 0 0) 5000 0 3 else (if y ≤ 0 then u2 (u2 σ 5000 0 0) 5000 0 3 else (if (σ (5020 + cn x) 0) < v then u2 (u2 σ 5000 0 0) 5000 0 3 else (if ((x_Moffer_104 σ y R (1, Int64.ofNat (0 : Fin 2))).1) = 0 then u2 (u2 σ 5000 0 0) 5000 0 3 else (if 0 ≤ (lg_cmp (Int32.toInt64 v) ((x_Moffer_104 σ y R (1, Int64.ofNat (0 : Fin 2))).2)) then g_Madd (u2 σ 5000 0 0) (cn x) (pk (cn x)) y v else u2 (u2 σ 5000 0 0) 5000 0 3))))) else u2 (u2 σ 5000 0 0) 5000 0 3) else u2 (u2 σ 5000 0 0) 5000 0 2))) else u2 (u2 σ 5000 0 0) 5000 0 1)
theorem ct_X14_offer {l : Launch} {h : XH} (hl : l.stackTraces = false) {z : Int64} {σ : XS9} (hbs : xx_bs h) (hfr : ∀ r, 5000 ≤ r → r < 20010 → h r = none) {R : Nat} (hR : σ 5001 900 = nI R) (hR5 : R ≤ 5) {B : Nat} (hB : σ 5002 900 = nI B) (hB6 : B ≤ 6) {pk : Nat → Nat} (hpk : ∀ j, j < B → σ (5030 + j) 900 = nI (2 * pk j) ∧ pk j ≤ 6) {x y v : Int32}  : XEx l m_X14_offer 9 4 58 [.ref 5000, .int x, .int y, .int v] (setM z σ h) (some (.int (f_Moffer σ x y v R B pk))) (setM z (g_Moffer σ x y v R B pk) h) := by
  refine XMet.of hl rfl rfl (Nat.le_of_ble_eq_true rfl) (fun Y O hh hQ => ?_)
  show SW Y 4 58 (setM z σ h) 0 [.ref 5000, .int x, .int y, .int v, xx_d, xx_d, xx_d, xx_d, xx_d] []
  refine sw_aload_n O (xx_dt dd_X14_offer 0 rfl) rfl ?_
  refine sw_iconst (x := 0) O (xx_dt dd_X14_offer 1 rfl) (by decide) ?_
  refine sw_put (h2 := setM z (u2 σ 5000 0 0) h) O (xx_dt dd_X14_offer 2 rfl) cl_X14 fl_X14_46 (lm_mod (σ := σ)) (by decide) (by omega) rfl (fun _ => ⟨rfl, rfl⟩) (pm_mod (σ := σ) (by omega)) ?_
  refine sw_aload_n O (xx_dt dd_X14_offer 3 rfl) rfl ?_
  refine sw_iload_n O (xx_dt dd_X14_offer 4 rfl) rfl ?_
  refine sw_callVx (as := [.int x]) (st := []) (st2 := [.int (bZ (n_lt x B))]) O (ct_X14_isBidder hl (z := z) (σ := u2 σ 5000 0 0) hbs (B := B) hB (by omega) (x := x)) ce_X14_isBidder ml_X14_156 iv_X14_isBidder cl_X14 rfl (lm_mod (σ := u2 σ 5000 0 0)) (xx_dt dd_X14_offer 5 rfl) (by decide) rfl rfl (Nat.le_of_ble_eq_true rfl) rfl ?_
  refine sw_if_neB (tgt := 19) O (xx_dt dd_X14_offer 6 rfl) (by decide) (fun q1 => ?_) (fun q1 => ?_)
  · have hc10 := q1
    refine sw_lsE (ls2 := [.ref 5000, .int (nI (cn x)), .int y, .int v, xx_d, xx_d, xx_d, xx_d, xx_d]) (by rw [← hc10.1]) ?_
    have hd10 := hc10.2
    refine sw_iload_n O (xx_dt dd_X14_offer 11 rfl) rfl ?_
    refine sw_if_lt (tgt := 41) O (xx_dt dd_X14_offer 12 rfl) (by decide) (fun q2 => ?_) (fun q2 => ?_)
    · refine sw_aload_n O (xx_dt dd_X14_offer 21 rfl) rfl ?_
      refine sw_iconst (x := 2) O (xx_dt dd_X14_offer 22 rfl) (by decide) ?_
      refine sw_callVx (as := [.int 2]) (st := []) (st2 := [.int 0]) O (ct_X14_refuse hl (z := z) (σ := u2 σ 5000 0 0) hbs (x := 2)) ce_X14_refuse ml_X14_74 iv_X14_refuse cl_X14 rfl (lm_mod (σ := u2 σ 5000 0 0)) (xx_dt dd_X14_offer 23 rfl) (by decide) rfl rfl (Nat.le_of_ble_eq_true rfl) rfl ?_
      exact sw_iret O (xx_dt dd_X14_offer 24 rfl) rfl rfl (by rw [hQ]; exact ⟨by unfold f_Moffer; simp only [if_pos q1, if_pos q2], by unfold g_Moffer; simp only [if_pos q1, if_pos q2]⟩)
    · refine sw_iload_n O (xx_dt dd_X14_offer 13 rfl) rfl ?_
      refine sw_aload_n O (xx_dt dd_X14_offer 14 rfl) rfl ?_
      refine sw_get (v := .ref 5001) O (xx_dt dd_X14_offer 15 rfl) cl_X14 fl_X14_23 (lm_mod (σ := u2 σ 5000 0 0)) (by decide) rfl ?_
      refine sw_callVL (ci := 6) (as := []) (st := [.int y]) (st2 := [.int (nI R), .int y]) O (ct_AL_size hl (lm_5001 (σ := u2 σ 5000 0 0) (R := R) hR (by omega))) ce_Jx4a65c_size_8abf5 ml_X14_57 iv_Jx4a65c_size_8abf5 cl_Jx4a65c rfl (lm_5001 (σ := u2 σ 5000 0 0) (R := R) hR (by omega)) (xx_dt dd_X14_offer 16 rfl) (by decide) rfl rfl (Nat.le_of_ble_eq_true rfl) rfl ?_
      refine sw_callSx (as := [.int (nI R)]) (st := [.int y]) (st2 := [.int (f_power R), .int y]) O (ct_X14_power hl (r := R) (by omega)) ce_X14_power ml_X14_49 st_X14_power (xx_dt dd_X14_offer 17 rfl) (by decide) rfl rfl (Nat.le_of_ble_eq_true rfl) rfl ?_
      refine sw_icmp_ge (tgt := 41) O (xx_dt dd_X14_offer 18 rfl) (by decide) (fun q3 => ?_) (fun q3 => ?_)
      · refine sw_aload_n O (xx_dt dd_X14_offer 21 rfl) rfl ?_
        refine sw_iconst (x := 2) O (xx_dt dd_X14_offer 22 rfl) (by decide) ?_
        refine sw_callVx (as := [.int 2]) (st := []) (st2 := [.int 0]) O (ct_X14_refuse hl (z := z) (σ := u2 σ 5000 0 0) hbs (x := 2)) ce_X14_refuse ml_X14_74 iv_X14_refuse cl_X14 rfl (lm_mod (σ := u2 σ 5000 0 0)) (xx_dt dd_X14_offer 23 rfl) (by decide) rfl rfl (Nat.le_of_ble_eq_true rfl) rfl ?_
        exact sw_iret O (xx_dt dd_X14_offer 24 rfl) rfl rfl (by rw [hQ]; exact ⟨by unfold f_Moffer; simp only [if_pos q1, if_neg q2, if_pos q3], by unfold g_Moffer; simp only [if_pos q1, if_neg q2, if_pos q3]⟩)
      · refine sw_iload_n O (xx_dt dd_X14_offer 19 rfl) rfl ?_
        refine sw_if_ge (tgt := 47) O (xx_dt dd_X14_offer 20 rfl) (by decide) (fun q4 => ?_) (fun q4 => ?_)
        · refine sw_aload_n O (xx_dt dd_X14_offer 25 rfl) rfl ?_
          refine sw_get (v := .ref 5002) O (xx_dt dd_X14_offer 26 rfl) cl_X14 fl_X14_27 (lm_mod (σ := u2 σ 5000 0 0)) (by decide) rfl ?_
          refine sw_iload_n O (xx_dt dd_X14_offer 27 rfl) rfl ?_
          refine sw_callVL (ci := 6) (as := [.int (nI (cn x))]) (st := []) (st2 := [.ref (5020 + cn x)]) O (ct_get hl hbs (lm_5002 (σ := u2 σ 5000 0 0) (B := B) hB (by omega)) (by omega) (i := cn x) (x := 5020 + cn x) (by omega) (by omega) rfl) ce_Jx4a65c_get_915e3 ml_X14_61 iv_Jx4a65c_get_915e3 cl_Jx4a65c rfl (lm_5002 (σ := u2 σ 5000 0 0) (B := B) hB (by omega)) (xx_dt dd_X14_offer 28 rfl) (by decide) rfl rfl (Nat.le_of_ble_eq_true rfl) rfl ?_
          refine sw_castO O (xx_dt dd_X14_offer 29 rfl) cl_X9 (lm_bid (σ := u2 σ 5000 0 0) (B := B) hB (by omega) (j := cn x) (by omega)) cw_X14_118 ?_
          refine sw_astore (ls2 := [.ref 5000, .int (nI (cn x)), .int y, .int v, .ref (5020 + cn x), xx_d, xx_d, xx_d, xx_d]) O (xx_dt dd_X14_offer 30 rfl) (by decide) rfl ?_
          refine sw_aload_n O (xx_dt dd_X14_offer 31 rfl) rfl ?_
          refine sw_get (v := .int (σ 5000 1)) O (xx_dt dd_X14_offer 32 rfl) cl_X14 fl_X14_77 (lm_mod (σ := u2 σ 5000 0 0)) (by decide) rfl ?_
          refine sw_iconst (x := 2) O (xx_dt dd_X14_offer 33 rfl) (by decide) ?_
          refine sw_icmp_ne (tgt := 95) O (xx_dt dd_X14_offer 34 rfl) (by decide) (fun q5 => ?_) (fun q5 => ?_)
          · refine sw_iconst (x := 0) O (xx_dt dd_X14_offer 47 rfl) (by decide) ?_
            refine sw_istore (ls2 := [.ref 5000, .int (nI (cn x)), .int y, .int v, .ref (5020 + cn x), .int 0, xx_d, xx_d, xx_d]) O (xx_dt dd_X14_offer 48 rfl) (by decide) rfl ?_
            refine sw_lconst O (xx_dt dd_X14_offer 49 rfl) ?_
            refine sw_lstore (ls2 := [.ref 5000, .int (nI (cn x)), .int y, .int v, .ref (5020 + cn x), .int 0, .long (Int64.ofNat (0 : Fin 2)), xx_d, xx_d]) O (xx_dt dd_X14_offer 50 rfl) (by decide) rfl ?_
            refine sw_iconst (x := 0) O (xx_dt dd_X14_offer 51 rfl) (by decide) ?_
            refine sw_istore (ls2 := [.ref 5000, .int (nI (cn x)), .int y, .int v, .ref (5020 + cn x), .int 0, .long (Int64.ofNat (0 : Fin 2)), xx_d, .int 0]) O (xx_dt dd_X14_offer 52 rfl) (by decide) rfl ?_
            refine sw_for (S := Int32 × Int64) (fun i104 s104 => (if (if (σ (5010 + i104) 0) < (σ 5000 2) then (σ (5010 + i104) 0) else (σ 5000 2)) < (f_of y i104) then (s104.1 &&& 0, s104.2 + ((Int32.toInt64 (f_of y i104)) * (Int32.toInt64 (σ (5010 + i104) 2)))) else (s104.1 &&& 1, s104.2 + ((Int32.toInt64 (f_of y i104)) * (Int32.toInt64 (σ (5010 + i104) 2)))))) (fun _ _ => True) (hp := fun _ => setM z (u2 σ 5000 0 0) h) (hd := 104) (lc := fun i104 s104 => [.ref 5000, .int (nI (cn x)), .int y, .int v, .ref (5020 + cn x), .int s104.1, .long s104.2, xx_d, .int (nI i104)]) (N := R) (fun i104 s104 hi104 hP104 => ⟨trivial, fun kk104 => ?_⟩) R 0 (0, Int64.ofNat (0 : Fin 2)) (by omega) (trivial) (fun hP104 => ?_)
            · refine sw_iload O (xx_dt dd_X14_offer 53 rfl) rfl ?_
              refine sw_aload_n O (xx_dt dd_X14_offer 54 rfl) rfl ?_
              refine sw_get (v := .ref 5001) O (xx_dt dd_X14_offer 55 rfl) cl_X14 fl_X14_23 (lm_mod (σ := u2 σ 5000 0 0)) (by decide) rfl ?_
              refine sw_callVL (ci := 6) (as := []) (st := [.int (nI i104)]) (st2 := [.int (nI R), .int (nI i104)]) O (ct_AL_size hl (lm_5001 (σ := u2 σ 5000 0 0) (R := R) hR (by omega))) ce_Jx4a65c_size_8abf5 ml_X14_57 iv_Jx4a65c_size_8abf5 cl_Jx4a65c rfl (lm_5001 (σ := u2 σ 5000 0 0) (R := R) hR (by omega)) (xx_dt dd_X14_offer 56 rfl) (by decide) rfl rfl (Nat.le_of_ble_eq_true rfl) rfl ?_
              refine sw_icmp_ge (tgt := 192) O (xx_dt dd_X14_offer 57 rfl) (by decide) (fun q6 => ?_) (fun q6 => ?_)
              · exact absurd q6 (nI_ge (b := R) hi104 (by omega))
              · refine sw_lload O (xx_dt dd_X14_offer 58 rfl) rfl ?_
                refine sw_iload_n O (xx_dt dd_X14_offer 59 rfl) rfl ?_
                refine sw_iload O (xx_dt dd_X14_offer 60 rfl) rfl ?_
                refine sw_callSx (as := [.int y, .int (nI i104)]) (st := [.long s104.2]) (st2 := [.int (f_of y i104), .long s104.2]) O (ct_X14_of hl (c := y) (r := i104) (by omega)) ce_X14_of ml_X14_53 st_X14_of (xx_dt dd_X14_offer 61 rfl) (by decide) rfl rfl (Nat.le_of_ble_eq_true rfl) rfl ?_
                refine sw_i2l O (xx_dt dd_X14_offer 62 rfl) ?_
                refine sw_aload_n O (xx_dt dd_X14_offer 63 rfl) rfl ?_
                refine sw_get (v := .ref 5001) O (xx_dt dd_X14_offer 64 rfl) cl_X14 fl_X14_23 (lm_mod (σ := u2 σ 5000 0 0)) (by decide) rfl ?_
                refine sw_iload O (xx_dt dd_X14_offer 65 rfl) rfl ?_
                refine sw_callVL (ci := 6) (as := [.int (nI i104)]) (st := [.long (Int32.toInt64 (f_of y i104)), .long s104.2]) (st2 := [.ref (5010 + i104), .long (Int32.toInt64 (f_of y i104)), .long s104.2]) O (ct_get hl hbs (lm_5001 (σ := u2 σ 5000 0 0) (R := R) hR (by omega)) (by omega) (i := i104) (x := 5010 + i104) (by omega) (by omega) rfl) ce_Jx4a65c_get_915e3 ml_X14_61 iv_Jx4a65c_get_915e3 cl_Jx4a65c rfl (lm_5001 (σ := u2 σ 5000 0 0) (R := R) hR (by omega)) (xx_dt dd_X14_offer 66 rfl) (by decide) rfl rfl (Nat.le_of_ble_eq_true rfl) rfl ?_
                refine sw_castO O (xx_dt dd_X14_offer 67 rfl) cl_X12 (lm_reg (σ := u2 σ 5000 0 0) (R := R) hR (by omega) (j := i104) (by omega)) cw_X14_65 ?_
                refine sw_get (v := .int (σ (5010 + i104) 2)) O (xx_dt dd_X14_offer 68 rfl) cl_X12 fl_X14_84 (lm_reg (σ := u2 σ 5000 0 0) (R := R) hR (by omega) (j := i104) (by omega)) (by decide) (congrArg Value.int (congrFun (u2_ne (by omega)) 2)) ?_
                refine sw_i2l O (xx_dt dd_X14_offer 69 rfl) ?_
                refine sw_lmul O (xx_dt dd_X14_offer 70 rfl) ?_
                refine sw_ladd O (xx_dt dd_X14_offer 71 rfl) ?_
                refine sw_lstore (ls2 := [.ref 5000, .int (nI (cn x)), .int y, .int v, .ref (5020 + cn x), .int s104.1, .long (s104.2 + ((Int32.toInt64 (f_of y i104)) * (Int32.toInt64 (σ (5010 + i104) 2)))), xx_d, .int (nI i104)]) O (xx_dt dd_X14_offer 72 rfl) (by decide) rfl ?_
                refine sw_iload O (xx_dt dd_X14_offer 73 rfl) rfl ?_
                refine sw_iload_n O (xx_dt dd_X14_offer 74 rfl) rfl ?_
                refine sw_iload O (xx_dt dd_X14_offer 75 rfl) rfl ?_
                refine sw_callSx (as := [.int y, .int (nI i104)]) (st := [.int s104.1]) (st2 := [.int (f_of y i104), .int s104.1]) O (ct_X14_of hl (c := y) (r := i104) (by omega)) ce_X14_of ml_X14_53 st_X14_of (xx_dt dd_X14_offer 76 rfl) (by decide) rfl rfl (Nat.le_of_ble_eq_true rfl) rfl ?_
                refine sw_aload_n O (xx_dt dd_X14_offer 77 rfl) rfl ?_
                refine sw_get (v := .int (σ 5000 2)) O (xx_dt dd_X14_offer 78 rfl) cl_X14 fl_X14_7 (lm_mod (σ := u2 σ 5000 0 0)) (by decide) rfl ?_
                refine sw_aload_n O (xx_dt dd_X14_offer 79 rfl) rfl ?_
                refine sw_get (v := .ref 5001) O (xx_dt dd_X14_offer 80 rfl) cl_X14 fl_X14_23 (lm_mod (σ := u2 σ 5000 0 0)) (by decide) rfl ?_
                refine sw_iload O (xx_dt dd_X14_offer 81 rfl) rfl ?_
                refine sw_callVL (ci := 6) (as := [.int (nI i104)]) (st := [.int (σ 5000 2), .int (f_of y i104), .int s104.1]) (st2 := [.ref (5010 + i104), .int (σ 5000 2), .int (f_of y i104), .int s104.1]) O (ct_get hl hbs (lm_5001 (σ := u2 σ 5000 0 0) (R := R) hR (by omega)) (by omega) (i := i104) (x := 5010 + i104) (by omega) (by omega) rfl) ce_Jx4a65c_get_915e3 ml_X14_61 iv_Jx4a65c_get_915e3 cl_Jx4a65c rfl (lm_5001 (σ := u2 σ 5000 0 0) (R := R) hR (by omega)) (xx_dt dd_X14_offer 82 rfl) (by decide) rfl rfl (Nat.le_of_ble_eq_true rfl) rfl ?_
                refine sw_castO O (xx_dt dd_X14_offer 83 rfl) cl_X12 (lm_reg (σ := u2 σ 5000 0 0) (R := R) hR (by omega) (j := i104) (by omega)) cw_X14_65 ?_
                refine sw_get (v := .int (σ (5010 + i104) 0)) O (xx_dt dd_X14_offer 84 rfl) cl_X12 fl_X14_81 (lm_reg (σ := u2 σ 5000 0 0) (R := R) hR (by omega) (j := i104) (by omega)) (by decide) (congrArg Value.int (congrFun (u2_ne (by omega)) 0)) ?_
                refine sw_min O mm_X14_213 (xx_dt dd_X14_offer 85 rfl) (by omega) (Nat.le_of_ble_eq_true rfl) ?_
                refine sw_icmp_gt (tgt := 182) O (xx_dt dd_X14_offer 86 rfl) (by decide) (fun q7 => ?_) (fun q7 => ?_)
                · refine sw_iconst (x := 0) O (xx_dt dd_X14_offer 89 rfl) (by decide) ?_
                  refine sw_iand O (xx_dt dd_X14_offer 90 rfl) ?_
                  refine sw_istore (ls2 := [.ref 5000, .int (nI (cn x)), .int y, .int v, .ref (5020 + cn x), .int (s104.1 &&& 0), .long (s104.2 + ((Int32.toInt64 (f_of y i104)) * (Int32.toInt64 (σ (5010 + i104) 2)))), xx_d, .int (nI i104)]) O (xx_dt dd_X14_offer 91 rfl) (by decide) rfl ?_
                  refine sw_iinc (y := nI (i104 + 1)) (ls2 := [.ref 5000, .int (nI (cn x)), .int y, .int v, .ref (5020 + cn x), .int (s104.1 &&& 0), .long (s104.2 + ((Int32.toInt64 (f_of y i104)) * (Int32.toInt64 (σ (5010 + i104) 2)))), xx_d, .int (nI (i104 + 1))]) O (xx_dt dd_X14_offer 92 rfl) rfl (nI_1 _) (by decide) rfl ?_
                  refine sw_goto (tgt := 104) O (xx_dt dd_X14_offer 93 rfl) (by decide) ?_
                  simp only [if_pos q7] at kk104
                  exact kk104
                · refine sw_iconst (x := 1) O (xx_dt dd_X14_offer 87 rfl) (by decide) ?_
                  refine sw_goto (tgt := 183) O (xx_dt dd_X14_offer 88 rfl) (by decide) ?_
                  refine sw_iand O (xx_dt dd_X14_offer 90 rfl) ?_
                  refine sw_istore (ls2 := [.ref 5000, .int (nI (cn x)), .int y, .int v, .ref (5020 + cn x), .int (s104.1 &&& 1), .long (s104.2 + ((Int32.toInt64 (f_of y i104)) * (Int32.toInt64 (σ (5010 + i104) 2)))), xx_d, .int (nI i104)]) O (xx_dt dd_X14_offer 91 rfl) (by decide) rfl ?_
                  refine sw_iinc (y := nI (i104 + 1)) (ls2 := [.ref 5000, .int (nI (cn x)), .int y, .int v, .ref (5020 + cn x), .int (s104.1 &&& 1), .long (s104.2 + ((Int32.toInt64 (f_of y i104)) * (Int32.toInt64 (σ (5010 + i104) 2)))), xx_d, .int (nI (i104 + 1))]) O (xx_dt dd_X14_offer 92 rfl) rfl (nI_1 _) (by decide) rfl ?_
                  refine sw_goto (tgt := 104) O (xx_dt dd_X14_offer 93 rfl) (by decide) ?_
                  simp only [if_neg q7] at kk104
                  exact kk104
            · show SW Y _ _ (setM z (u2 σ 5000 0 0) h) 104 [.ref 5000, .int (nI (cn x)), .int y, .int v, .ref (5020 + cn x), .int ((x_Moffer_104 σ y R (0, Int64.ofNat (0 : Fin 2))).1), .long ((x_Moffer_104 σ y R (0, Int64.ofNat (0 : Fin 2))).2), xx_d, .int (nI R)] []
              refine sw_iload O (xx_dt dd_X14_offer 53 rfl) rfl ?_
              refine sw_aload_n O (xx_dt dd_X14_offer 54 rfl) rfl ?_
              refine sw_get (v := .ref 5001) O (xx_dt dd_X14_offer 55 rfl) cl_X14 fl_X14_23 (lm_mod (σ := u2 σ 5000 0 0)) (by decide) rfl ?_
              refine sw_callVL (ci := 6) (as := []) (st := [.int (nI R)]) (st2 := [.int (nI R), .int (nI R)]) O (ct_AL_size hl (lm_5001 (σ := u2 σ 5000 0 0) (R := R) hR (by omega))) ce_Jx4a65c_size_8abf5 ml_X14_57 iv_Jx4a65c_size_8abf5 cl_Jx4a65c rfl (lm_5001 (σ := u2 σ 5000 0 0) (R := R) hR (by omega)) (xx_dt dd_X14_offer 56 rfl) (by decide) rfl rfl (Nat.le_of_ble_eq_true rfl) rfl ?_
              refine sw_icmp_ge (tgt := 192) O (xx_dt dd_X14_offer 57 rfl) (by decide) (fun q6 => ?_) (fun q6 => ?_)
              · refine sw_iload O (xx_dt dd_X14_offer 94 rfl) rfl ?_
                refine sw_if_eq (tgt := 205) O (xx_dt dd_X14_offer 95 rfl) (by decide) (fun q8 => ?_) (fun q8 => ?_)
                · refine sw_aload_n O (xx_dt dd_X14_offer 101 rfl) rfl ?_
                  refine sw_iconst (x := 3) O (xx_dt dd_X14_offer 102 rfl) (by decide) ?_
                  refine sw_callVx (as := [.int 3]) (st := []) (st2 := [.int 0]) O (ct_X14_refuse hl (z := z) (σ := u2 σ 5000 0 0) hbs (x := 3)) ce_X14_refuse ml_X14_74 iv_X14_refuse cl_X14 rfl (lm_mod (σ := u2 σ 5000 0 0)) (xx_dt dd_X14_offer 103 rfl) (by decide) rfl rfl (Nat.le_of_ble_eq_true rfl) rfl ?_
                  exact sw_iret O (xx_dt dd_X14_offer 104 rfl) rfl rfl (by rw [hQ]; exact ⟨by unfold f_Moffer; simp only [if_pos q1, if_neg q2, if_neg q3, if_pos q4, if_neg q5], by unfold g_Moffer; simp only [if_pos q1, if_neg q2, if_neg q3, if_pos q4, if_neg q5]⟩)
                · exact absurd q8 (fun e => e (off0 (σ := σ) (y := y) (R := R)))
              · exact absurd (Int32.le_refl _) q6
          · refine sw_aload O (xx_dt dd_X14_offer 35 rfl) rfl ?_
            have hq70 := (hpk (cn x) (by omega)).2
            refine sw_callVx (as := []) (st := []) (st2 := [.int (nI (pk (cn x)))]) O ((show XEx _ _ _ _ _ _ _ (some (.int (nI (pk (cn x))))) _ from ct_X9_many hl (z := z) (σ := u2 σ 5000 0 0) hbs (B := B) hB (by omega) (j := cn x) (by omega) (p := pk (cn x)) ((congrFun (u2_ne (by omega)) 900).trans (hpk (cn x) (by omega)).1) (by have h9 := (hpk (cn x) (by omega)).2; omega))) ce_X9_many ml_X14_210 iv_X9_many cl_X9 rfl (lm_bid (σ := u2 σ 5000 0 0) (B := B) hB (by omega) (j := cn x) (by omega)) (xx_dt dd_X14_offer 36 rfl) (by decide) rfl rfl (Nat.le_of_ble_eq_true rfl) rfl ?_
            refine sw_bipush (x := 6) O (xx_dt dd_X14_offer 37 rfl) (by decide) ?_
            refine sw_icmp_ge (tgt := 95) O (xx_dt dd_X14_offer 38 rfl) (by decide) (fun q9 => ?_) (fun q9 => ?_)
            · have hfq9 : 6 ≤ (pk (cn x)) := (nI_leI (a := 6) (b := (pk (cn x))) (by omega) (by omega)).mp q9
              refine sw_iconst (x := 0) O (xx_dt dd_X14_offer 47 rfl) (by decide) ?_
              refine sw_istore (ls2 := [.ref 5000, .int (nI (cn x)), .int y, .int v, .ref (5020 + cn x), .int 0, xx_d, xx_d, xx_d]) O (xx_dt dd_X14_offer 48 rfl) (by decide) rfl ?_
              refine sw_lconst O (xx_dt dd_X14_offer 49 rfl) ?_
              refine sw_lstore (ls2 := [.ref 5000, .int (nI (cn x)), .int y, .int v, .ref (5020 + cn x), .int 0, .long (Int64.ofNat (0 : Fin 2)), xx_d, xx_d]) O (xx_dt dd_X14_offer 50 rfl) (by decide) rfl ?_
              refine sw_iconst (x := 0) O (xx_dt dd_X14_offer 51 rfl) (by decide) ?_
              refine sw_istore (ls2 := [.ref 5000, .int (nI (cn x)), .int y, .int v, .ref (5020 + cn x), .int 0, .long (Int64.ofNat (0 : Fin 2)), xx_d, .int 0]) O (xx_dt dd_X14_offer 52 rfl) (by decide) rfl ?_
              refine sw_for (S := Int32 × Int64) (fun i104 s104 => (if (if (σ (5010 + i104) 0) < (σ 5000 2) then (σ (5010 + i104) 0) else (σ 5000 2)) < (f_of y i104) then (s104.1 &&& 0, s104.2 + ((Int32.toInt64 (f_of y i104)) * (Int32.toInt64 (σ (5010 + i104) 2)))) else (s104.1 &&& 1, s104.2 + ((Int32.toInt64 (f_of y i104)) * (Int32.toInt64 (σ (5010 + i104) 2)))))) (fun _ _ => True) (hp := fun _ => setM z (u2 σ 5000 0 0) h) (hd := 104) (lc := fun i104 s104 => [.ref 5000, .int (nI (cn x)), .int y, .int v, .ref (5020 + cn x), .int s104.1, .long s104.2, xx_d, .int (nI i104)]) (N := R) (fun i104 s104 hi104 hP104 => ⟨trivial, fun kk104 => ?_⟩) R 0 (0, Int64.ofNat (0 : Fin 2)) (by omega) (trivial) (fun hP104 => ?_)
              · refine sw_iload O (xx_dt dd_X14_offer 53 rfl) rfl ?_
                refine sw_aload_n O (xx_dt dd_X14_offer 54 rfl) rfl ?_
                refine sw_get (v := .ref 5001) O (xx_dt dd_X14_offer 55 rfl) cl_X14 fl_X14_23 (lm_mod (σ := u2 σ 5000 0 0)) (by decide) rfl ?_
                refine sw_callVL (ci := 6) (as := []) (st := [.int (nI i104)]) (st2 := [.int (nI R), .int (nI i104)]) O (ct_AL_size hl (lm_5001 (σ := u2 σ 5000 0 0) (R := R) hR (by omega))) ce_Jx4a65c_size_8abf5 ml_X14_57 iv_Jx4a65c_size_8abf5 cl_Jx4a65c rfl (lm_5001 (σ := u2 σ 5000 0 0) (R := R) hR (by omega)) (xx_dt dd_X14_offer 56 rfl) (by decide) rfl rfl (Nat.le_of_ble_eq_true rfl) rfl ?_
                refine sw_icmp_ge (tgt := 192) O (xx_dt dd_X14_offer 57 rfl) (by decide) (fun q10 => ?_) (fun q10 => ?_)
                · exact absurd q10 (nI_ge (b := R) hi104 (by omega))
                · refine sw_lload O (xx_dt dd_X14_offer 58 rfl) rfl ?_
                  refine sw_iload_n O (xx_dt dd_X14_offer 59 rfl) rfl ?_
                  refine sw_iload O (xx_dt dd_X14_offer 60 rfl) rfl ?_
                  refine sw_callSx (as := [.int y, .int (nI i104)]) (st := [.long s104.2]) (st2 := [.int (f_of y i104), .long s104.2]) O (ct_X14_of hl (c := y) (r := i104) (by omega)) ce_X14_of ml_X14_53 st_X14_of (xx_dt dd_X14_offer 61 rfl) (by decide) rfl rfl (Nat.le_of_ble_eq_true rfl) rfl ?_
                  refine sw_i2l O (xx_dt dd_X14_offer 62 rfl) ?_
                  refine sw_aload_n O (xx_dt dd_X14_offer 63 rfl) rfl ?_
                  refine sw_get (v := .ref 5001) O (xx_dt dd_X14_offer 64 rfl) cl_X14 fl_X14_23 (lm_mod (σ := u2 σ 5000 0 0)) (by decide) rfl ?_
                  refine sw_iload O (xx_dt dd_X14_offer 65 rfl) rfl ?_
                  refine sw_callVL (ci := 6) (as := [.int (nI i104)]) (st := [.long (Int32.toInt64 (f_of y i104)), .long s104.2]) (st2 := [.ref (5010 + i104), .long (Int32.toInt64 (f_of y i104)), .long s104.2]) O (ct_get hl hbs (lm_5001 (σ := u2 σ 5000 0 0) (R := R) hR (by omega)) (by omega) (i := i104) (x := 5010 + i104) (by omega) (by omega) rfl) ce_Jx4a65c_get_915e3 ml_X14_61 iv_Jx4a65c_get_915e3 cl_Jx4a65c rfl (lm_5001 (σ := u2 σ 5000 0 0) (R := R) hR (by omega)) (xx_dt dd_X14_offer 66 rfl) (by decide) rfl rfl (Nat.le_of_ble_eq_true rfl) rfl ?_
                  refine sw_castO O (xx_dt dd_X14_offer 67 rfl) cl_X12 (lm_reg (σ := u2 σ 5000 0 0) (R := R) hR (by omega) (j := i104) (by omega)) cw_X14_65 ?_
                  refine sw_get (v := .int (σ (5010 + i104) 2)) O (xx_dt dd_X14_offer 68 rfl) cl_X12 fl_X14_84 (lm_reg (σ := u2 σ 5000 0 0) (R := R) hR (by omega) (j := i104) (by omega)) (by decide) (congrArg Value.int (congrFun (u2_ne (by omega)) 2)) ?_
                  refine sw_i2l O (xx_dt dd_X14_offer 69 rfl) ?_
                  refine sw_lmul O (xx_dt dd_X14_offer 70 rfl) ?_
                  refine sw_ladd O (xx_dt dd_X14_offer 71 rfl) ?_
                  refine sw_lstore (ls2 := [.ref 5000, .int (nI (cn x)), .int y, .int v, .ref (5020 + cn x), .int s104.1, .long (s104.2 + ((Int32.toInt64 (f_of y i104)) * (Int32.toInt64 (σ (5010 + i104) 2)))), xx_d, .int (nI i104)]) O (xx_dt dd_X14_offer 72 rfl) (by decide) rfl ?_
                  refine sw_iload O (xx_dt dd_X14_offer 73 rfl) rfl ?_
                  refine sw_iload_n O (xx_dt dd_X14_offer 74 rfl) rfl ?_
                  refine sw_iload O (xx_dt dd_X14_offer 75 rfl) rfl ?_
                  refine sw_callSx (as := [.int y, .int (nI i104)]) (st := [.int s104.1]) (st2 := [.int (f_of y i104), .int s104.1]) O (ct_X14_of hl (c := y) (r := i104) (by omega)) ce_X14_of ml_X14_53 st_X14_of (xx_dt dd_X14_offer 76 rfl) (by decide) rfl rfl (Nat.le_of_ble_eq_true rfl) rfl ?_
                  refine sw_aload_n O (xx_dt dd_X14_offer 77 rfl) rfl ?_
                  refine sw_get (v := .int (σ 5000 2)) O (xx_dt dd_X14_offer 78 rfl) cl_X14 fl_X14_7 (lm_mod (σ := u2 σ 5000 0 0)) (by decide) rfl ?_
                  refine sw_aload_n O (xx_dt dd_X14_offer 79 rfl) rfl ?_
                  refine sw_get (v := .ref 5001) O (xx_dt dd_X14_offer 80 rfl) cl_X14 fl_X14_23 (lm_mod (σ := u2 σ 5000 0 0)) (by decide) rfl ?_
                  refine sw_iload O (xx_dt dd_X14_offer 81 rfl) rfl ?_
                  refine sw_callVL (ci := 6) (as := [.int (nI i104)]) (st := [.int (σ 5000 2), .int (f_of y i104), .int s104.1]) (st2 := [.ref (5010 + i104), .int (σ 5000 2), .int (f_of y i104), .int s104.1]) O (ct_get hl hbs (lm_5001 (σ := u2 σ 5000 0 0) (R := R) hR (by omega)) (by omega) (i := i104) (x := 5010 + i104) (by omega) (by omega) rfl) ce_Jx4a65c_get_915e3 ml_X14_61 iv_Jx4a65c_get_915e3 cl_Jx4a65c rfl (lm_5001 (σ := u2 σ 5000 0 0) (R := R) hR (by omega)) (xx_dt dd_X14_offer 82 rfl) (by decide) rfl rfl (Nat.le_of_ble_eq_true rfl) rfl ?_
                  refine sw_castO O (xx_dt dd_X14_offer 83 rfl) cl_X12 (lm_reg (σ := u2 σ 5000 0 0) (R := R) hR (by omega) (j := i104) (by omega)) cw_X14_65 ?_
                  refine sw_get (v := .int (σ (5010 + i104) 0)) O (xx_dt dd_X14_offer 84 rfl) cl_X12 fl_X14_81 (lm_reg (σ := u2 σ 5000 0 0) (R := R) hR (by omega) (j := i104) (by omega)) (by decide) (congrArg Value.int (congrFun (u2_ne (by omega)) 0)) ?_
                  refine sw_min O mm_X14_213 (xx_dt dd_X14_offer 85 rfl) (by omega) (Nat.le_of_ble_eq_true rfl) ?_
                  refine sw_icmp_gt (tgt := 182) O (xx_dt dd_X14_offer 86 rfl) (by decide) (fun q11 => ?_) (fun q11 => ?_)
                  · refine sw_iconst (x := 0) O (xx_dt dd_X14_offer 89 rfl) (by decide) ?_
                    refine sw_iand O (xx_dt dd_X14_offer 90 rfl) ?_
                    refine sw_istore (ls2 := [.ref 5000, .int (nI (cn x)), .int y, .int v, .ref (5020 + cn x), .int (s104.1 &&& 0), .long (s104.2 + ((Int32.toInt64 (f_of y i104)) * (Int32.toInt64 (σ (5010 + i104) 2)))), xx_d, .int (nI i104)]) O (xx_dt dd_X14_offer 91 rfl) (by decide) rfl ?_
                    refine sw_iinc (y := nI (i104 + 1)) (ls2 := [.ref 5000, .int (nI (cn x)), .int y, .int v, .ref (5020 + cn x), .int (s104.1 &&& 0), .long (s104.2 + ((Int32.toInt64 (f_of y i104)) * (Int32.toInt64 (σ (5010 + i104) 2)))), xx_d, .int (nI (i104 + 1))]) O (xx_dt dd_X14_offer 92 rfl) rfl (nI_1 _) (by decide) rfl ?_
                    refine sw_goto (tgt := 104) O (xx_dt dd_X14_offer 93 rfl) (by decide) ?_
                    simp only [if_pos q11] at kk104
                    exact kk104
                  · refine sw_iconst (x := 1) O (xx_dt dd_X14_offer 87 rfl) (by decide) ?_
                    refine sw_goto (tgt := 183) O (xx_dt dd_X14_offer 88 rfl) (by decide) ?_
                    refine sw_iand O (xx_dt dd_X14_offer 90 rfl) ?_
                    refine sw_istore (ls2 := [.ref 5000, .int (nI (cn x)), .int y, .int v, .ref (5020 + cn x), .int (s104.1 &&& 1), .long (s104.2 + ((Int32.toInt64 (f_of y i104)) * (Int32.toInt64 (σ (5010 + i104) 2)))), xx_d, .int (nI i104)]) O (xx_dt dd_X14_offer 91 rfl) (by decide) rfl ?_
                    refine sw_iinc (y := nI (i104 + 1)) (ls2 := [.ref 5000, .int (nI (cn x)), .int y, .int v, .ref (5020 + cn x), .int (s104.1 &&& 1), .long (s104.2 + ((Int32.toInt64 (f_of y i104)) * (Int32.toInt64 (σ (5010 + i104) 2)))), xx_d, .int (nI (i104 + 1))]) O (xx_dt dd_X14_offer 92 rfl) rfl (nI_1 _) (by decide) rfl ?_
                    refine sw_goto (tgt := 104) O (xx_dt dd_X14_offer 93 rfl) (by decide) ?_
                    simp only [if_neg q11] at kk104
                    exact kk104
              · show SW Y _ _ (setM z (u2 σ 5000 0 0) h) 104 [.ref 5000, .int (nI (cn x)), .int y, .int v, .ref (5020 + cn x), .int ((x_Moffer_104 σ y R (0, Int64.ofNat (0 : Fin 2))).1), .long ((x_Moffer_104 σ y R (0, Int64.ofNat (0 : Fin 2))).2), xx_d, .int (nI R)] []
                refine sw_iload O (xx_dt dd_X14_offer 53 rfl) rfl ?_
                refine sw_aload_n O (xx_dt dd_X14_offer 54 rfl) rfl ?_
                refine sw_get (v := .ref 5001) O (xx_dt dd_X14_offer 55 rfl) cl_X14 fl_X14_23 (lm_mod (σ := u2 σ 5000 0 0)) (by decide) rfl ?_
                refine sw_callVL (ci := 6) (as := []) (st := [.int (nI R)]) (st2 := [.int (nI R), .int (nI R)]) O (ct_AL_size hl (lm_5001 (σ := u2 σ 5000 0 0) (R := R) hR (by omega))) ce_Jx4a65c_size_8abf5 ml_X14_57 iv_Jx4a65c_size_8abf5 cl_Jx4a65c rfl (lm_5001 (σ := u2 σ 5000 0 0) (R := R) hR (by omega)) (xx_dt dd_X14_offer 56 rfl) (by decide) rfl rfl (Nat.le_of_ble_eq_true rfl) rfl ?_
                refine sw_icmp_ge (tgt := 192) O (xx_dt dd_X14_offer 57 rfl) (by decide) (fun q10 => ?_) (fun q10 => ?_)
                · refine sw_iload O (xx_dt dd_X14_offer 94 rfl) rfl ?_
                  refine sw_if_eq (tgt := 205) O (xx_dt dd_X14_offer 95 rfl) (by decide) (fun q12 => ?_) (fun q12 => ?_)
                  · refine sw_aload_n O (xx_dt dd_X14_offer 101 rfl) rfl ?_
                    refine sw_iconst (x := 3) O (xx_dt dd_X14_offer 102 rfl) (by decide) ?_
                    refine sw_callVx (as := [.int 3]) (st := []) (st2 := [.int 0]) O (ct_X14_refuse hl (z := z) (σ := u2 σ 5000 0 0) hbs (x := 3)) ce_X14_refuse ml_X14_74 iv_X14_refuse cl_X14 rfl (lm_mod (σ := u2 σ 5000 0 0)) (xx_dt dd_X14_offer 103 rfl) (by decide) rfl rfl (Nat.le_of_ble_eq_true rfl) rfl ?_
                    exact sw_iret O (xx_dt dd_X14_offer 104 rfl) rfl rfl (by rw [hQ]; exact ⟨by unfold f_Moffer; simp only [if_pos q1, if_neg q2, if_neg q3, if_pos q4, if_pos q5, if_pos q9], by unfold g_Moffer; simp only [if_pos q1, if_neg q2, if_neg q3, if_pos q4, if_pos q5, if_pos q9]⟩)
                  · exact absurd q12 (fun e => e (off0 (σ := σ) (y := y) (R := R)))
                · exact absurd (Int32.le_refl _) q10
            · have hfq9 : ¬ 6 ≤ (pk (cn x)) := fun e => q9 ((nI_leI (a := 6) (b := (pk (cn x))) (by omega) (by omega)).mpr e)
              refine sw_iload_n O (xx_dt dd_X14_offer 39 rfl) rfl ?_
              refine sw_if_le (tgt := 95) O (xx_dt dd_X14_offer 40 rfl) (by decide) (fun q13 => ?_) (fun q13 => ?_)
              · refine sw_iconst (x := 0) O (xx_dt dd_X14_offer 47 rfl) (by decide) ?_
                refine sw_istore (ls2 := [.ref 5000, .int (nI (cn x)), .int y, .int v, .ref (5020 + cn x), .int 0, xx_d, xx_d, xx_d]) O (xx_dt dd_X14_offer 48 rfl) (by decide) rfl ?_
                refine sw_lconst O (xx_dt dd_X14_offer 49 rfl) ?_
                refine sw_lstore (ls2 := [.ref 5000, .int (nI (cn x)), .int y, .int v, .ref (5020 + cn x), .int 0, .long (Int64.ofNat (0 : Fin 2)), xx_d, xx_d]) O (xx_dt dd_X14_offer 50 rfl) (by decide) rfl ?_
                refine sw_iconst (x := 0) O (xx_dt dd_X14_offer 51 rfl) (by decide) ?_
                refine sw_istore (ls2 := [.ref 5000, .int (nI (cn x)), .int y, .int v, .ref (5020 + cn x), .int 0, .long (Int64.ofNat (0 : Fin 2)), xx_d, .int 0]) O (xx_dt dd_X14_offer 52 rfl) (by decide) rfl ?_
                refine sw_for (S := Int32 × Int64) (fun i104 s104 => (if (if (σ (5010 + i104) 0) < (σ 5000 2) then (σ (5010 + i104) 0) else (σ 5000 2)) < (f_of y i104) then (s104.1 &&& 0, s104.2 + ((Int32.toInt64 (f_of y i104)) * (Int32.toInt64 (σ (5010 + i104) 2)))) else (s104.1 &&& 1, s104.2 + ((Int32.toInt64 (f_of y i104)) * (Int32.toInt64 (σ (5010 + i104) 2)))))) (fun _ _ => True) (hp := fun _ => setM z (u2 σ 5000 0 0) h) (hd := 104) (lc := fun i104 s104 => [.ref 5000, .int (nI (cn x)), .int y, .int v, .ref (5020 + cn x), .int s104.1, .long s104.2, xx_d, .int (nI i104)]) (N := R) (fun i104 s104 hi104 hP104 => ⟨trivial, fun kk104 => ?_⟩) R 0 (0, Int64.ofNat (0 : Fin 2)) (by omega) (trivial) (fun hP104 => ?_)
                · refine sw_iload O (xx_dt dd_X14_offer 53 rfl) rfl ?_
                  refine sw_aload_n O (xx_dt dd_X14_offer 54 rfl) rfl ?_
                  refine sw_get (v := .ref 5001) O (xx_dt dd_X14_offer 55 rfl) cl_X14 fl_X14_23 (lm_mod (σ := u2 σ 5000 0 0)) (by decide) rfl ?_
                  refine sw_callVL (ci := 6) (as := []) (st := [.int (nI i104)]) (st2 := [.int (nI R), .int (nI i104)]) O (ct_AL_size hl (lm_5001 (σ := u2 σ 5000 0 0) (R := R) hR (by omega))) ce_Jx4a65c_size_8abf5 ml_X14_57 iv_Jx4a65c_size_8abf5 cl_Jx4a65c rfl (lm_5001 (σ := u2 σ 5000 0 0) (R := R) hR (by omega)) (xx_dt dd_X14_offer 56 rfl) (by decide) rfl rfl (Nat.le_of_ble_eq_true rfl) rfl ?_
                  refine sw_icmp_ge (tgt := 192) O (xx_dt dd_X14_offer 57 rfl) (by decide) (fun q14 => ?_) (fun q14 => ?_)
                  · exact absurd q14 (nI_ge (b := R) hi104 (by omega))
                  · refine sw_lload O (xx_dt dd_X14_offer 58 rfl) rfl ?_
                    refine sw_iload_n O (xx_dt dd_X14_offer 59 rfl) rfl ?_
                    refine sw_iload O (xx_dt dd_X14_offer 60 rfl) rfl ?_
                    refine sw_callSx (as := [.int y, .int (nI i104)]) (st := [.long s104.2]) (st2 := [.int (f_of y i104), .long s104.2]) O (ct_X14_of hl (c := y) (r := i104) (by omega)) ce_X14_of ml_X14_53 st_X14_of (xx_dt dd_X14_offer 61 rfl) (by decide) rfl rfl (Nat.le_of_ble_eq_true rfl) rfl ?_
                    refine sw_i2l O (xx_dt dd_X14_offer 62 rfl) ?_
                    refine sw_aload_n O (xx_dt dd_X14_offer 63 rfl) rfl ?_
                    refine sw_get (v := .ref 5001) O (xx_dt dd_X14_offer 64 rfl) cl_X14 fl_X14_23 (lm_mod (σ := u2 σ 5000 0 0)) (by decide) rfl ?_
                    refine sw_iload O (xx_dt dd_X14_offer 65 rfl) rfl ?_
                    refine sw_callVL (ci := 6) (as := [.int (nI i104)]) (st := [.long (Int32.toInt64 (f_of y i104)), .long s104.2]) (st2 := [.ref (5010 + i104), .long (Int32.toInt64 (f_of y i104)), .long s104.2]) O (ct_get hl hbs (lm_5001 (σ := u2 σ 5000 0 0) (R := R) hR (by omega)) (by omega) (i := i104) (x := 5010 + i104) (by omega) (by omega) rfl) ce_Jx4a65c_get_915e3 ml_X14_61 iv_Jx4a65c_get_915e3 cl_Jx4a65c rfl (lm_5001 (σ := u2 σ 5000 0 0) (R := R) hR (by omega)) (xx_dt dd_X14_offer 66 rfl) (by decide) rfl rfl (Nat.le_of_ble_eq_true rfl) rfl ?_
                    refine sw_castO O (xx_dt dd_X14_offer 67 rfl) cl_X12 (lm_reg (σ := u2 σ 5000 0 0) (R := R) hR (by omega) (j := i104) (by omega)) cw_X14_65 ?_
                    refine sw_get (v := .int (σ (5010 + i104) 2)) O (xx_dt dd_X14_offer 68 rfl) cl_X12 fl_X14_84 (lm_reg (σ := u2 σ 5000 0 0) (R := R) hR (by omega) (j := i104) (by omega)) (by decide) (congrArg Value.int (congrFun (u2_ne (by omega)) 2)) ?_
                    refine sw_i2l O (xx_dt dd_X14_offer 69 rfl) ?_
                    refine sw_lmul O (xx_dt dd_X14_offer 70 rfl) ?_
                    refine sw_ladd O (xx_dt dd_X14_offer 71 rfl) ?_
                    refine sw_lstore (ls2 := [.ref 5000, .int (nI (cn x)), .int y, .int v, .ref (5020 + cn x), .int s104.1, .long (s104.2 + ((Int32.toInt64 (f_of y i104)) * (Int32.toInt64 (σ (5010 + i104) 2)))), xx_d, .int (nI i104)]) O (xx_dt dd_X14_offer 72 rfl) (by decide) rfl ?_
                    refine sw_iload O (xx_dt dd_X14_offer 73 rfl) rfl ?_
                    refine sw_iload_n O (xx_dt dd_X14_offer 74 rfl) rfl ?_
                    refine sw_iload O (xx_dt dd_X14_offer 75 rfl) rfl ?_
                    refine sw_callSx (as := [.int y, .int (nI i104)]) (st := [.int s104.1]) (st2 := [.int (f_of y i104), .int s104.1]) O (ct_X14_of hl (c := y) (r := i104) (by omega)) ce_X14_of ml_X14_53 st_X14_of (xx_dt dd_X14_offer 76 rfl) (by decide) rfl rfl (Nat.le_of_ble_eq_true rfl) rfl ?_
                    refine sw_aload_n O (xx_dt dd_X14_offer 77 rfl) rfl ?_
                    refine sw_get (v := .int (σ 5000 2)) O (xx_dt dd_X14_offer 78 rfl) cl_X14 fl_X14_7 (lm_mod (σ := u2 σ 5000 0 0)) (by decide) rfl ?_
                    refine sw_aload_n O (xx_dt dd_X14_offer 79 rfl) rfl ?_
                    refine sw_get (v := .ref 5001) O (xx_dt dd_X14_offer 80 rfl) cl_X14 fl_X14_23 (lm_mod (σ := u2 σ 5000 0 0)) (by decide) rfl ?_
                    refine sw_iload O (xx_dt dd_X14_offer 81 rfl) rfl ?_
                    refine sw_callVL (ci := 6) (as := [.int (nI i104)]) (st := [.int (σ 5000 2), .int (f_of y i104), .int s104.1]) (st2 := [.ref (5010 + i104), .int (σ 5000 2), .int (f_of y i104), .int s104.1]) O (ct_get hl hbs (lm_5001 (σ := u2 σ 5000 0 0) (R := R) hR (by omega)) (by omega) (i := i104) (x := 5010 + i104) (by omega) (by omega) rfl) ce_Jx4a65c_get_915e3 ml_X14_61 iv_Jx4a65c_get_915e3 cl_Jx4a65c rfl (lm_5001 (σ := u2 σ 5000 0 0) (R := R) hR (by omega)) (xx_dt dd_X14_offer 82 rfl) (by decide) rfl rfl (Nat.le_of_ble_eq_true rfl) rfl ?_
                    refine sw_castO O (xx_dt dd_X14_offer 83 rfl) cl_X12 (lm_reg (σ := u2 σ 5000 0 0) (R := R) hR (by omega) (j := i104) (by omega)) cw_X14_65 ?_
                    refine sw_get (v := .int (σ (5010 + i104) 0)) O (xx_dt dd_X14_offer 84 rfl) cl_X12 fl_X14_81 (lm_reg (σ := u2 σ 5000 0 0) (R := R) hR (by omega) (j := i104) (by omega)) (by decide) (congrArg Value.int (congrFun (u2_ne (by omega)) 0)) ?_
                    refine sw_min O mm_X14_213 (xx_dt dd_X14_offer 85 rfl) (by omega) (Nat.le_of_ble_eq_true rfl) ?_
                    refine sw_icmp_gt (tgt := 182) O (xx_dt dd_X14_offer 86 rfl) (by decide) (fun q15 => ?_) (fun q15 => ?_)
                    · refine sw_iconst (x := 0) O (xx_dt dd_X14_offer 89 rfl) (by decide) ?_
                      refine sw_iand O (xx_dt dd_X14_offer 90 rfl) ?_
                      refine sw_istore (ls2 := [.ref 5000, .int (nI (cn x)), .int y, .int v, .ref (5020 + cn x), .int (s104.1 &&& 0), .long (s104.2 + ((Int32.toInt64 (f_of y i104)) * (Int32.toInt64 (σ (5010 + i104) 2)))), xx_d, .int (nI i104)]) O (xx_dt dd_X14_offer 91 rfl) (by decide) rfl ?_
                      refine sw_iinc (y := nI (i104 + 1)) (ls2 := [.ref 5000, .int (nI (cn x)), .int y, .int v, .ref (5020 + cn x), .int (s104.1 &&& 0), .long (s104.2 + ((Int32.toInt64 (f_of y i104)) * (Int32.toInt64 (σ (5010 + i104) 2)))), xx_d, .int (nI (i104 + 1))]) O (xx_dt dd_X14_offer 92 rfl) rfl (nI_1 _) (by decide) rfl ?_
                      refine sw_goto (tgt := 104) O (xx_dt dd_X14_offer 93 rfl) (by decide) ?_
                      simp only [if_pos q15] at kk104
                      exact kk104
                    · refine sw_iconst (x := 1) O (xx_dt dd_X14_offer 87 rfl) (by decide) ?_
                      refine sw_goto (tgt := 183) O (xx_dt dd_X14_offer 88 rfl) (by decide) ?_
                      refine sw_iand O (xx_dt dd_X14_offer 90 rfl) ?_
                      refine sw_istore (ls2 := [.ref 5000, .int (nI (cn x)), .int y, .int v, .ref (5020 + cn x), .int (s104.1 &&& 1), .long (s104.2 + ((Int32.toInt64 (f_of y i104)) * (Int32.toInt64 (σ (5010 + i104) 2)))), xx_d, .int (nI i104)]) O (xx_dt dd_X14_offer 91 rfl) (by decide) rfl ?_
                      refine sw_iinc (y := nI (i104 + 1)) (ls2 := [.ref 5000, .int (nI (cn x)), .int y, .int v, .ref (5020 + cn x), .int (s104.1 &&& 1), .long (s104.2 + ((Int32.toInt64 (f_of y i104)) * (Int32.toInt64 (σ (5010 + i104) 2)))), xx_d, .int (nI (i104 + 1))]) O (xx_dt dd_X14_offer 92 rfl) rfl (nI_1 _) (by decide) rfl ?_
                      refine sw_goto (tgt := 104) O (xx_dt dd_X14_offer 93 rfl) (by decide) ?_
                      simp only [if_neg q15] at kk104
                      exact kk104
                · show SW Y _ _ (setM z (u2 σ 5000 0 0) h) 104 [.ref 5000, .int (nI (cn x)), .int y, .int v, .ref (5020 + cn x), .int ((x_Moffer_104 σ y R (0, Int64.ofNat (0 : Fin 2))).1), .long ((x_Moffer_104 σ y R (0, Int64.ofNat (0 : Fin 2))).2), xx_d, .int (nI R)] []
                  refine sw_iload O (xx_dt dd_X14_offer 53 rfl) rfl ?_
                  refine sw_aload_n O (xx_dt dd_X14_offer 54 rfl) rfl ?_
                  refine sw_get (v := .ref 5001) O (xx_dt dd_X14_offer 55 rfl) cl_X14 fl_X14_23 (lm_mod (σ := u2 σ 5000 0 0)) (by decide) rfl ?_
                  refine sw_callVL (ci := 6) (as := []) (st := [.int (nI R)]) (st2 := [.int (nI R), .int (nI R)]) O (ct_AL_size hl (lm_5001 (σ := u2 σ 5000 0 0) (R := R) hR (by omega))) ce_Jx4a65c_size_8abf5 ml_X14_57 iv_Jx4a65c_size_8abf5 cl_Jx4a65c rfl (lm_5001 (σ := u2 σ 5000 0 0) (R := R) hR (by omega)) (xx_dt dd_X14_offer 56 rfl) (by decide) rfl rfl (Nat.le_of_ble_eq_true rfl) rfl ?_
                  refine sw_icmp_ge (tgt := 192) O (xx_dt dd_X14_offer 57 rfl) (by decide) (fun q14 => ?_) (fun q14 => ?_)
                  · refine sw_iload O (xx_dt dd_X14_offer 94 rfl) rfl ?_
                    refine sw_if_eq (tgt := 205) O (xx_dt dd_X14_offer 95 rfl) (by decide) (fun q16 => ?_) (fun q16 => ?_)
                    · refine sw_aload_n O (xx_dt dd_X14_offer 101 rfl) rfl ?_
                      refine sw_iconst (x := 3) O (xx_dt dd_X14_offer 102 rfl) (by decide) ?_
                      refine sw_callVx (as := [.int 3]) (st := []) (st2 := [.int 0]) O (ct_X14_refuse hl (z := z) (σ := u2 σ 5000 0 0) hbs (x := 3)) ce_X14_refuse ml_X14_74 iv_X14_refuse cl_X14 rfl (lm_mod (σ := u2 σ 5000 0 0)) (xx_dt dd_X14_offer 103 rfl) (by decide) rfl rfl (Nat.le_of_ble_eq_true rfl) rfl ?_
                      exact sw_iret O (xx_dt dd_X14_offer 104 rfl) rfl rfl (by rw [hQ]; exact ⟨by unfold f_Moffer; simp only [if_pos q1, if_neg q2, if_neg q3, if_pos q4, if_pos q5, if_neg q9, if_pos q13], by unfold g_Moffer; simp only [if_pos q1, if_neg q2, if_neg q3, if_pos q4, if_pos q5, if_neg q9, if_pos q13]⟩)
                    · exact absurd q16 (fun e => e (off0 (σ := σ) (y := y) (R := R)))
                  · exact absurd (Int32.le_refl _) q14
              · refine sw_iload_n O (xx_dt dd_X14_offer 41 rfl) rfl ?_
                refine sw_aload O (xx_dt dd_X14_offer 42 rfl) rfl ?_
                refine sw_get (v := .int (σ (5020 + cn x) 0)) O (xx_dt dd_X14_offer 43 rfl) cl_X9 fl_X14_121 (lm_bid (σ := u2 σ 5000 0 0) (B := B) hB (by omega) (j := cn x) (by omega)) (by decide) (congrArg Value.int (congrFun (u2_ne (by omega)) 0)) ?_
                refine sw_icmp_gt (tgt := 95) O (xx_dt dd_X14_offer 44 rfl) (by decide) (fun q17 => ?_) (fun q17 => ?_)
                · refine sw_iconst (x := 0) O (xx_dt dd_X14_offer 47 rfl) (by decide) ?_
                  refine sw_istore (ls2 := [.ref 5000, .int (nI (cn x)), .int y, .int v, .ref (5020 + cn x), .int 0, xx_d, xx_d, xx_d]) O (xx_dt dd_X14_offer 48 rfl) (by decide) rfl ?_
                  refine sw_lconst O (xx_dt dd_X14_offer 49 rfl) ?_
                  refine sw_lstore (ls2 := [.ref 5000, .int (nI (cn x)), .int y, .int v, .ref (5020 + cn x), .int 0, .long (Int64.ofNat (0 : Fin 2)), xx_d, xx_d]) O (xx_dt dd_X14_offer 50 rfl) (by decide) rfl ?_
                  refine sw_iconst (x := 0) O (xx_dt dd_X14_offer 51 rfl) (by decide) ?_
                  refine sw_istore (ls2 := [.ref 5000, .int (nI (cn x)), .int y, .int v, .ref (5020 + cn x), .int 0, .long (Int64.ofNat (0 : Fin 2)), xx_d, .int 0]) O (xx_dt dd_X14_offer 52 rfl) (by decide) rfl ?_
                  refine sw_for (S := Int32 × Int64) (fun i104 s104 => (if (if (σ (5010 + i104) 0) < (σ 5000 2) then (σ (5010 + i104) 0) else (σ 5000 2)) < (f_of y i104) then (s104.1 &&& 0, s104.2 + ((Int32.toInt64 (f_of y i104)) * (Int32.toInt64 (σ (5010 + i104) 2)))) else (s104.1 &&& 1, s104.2 + ((Int32.toInt64 (f_of y i104)) * (Int32.toInt64 (σ (5010 + i104) 2)))))) (fun _ _ => True) (hp := fun _ => setM z (u2 σ 5000 0 0) h) (hd := 104) (lc := fun i104 s104 => [.ref 5000, .int (nI (cn x)), .int y, .int v, .ref (5020 + cn x), .int s104.1, .long s104.2, xx_d, .int (nI i104)]) (N := R) (fun i104 s104 hi104 hP104 => ⟨trivial, fun kk104 => ?_⟩) R 0 (0, Int64.ofNat (0 : Fin 2)) (by omega) (trivial) (fun hP104 => ?_)
                  · refine sw_iload O (xx_dt dd_X14_offer 53 rfl) rfl ?_
                    refine sw_aload_n O (xx_dt dd_X14_offer 54 rfl) rfl ?_
                    refine sw_get (v := .ref 5001) O (xx_dt dd_X14_offer 55 rfl) cl_X14 fl_X14_23 (lm_mod (σ := u2 σ 5000 0 0)) (by decide) rfl ?_
                    refine sw_callVL (ci := 6) (as := []) (st := [.int (nI i104)]) (st2 := [.int (nI R), .int (nI i104)]) O (ct_AL_size hl (lm_5001 (σ := u2 σ 5000 0 0) (R := R) hR (by omega))) ce_Jx4a65c_size_8abf5 ml_X14_57 iv_Jx4a65c_size_8abf5 cl_Jx4a65c rfl (lm_5001 (σ := u2 σ 5000 0 0) (R := R) hR (by omega)) (xx_dt dd_X14_offer 56 rfl) (by decide) rfl rfl (Nat.le_of_ble_eq_true rfl) rfl ?_
                    refine sw_icmp_ge (tgt := 192) O (xx_dt dd_X14_offer 57 rfl) (by decide) (fun q18 => ?_) (fun q18 => ?_)
                    · exact absurd q18 (nI_ge (b := R) hi104 (by omega))
                    · refine sw_lload O (xx_dt dd_X14_offer 58 rfl) rfl ?_
                      refine sw_iload_n O (xx_dt dd_X14_offer 59 rfl) rfl ?_
                      refine sw_iload O (xx_dt dd_X14_offer 60 rfl) rfl ?_
                      refine sw_callSx (as := [.int y, .int (nI i104)]) (st := [.long s104.2]) (st2 := [.int (f_of y i104), .long s104.2]) O (ct_X14_of hl (c := y) (r := i104) (by omega)) ce_X14_of ml_X14_53 st_X14_of (xx_dt dd_X14_offer 61 rfl) (by decide) rfl rfl (Nat.le_of_ble_eq_true rfl) rfl ?_
                      refine sw_i2l O (xx_dt dd_X14_offer 62 rfl) ?_
                      refine sw_aload_n O (xx_dt dd_X14_offer 63 rfl) rfl ?_
                      refine sw_get (v := .ref 5001) O (xx_dt dd_X14_offer 64 rfl) cl_X14 fl_X14_23 (lm_mod (σ := u2 σ 5000 0 0)) (by decide) rfl ?_
                      refine sw_iload O (xx_dt dd_X14_offer 65 rfl) rfl ?_
                      refine sw_callVL (ci := 6) (as := [.int (nI i104)]) (st := [.long (Int32.toInt64 (f_of y i104)), .long s104.2]) (st2 := [.ref (5010 + i104), .long (Int32.toInt64 (f_of y i104)), .long s104.2]) O (ct_get hl hbs (lm_5001 (σ := u2 σ 5000 0 0) (R := R) hR (by omega)) (by omega) (i := i104) (x := 5010 + i104) (by omega) (by omega) rfl) ce_Jx4a65c_get_915e3 ml_X14_61 iv_Jx4a65c_get_915e3 cl_Jx4a65c rfl (lm_5001 (σ := u2 σ 5000 0 0) (R := R) hR (by omega)) (xx_dt dd_X14_offer 66 rfl) (by decide) rfl rfl (Nat.le_of_ble_eq_true rfl) rfl ?_
                      refine sw_castO O (xx_dt dd_X14_offer 67 rfl) cl_X12 (lm_reg (σ := u2 σ 5000 0 0) (R := R) hR (by omega) (j := i104) (by omega)) cw_X14_65 ?_
                      refine sw_get (v := .int (σ (5010 + i104) 2)) O (xx_dt dd_X14_offer 68 rfl) cl_X12 fl_X14_84 (lm_reg (σ := u2 σ 5000 0 0) (R := R) hR (by omega) (j := i104) (by omega)) (by decide) (congrArg Value.int (congrFun (u2_ne (by omega)) 2)) ?_
                      refine sw_i2l O (xx_dt dd_X14_offer 69 rfl) ?_
                      refine sw_lmul O (xx_dt dd_X14_offer 70 rfl) ?_
                      refine sw_ladd O (xx_dt dd_X14_offer 71 rfl) ?_
                      refine sw_lstore (ls2 := [.ref 5000, .int (nI (cn x)), .int y, .int v, .ref (5020 + cn x), .int s104.1, .long (s104.2 + ((Int32.toInt64 (f_of y i104)) * (Int32.toInt64 (σ (5010 + i104) 2)))), xx_d, .int (nI i104)]) O (xx_dt dd_X14_offer 72 rfl) (by decide) rfl ?_
                      refine sw_iload O (xx_dt dd_X14_offer 73 rfl) rfl ?_
                      refine sw_iload_n O (xx_dt dd_X14_offer 74 rfl) rfl ?_
                      refine sw_iload O (xx_dt dd_X14_offer 75 rfl) rfl ?_
                      refine sw_callSx (as := [.int y, .int (nI i104)]) (st := [.int s104.1]) (st2 := [.int (f_of y i104), .int s104.1]) O (ct_X14_of hl (c := y) (r := i104) (by omega)) ce_X14_of ml_X14_53 st_X14_of (xx_dt dd_X14_offer 76 rfl) (by decide) rfl rfl (Nat.le_of_ble_eq_true rfl) rfl ?_
                      refine sw_aload_n O (xx_dt dd_X14_offer 77 rfl) rfl ?_
                      refine sw_get (v := .int (σ 5000 2)) O (xx_dt dd_X14_offer 78 rfl) cl_X14 fl_X14_7 (lm_mod (σ := u2 σ 5000 0 0)) (by decide) rfl ?_
                      refine sw_aload_n O (xx_dt dd_X14_offer 79 rfl) rfl ?_
                      refine sw_get (v := .ref 5001) O (xx_dt dd_X14_offer 80 rfl) cl_X14 fl_X14_23 (lm_mod (σ := u2 σ 5000 0 0)) (by decide) rfl ?_
                      refine sw_iload O (xx_dt dd_X14_offer 81 rfl) rfl ?_
                      refine sw_callVL (ci := 6) (as := [.int (nI i104)]) (st := [.int (σ 5000 2), .int (f_of y i104), .int s104.1]) (st2 := [.ref (5010 + i104), .int (σ 5000 2), .int (f_of y i104), .int s104.1]) O (ct_get hl hbs (lm_5001 (σ := u2 σ 5000 0 0) (R := R) hR (by omega)) (by omega) (i := i104) (x := 5010 + i104) (by omega) (by omega) rfl) ce_Jx4a65c_get_915e3 ml_X14_61 iv_Jx4a65c_get_915e3 cl_Jx4a65c rfl (lm_5001 (σ := u2 σ 5000 0 0) (R := R) hR (by omega)) (xx_dt dd_X14_offer 82 rfl) (by decide) rfl rfl (Nat.le_of_ble_eq_true rfl) rfl ?_
                      refine sw_castO O (xx_dt dd_X14_offer 83 rfl) cl_X12 (lm_reg (σ := u2 σ 5000 0 0) (R := R) hR (by omega) (j := i104) (by omega)) cw_X14_65 ?_
                      refine sw_get (v := .int (σ (5010 + i104) 0)) O (xx_dt dd_X14_offer 84 rfl) cl_X12 fl_X14_81 (lm_reg (σ := u2 σ 5000 0 0) (R := R) hR (by omega) (j := i104) (by omega)) (by decide) (congrArg Value.int (congrFun (u2_ne (by omega)) 0)) ?_
                      refine sw_min O mm_X14_213 (xx_dt dd_X14_offer 85 rfl) (by omega) (Nat.le_of_ble_eq_true rfl) ?_
                      refine sw_icmp_gt (tgt := 182) O (xx_dt dd_X14_offer 86 rfl) (by decide) (fun q19 => ?_) (fun q19 => ?_)
                      · refine sw_iconst (x := 0) O (xx_dt dd_X14_offer 89 rfl) (by decide) ?_
                        refine sw_iand O (xx_dt dd_X14_offer 90 rfl) ?_
                        refine sw_istore (ls2 := [.ref 5000, .int (nI (cn x)), .int y, .int v, .ref (5020 + cn x), .int (s104.1 &&& 0), .long (s104.2 + ((Int32.toInt64 (f_of y i104)) * (Int32.toInt64 (σ (5010 + i104) 2)))), xx_d, .int (nI i104)]) O (xx_dt dd_X14_offer 91 rfl) (by decide) rfl ?_
                        refine sw_iinc (y := nI (i104 + 1)) (ls2 := [.ref 5000, .int (nI (cn x)), .int y, .int v, .ref (5020 + cn x), .int (s104.1 &&& 0), .long (s104.2 + ((Int32.toInt64 (f_of y i104)) * (Int32.toInt64 (σ (5010 + i104) 2)))), xx_d, .int (nI (i104 + 1))]) O (xx_dt dd_X14_offer 92 rfl) rfl (nI_1 _) (by decide) rfl ?_
                        refine sw_goto (tgt := 104) O (xx_dt dd_X14_offer 93 rfl) (by decide) ?_
                        simp only [if_pos q19] at kk104
                        exact kk104
                      · refine sw_iconst (x := 1) O (xx_dt dd_X14_offer 87 rfl) (by decide) ?_
                        refine sw_goto (tgt := 183) O (xx_dt dd_X14_offer 88 rfl) (by decide) ?_
                        refine sw_iand O (xx_dt dd_X14_offer 90 rfl) ?_
                        refine sw_istore (ls2 := [.ref 5000, .int (nI (cn x)), .int y, .int v, .ref (5020 + cn x), .int (s104.1 &&& 1), .long (s104.2 + ((Int32.toInt64 (f_of y i104)) * (Int32.toInt64 (σ (5010 + i104) 2)))), xx_d, .int (nI i104)]) O (xx_dt dd_X14_offer 91 rfl) (by decide) rfl ?_
                        refine sw_iinc (y := nI (i104 + 1)) (ls2 := [.ref 5000, .int (nI (cn x)), .int y, .int v, .ref (5020 + cn x), .int (s104.1 &&& 1), .long (s104.2 + ((Int32.toInt64 (f_of y i104)) * (Int32.toInt64 (σ (5010 + i104) 2)))), xx_d, .int (nI (i104 + 1))]) O (xx_dt dd_X14_offer 92 rfl) rfl (nI_1 _) (by decide) rfl ?_
                        refine sw_goto (tgt := 104) O (xx_dt dd_X14_offer 93 rfl) (by decide) ?_
                        simp only [if_neg q19] at kk104
                        exact kk104
                  · show SW Y _ _ (setM z (u2 σ 5000 0 0) h) 104 [.ref 5000, .int (nI (cn x)), .int y, .int v, .ref (5020 + cn x), .int ((x_Moffer_104 σ y R (0, Int64.ofNat (0 : Fin 2))).1), .long ((x_Moffer_104 σ y R (0, Int64.ofNat (0 : Fin 2))).2), xx_d, .int (nI R)] []
                    refine sw_iload O (xx_dt dd_X14_offer 53 rfl) rfl ?_
                    refine sw_aload_n O (xx_dt dd_X14_offer 54 rfl) rfl ?_
                    refine sw_get (v := .ref 5001) O (xx_dt dd_X14_offer 55 rfl) cl_X14 fl_X14_23 (lm_mod (σ := u2 σ 5000 0 0)) (by decide) rfl ?_
                    refine sw_callVL (ci := 6) (as := []) (st := [.int (nI R)]) (st2 := [.int (nI R), .int (nI R)]) O (ct_AL_size hl (lm_5001 (σ := u2 σ 5000 0 0) (R := R) hR (by omega))) ce_Jx4a65c_size_8abf5 ml_X14_57 iv_Jx4a65c_size_8abf5 cl_Jx4a65c rfl (lm_5001 (σ := u2 σ 5000 0 0) (R := R) hR (by omega)) (xx_dt dd_X14_offer 56 rfl) (by decide) rfl rfl (Nat.le_of_ble_eq_true rfl) rfl ?_
                    refine sw_icmp_ge (tgt := 192) O (xx_dt dd_X14_offer 57 rfl) (by decide) (fun q18 => ?_) (fun q18 => ?_)
                    · refine sw_iload O (xx_dt dd_X14_offer 94 rfl) rfl ?_
                      refine sw_if_eq (tgt := 205) O (xx_dt dd_X14_offer 95 rfl) (by decide) (fun q20 => ?_) (fun q20 => ?_)
                      · refine sw_aload_n O (xx_dt dd_X14_offer 101 rfl) rfl ?_
                        refine sw_iconst (x := 3) O (xx_dt dd_X14_offer 102 rfl) (by decide) ?_
                        refine sw_callVx (as := [.int 3]) (st := []) (st2 := [.int 0]) O (ct_X14_refuse hl (z := z) (σ := u2 σ 5000 0 0) hbs (x := 3)) ce_X14_refuse ml_X14_74 iv_X14_refuse cl_X14 rfl (lm_mod (σ := u2 σ 5000 0 0)) (xx_dt dd_X14_offer 103 rfl) (by decide) rfl rfl (Nat.le_of_ble_eq_true rfl) rfl ?_
                        exact sw_iret O (xx_dt dd_X14_offer 104 rfl) rfl rfl (by rw [hQ]; exact ⟨by unfold f_Moffer; simp only [if_pos q1, if_neg q2, if_neg q3, if_pos q4, if_pos q5, if_neg q9, if_neg q13, if_pos q17], by unfold g_Moffer; simp only [if_pos q1, if_neg q2, if_neg q3, if_pos q4, if_pos q5, if_neg q9, if_neg q13, if_pos q17]⟩)
                      · exact absurd q20 (fun e => e (off0 (σ := σ) (y := y) (R := R)))
                    · exact absurd (Int32.le_refl _) q18
                · refine sw_iconst (x := 1) O (xx_dt dd_X14_offer 45 rfl) (by decide) ?_
                  refine sw_goto (tgt := 96) O (xx_dt dd_X14_offer 46 rfl) (by decide) ?_
                  refine sw_istore (ls2 := [.ref 5000, .int (nI (cn x)), .int y, .int v, .ref (5020 + cn x), .int 1, xx_d, xx_d, xx_d]) O (xx_dt dd_X14_offer 48 rfl) (by decide) rfl ?_
                  refine sw_lconst O (xx_dt dd_X14_offer 49 rfl) ?_
                  refine sw_lstore (ls2 := [.ref 5000, .int (nI (cn x)), .int y, .int v, .ref (5020 + cn x), .int 1, .long (Int64.ofNat (0 : Fin 2)), xx_d, xx_d]) O (xx_dt dd_X14_offer 50 rfl) (by decide) rfl ?_
                  refine sw_iconst (x := 0) O (xx_dt dd_X14_offer 51 rfl) (by decide) ?_
                  refine sw_istore (ls2 := [.ref 5000, .int (nI (cn x)), .int y, .int v, .ref (5020 + cn x), .int 1, .long (Int64.ofNat (0 : Fin 2)), xx_d, .int 0]) O (xx_dt dd_X14_offer 52 rfl) (by decide) rfl ?_
                  refine sw_for (S := Int32 × Int64) (fun i104 s104 => (if (if (σ (5010 + i104) 0) < (σ 5000 2) then (σ (5010 + i104) 0) else (σ 5000 2)) < (f_of y i104) then (s104.1 &&& 0, s104.2 + ((Int32.toInt64 (f_of y i104)) * (Int32.toInt64 (σ (5010 + i104) 2)))) else (s104.1 &&& 1, s104.2 + ((Int32.toInt64 (f_of y i104)) * (Int32.toInt64 (σ (5010 + i104) 2)))))) (fun _ _ => True) (hp := fun _ => setM z (u2 σ 5000 0 0) h) (hd := 104) (lc := fun i104 s104 => [.ref 5000, .int (nI (cn x)), .int y, .int v, .ref (5020 + cn x), .int s104.1, .long s104.2, xx_d, .int (nI i104)]) (N := R) (fun i104 s104 hi104 hP104 => ⟨trivial, fun kk104 => ?_⟩) R 0 (1, Int64.ofNat (0 : Fin 2)) (by omega) (trivial) (fun hP104 => ?_)
                  · refine sw_iload O (xx_dt dd_X14_offer 53 rfl) rfl ?_
                    refine sw_aload_n O (xx_dt dd_X14_offer 54 rfl) rfl ?_
                    refine sw_get (v := .ref 5001) O (xx_dt dd_X14_offer 55 rfl) cl_X14 fl_X14_23 (lm_mod (σ := u2 σ 5000 0 0)) (by decide) rfl ?_
                    refine sw_callVL (ci := 6) (as := []) (st := [.int (nI i104)]) (st2 := [.int (nI R), .int (nI i104)]) O (ct_AL_size hl (lm_5001 (σ := u2 σ 5000 0 0) (R := R) hR (by omega))) ce_Jx4a65c_size_8abf5 ml_X14_57 iv_Jx4a65c_size_8abf5 cl_Jx4a65c rfl (lm_5001 (σ := u2 σ 5000 0 0) (R := R) hR (by omega)) (xx_dt dd_X14_offer 56 rfl) (by decide) rfl rfl (Nat.le_of_ble_eq_true rfl) rfl ?_
                    refine sw_icmp_ge (tgt := 192) O (xx_dt dd_X14_offer 57 rfl) (by decide) (fun q21 => ?_) (fun q21 => ?_)
                    · exact absurd q21 (nI_ge (b := R) hi104 (by omega))
                    · refine sw_lload O (xx_dt dd_X14_offer 58 rfl) rfl ?_
                      refine sw_iload_n O (xx_dt dd_X14_offer 59 rfl) rfl ?_
                      refine sw_iload O (xx_dt dd_X14_offer 60 rfl) rfl ?_
                      refine sw_callSx (as := [.int y, .int (nI i104)]) (st := [.long s104.2]) (st2 := [.int (f_of y i104), .long s104.2]) O (ct_X14_of hl (c := y) (r := i104) (by omega)) ce_X14_of ml_X14_53 st_X14_of (xx_dt dd_X14_offer 61 rfl) (by decide) rfl rfl (Nat.le_of_ble_eq_true rfl) rfl ?_
                      refine sw_i2l O (xx_dt dd_X14_offer 62 rfl) ?_
                      refine sw_aload_n O (xx_dt dd_X14_offer 63 rfl) rfl ?_
                      refine sw_get (v := .ref 5001) O (xx_dt dd_X14_offer 64 rfl) cl_X14 fl_X14_23 (lm_mod (σ := u2 σ 5000 0 0)) (by decide) rfl ?_
                      refine sw_iload O (xx_dt dd_X14_offer 65 rfl) rfl ?_
                      refine sw_callVL (ci := 6) (as := [.int (nI i104)]) (st := [.long (Int32.toInt64 (f_of y i104)), .long s104.2]) (st2 := [.ref (5010 + i104), .long (Int32.toInt64 (f_of y i104)), .long s104.2]) O (ct_get hl hbs (lm_5001 (σ := u2 σ 5000 0 0) (R := R) hR (by omega)) (by omega) (i := i104) (x := 5010 + i104) (by omega) (by omega) rfl) ce_Jx4a65c_get_915e3 ml_X14_61 iv_Jx4a65c_get_915e3 cl_Jx4a65c rfl (lm_5001 (σ := u2 σ 5000 0 0) (R := R) hR (by omega)) (xx_dt dd_X14_offer 66 rfl) (by decide) rfl rfl (Nat.le_of_ble_eq_true rfl) rfl ?_
                      refine sw_castO O (xx_dt dd_X14_offer 67 rfl) cl_X12 (lm_reg (σ := u2 σ 5000 0 0) (R := R) hR (by omega) (j := i104) (by omega)) cw_X14_65 ?_
                      refine sw_get (v := .int (σ (5010 + i104) 2)) O (xx_dt dd_X14_offer 68 rfl) cl_X12 fl_X14_84 (lm_reg (σ := u2 σ 5000 0 0) (R := R) hR (by omega) (j := i104) (by omega)) (by decide) (congrArg Value.int (congrFun (u2_ne (by omega)) 2)) ?_
                      refine sw_i2l O (xx_dt dd_X14_offer 69 rfl) ?_
                      refine sw_lmul O (xx_dt dd_X14_offer 70 rfl) ?_
                      refine sw_ladd O (xx_dt dd_X14_offer 71 rfl) ?_
                      refine sw_lstore (ls2 := [.ref 5000, .int (nI (cn x)), .int y, .int v, .ref (5020 + cn x), .int s104.1, .long (s104.2 + ((Int32.toInt64 (f_of y i104)) * (Int32.toInt64 (σ (5010 + i104) 2)))), xx_d, .int (nI i104)]) O (xx_dt dd_X14_offer 72 rfl) (by decide) rfl ?_
                      refine sw_iload O (xx_dt dd_X14_offer 73 rfl) rfl ?_
                      refine sw_iload_n O (xx_dt dd_X14_offer 74 rfl) rfl ?_
                      refine sw_iload O (xx_dt dd_X14_offer 75 rfl) rfl ?_
                      refine sw_callSx (as := [.int y, .int (nI i104)]) (st := [.int s104.1]) (st2 := [.int (f_of y i104), .int s104.1]) O (ct_X14_of hl (c := y) (r := i104) (by omega)) ce_X14_of ml_X14_53 st_X14_of (xx_dt dd_X14_offer 76 rfl) (by decide) rfl rfl (Nat.le_of_ble_eq_true rfl) rfl ?_
                      refine sw_aload_n O (xx_dt dd_X14_offer 77 rfl) rfl ?_
                      refine sw_get (v := .int (σ 5000 2)) O (xx_dt dd_X14_offer 78 rfl) cl_X14 fl_X14_7 (lm_mod (σ := u2 σ 5000 0 0)) (by decide) rfl ?_
                      refine sw_aload_n O (xx_dt dd_X14_offer 79 rfl) rfl ?_
                      refine sw_get (v := .ref 5001) O (xx_dt dd_X14_offer 80 rfl) cl_X14 fl_X14_23 (lm_mod (σ := u2 σ 5000 0 0)) (by decide) rfl ?_
                      refine sw_iload O (xx_dt dd_X14_offer 81 rfl) rfl ?_
                      refine sw_callVL (ci := 6) (as := [.int (nI i104)]) (st := [.int (σ 5000 2), .int (f_of y i104), .int s104.1]) (st2 := [.ref (5010 + i104), .int (σ 5000 2), .int (f_of y i104), .int s104.1]) O (ct_get hl hbs (lm_5001 (σ := u2 σ 5000 0 0) (R := R) hR (by omega)) (by omega) (i := i104) (x := 5010 + i104) (by omega) (by omega) rfl) ce_Jx4a65c_get_915e3 ml_X14_61 iv_Jx4a65c_get_915e3 cl_Jx4a65c rfl (lm_5001 (σ := u2 σ 5000 0 0) (R := R) hR (by omega)) (xx_dt dd_X14_offer 82 rfl) (by decide) rfl rfl (Nat.le_of_ble_eq_true rfl) rfl ?_
                      refine sw_castO O (xx_dt dd_X14_offer 83 rfl) cl_X12 (lm_reg (σ := u2 σ 5000 0 0) (R := R) hR (by omega) (j := i104) (by omega)) cw_X14_65 ?_
                      refine sw_get (v := .int (σ (5010 + i104) 0)) O (xx_dt dd_X14_offer 84 rfl) cl_X12 fl_X14_81 (lm_reg (σ := u2 σ 5000 0 0) (R := R) hR (by omega) (j := i104) (by omega)) (by decide) (congrArg Value.int (congrFun (u2_ne (by omega)) 0)) ?_
                      refine sw_min O mm_X14_213 (xx_dt dd_X14_offer 85 rfl) (by omega) (Nat.le_of_ble_eq_true rfl) ?_
                      refine sw_icmp_gt (tgt := 182) O (xx_dt dd_X14_offer 86 rfl) (by decide) (fun q22 => ?_) (fun q22 => ?_)
                      · refine sw_iconst (x := 0) O (xx_dt dd_X14_offer 89 rfl) (by decide) ?_
                        refine sw_iand O (xx_dt dd_X14_offer 90 rfl) ?_
                        refine sw_istore (ls2 := [.ref 5000, .int (nI (cn x)), .int y, .int v, .ref (5020 + cn x), .int (s104.1 &&& 0), .long (s104.2 + ((Int32.toInt64 (f_of y i104)) * (Int32.toInt64 (σ (5010 + i104) 2)))), xx_d, .int (nI i104)]) O (xx_dt dd_X14_offer 91 rfl) (by decide) rfl ?_
                        refine sw_iinc (y := nI (i104 + 1)) (ls2 := [.ref 5000, .int (nI (cn x)), .int y, .int v, .ref (5020 + cn x), .int (s104.1 &&& 0), .long (s104.2 + ((Int32.toInt64 (f_of y i104)) * (Int32.toInt64 (σ (5010 + i104) 2)))), xx_d, .int (nI (i104 + 1))]) O (xx_dt dd_X14_offer 92 rfl) rfl (nI_1 _) (by decide) rfl ?_
                        refine sw_goto (tgt := 104) O (xx_dt dd_X14_offer 93 rfl) (by decide) ?_
                        simp only [if_pos q22] at kk104
                        exact kk104
                      · refine sw_iconst (x := 1) O (xx_dt dd_X14_offer 87 rfl) (by decide) ?_
                        refine sw_goto (tgt := 183) O (xx_dt dd_X14_offer 88 rfl) (by decide) ?_
                        refine sw_iand O (xx_dt dd_X14_offer 90 rfl) ?_
                        refine sw_istore (ls2 := [.ref 5000, .int (nI (cn x)), .int y, .int v, .ref (5020 + cn x), .int (s104.1 &&& 1), .long (s104.2 + ((Int32.toInt64 (f_of y i104)) * (Int32.toInt64 (σ (5010 + i104) 2)))), xx_d, .int (nI i104)]) O (xx_dt dd_X14_offer 91 rfl) (by decide) rfl ?_
                        refine sw_iinc (y := nI (i104 + 1)) (ls2 := [.ref 5000, .int (nI (cn x)), .int y, .int v, .ref (5020 + cn x), .int (s104.1 &&& 1), .long (s104.2 + ((Int32.toInt64 (f_of y i104)) * (Int32.toInt64 (σ (5010 + i104) 2)))), xx_d, .int (nI (i104 + 1))]) O (xx_dt dd_X14_offer 92 rfl) rfl (nI_1 _) (by decide) rfl ?_
                        refine sw_goto (tgt := 104) O (xx_dt dd_X14_offer 93 rfl) (by decide) ?_
                        simp only [if_neg q22] at kk104
                        exact kk104
                  · show SW Y _ _ (setM z (u2 σ 5000 0 0) h) 104 [.ref 5000, .int (nI (cn x)), .int y, .int v, .ref (5020 + cn x), .int ((x_Moffer_104 σ y R (1, Int64.ofNat (0 : Fin 2))).1), .long ((x_Moffer_104 σ y R (1, Int64.ofNat (0 : Fin 2))).2), xx_d, .int (nI R)] []
                    refine sw_iload O (xx_dt dd_X14_offer 53 rfl) rfl ?_
                    refine sw_aload_n O (xx_dt dd_X14_offer 54 rfl) rfl ?_
                    refine sw_get (v := .ref 5001) O (xx_dt dd_X14_offer 55 rfl) cl_X14 fl_X14_23 (lm_mod (σ := u2 σ 5000 0 0)) (by decide) rfl ?_
                    refine sw_callVL (ci := 6) (as := []) (st := [.int (nI R)]) (st2 := [.int (nI R), .int (nI R)]) O (ct_AL_size hl (lm_5001 (σ := u2 σ 5000 0 0) (R := R) hR (by omega))) ce_Jx4a65c_size_8abf5 ml_X14_57 iv_Jx4a65c_size_8abf5 cl_Jx4a65c rfl (lm_5001 (σ := u2 σ 5000 0 0) (R := R) hR (by omega)) (xx_dt dd_X14_offer 56 rfl) (by decide) rfl rfl (Nat.le_of_ble_eq_true rfl) rfl ?_
                    refine sw_icmp_ge (tgt := 192) O (xx_dt dd_X14_offer 57 rfl) (by decide) (fun q21 => ?_) (fun q21 => ?_)
                    · refine sw_iload O (xx_dt dd_X14_offer 94 rfl) rfl ?_
                      refine sw_if_eq (tgt := 205) O (xx_dt dd_X14_offer 95 rfl) (by decide) (fun q23 => ?_) (fun q23 => ?_)
                      · refine sw_aload_n O (xx_dt dd_X14_offer 101 rfl) rfl ?_
                        refine sw_iconst (x := 3) O (xx_dt dd_X14_offer 102 rfl) (by decide) ?_
                        refine sw_callVx (as := [.int 3]) (st := []) (st2 := [.int 0]) O (ct_X14_refuse hl (z := z) (σ := u2 σ 5000 0 0) hbs (x := 3)) ce_X14_refuse ml_X14_74 iv_X14_refuse cl_X14 rfl (lm_mod (σ := u2 σ 5000 0 0)) (xx_dt dd_X14_offer 103 rfl) (by decide) rfl rfl (Nat.le_of_ble_eq_true rfl) rfl ?_
                        exact sw_iret O (xx_dt dd_X14_offer 104 rfl) rfl rfl (by rw [hQ]; exact ⟨by unfold f_Moffer; simp only [if_pos q1, if_neg q2, if_neg q3, if_pos q4, if_pos q5, if_neg q9, if_neg q13, if_neg q17, if_pos q23], by unfold g_Moffer; simp only [if_pos q1, if_neg q2, if_neg q3, if_pos q4, if_pos q5, if_neg q9, if_neg q13, if_neg q17, if_pos q23]⟩)
                      · refine sw_iload_n O (xx_dt dd_X14_offer 96 rfl) rfl ?_
                        refine sw_i2l O (xx_dt dd_X14_offer 97 rfl) ?_
                        refine sw_lload O (xx_dt dd_X14_offer 98 rfl) rfl ?_
                        refine sw_lcmp O (xx_dt dd_X14_offer 99 rfl) ?_
                        refine sw_if_ge (tgt := 211) O (xx_dt dd_X14_offer 100 rfl) (by decide) (fun q24 => ?_) (fun q24 => ?_)
                        · refine sw_aload O (xx_dt dd_X14_offer 105 rfl) rfl ?_
                          refine sw_iload_n O (xx_dt dd_X14_offer 106 rfl) rfl ?_
                          refine sw_iload_n O (xx_dt dd_X14_offer 107 rfl) rfl ?_
                          refine sw_callSx (as := [.ref (5020 + cn x), .int y, .int v]) (st := []) (st2 := []) O (ct_X14_addPackage hl (z := z) (σ := u2 σ 5000 0 0) hbs hfr (B := B) hB (by omega) (j := cn x) (by omega) (p := pk (cn x)) ((congrFun (u2_ne (by omega)) 900).trans (hpk (cn x) (by omega)).1) (by have h9 := (hpk (cn x) (by omega)).2; omega) (c := y) (a := v)) ce_X14_addPackage ml_X14_199 st_X14_addPackage (xx_dt dd_X14_offer 108 rfl) (by decide) rfl rfl (Nat.le_of_ble_eq_true rfl) rfl ?_
                          refine sw_aload O (xx_dt dd_X14_offer 109 rfl) rfl ?_
                          refine sw_callVx (as := []) (st := []) (st2 := [.int (nI (pk (cn x) + 1))]) O ((show XEx _ _ _ _ _ _ _ (some (.int (nI (pk (cn x) + 1)))) _ from ct_X9_many hl (z := z) (σ := g_Madd (u2 σ 5000 0 0) (cn x) (pk (cn x)) y v) hbs (B := B) ((congrFun (fr_Madd (by omega)) 900).trans hB) (by omega) (j := cn x) (by omega) (p := pk (cn x) + 1) n_Madd (by omega))) ce_X9_many ml_X14_210 iv_X9_many cl_X9 rfl (lm_bid (σ := g_Madd (u2 σ 5000 0 0) (cn x) (pk (cn x)) y v) (B := B) ((congrFun (fr_Madd (by omega)) 900).trans hB) (by omega) (j := cn x) (by omega)) (xx_dt dd_X14_offer 110 rfl) (by decide) rfl rfl (Nat.le_of_ble_eq_true rfl) rfl ?_
                          refine sw_iconst (x := 1) O (xx_dt dd_X14_offer 111 rfl) (by decide) ?_
                          refine sw_isub O (xx_dt dd_X14_offer 112 rfl) ?_
                          rw [nI_s1 (pk (cn x))]
                          exact sw_iret O (xx_dt dd_X14_offer 113 rfl) rfl rfl (by rw [hQ]; exact ⟨by unfold f_Moffer; simp only [if_pos q1, if_neg q2, if_neg q3, if_pos q4, if_pos q5, if_neg q9, if_neg q13, if_neg q17, if_neg q23, if_pos q24], by unfold g_Moffer; simp only [if_pos q1, if_neg q2, if_neg q3, if_pos q4, if_pos q5, if_neg q9, if_neg q13, if_neg q17, if_neg q23, if_pos q24]⟩)
                        · refine sw_aload_n O (xx_dt dd_X14_offer 101 rfl) rfl ?_
                          refine sw_iconst (x := 3) O (xx_dt dd_X14_offer 102 rfl) (by decide) ?_
                          refine sw_callVx (as := [.int 3]) (st := []) (st2 := [.int 0]) O (ct_X14_refuse hl (z := z) (σ := u2 σ 5000 0 0) hbs (x := 3)) ce_X14_refuse ml_X14_74 iv_X14_refuse cl_X14 rfl (lm_mod (σ := u2 σ 5000 0 0)) (xx_dt dd_X14_offer 103 rfl) (by decide) rfl rfl (Nat.le_of_ble_eq_true rfl) rfl ?_
                          exact sw_iret O (xx_dt dd_X14_offer 104 rfl) rfl rfl (by rw [hQ]; exact ⟨by unfold f_Moffer; simp only [if_pos q1, if_neg q2, if_neg q3, if_pos q4, if_pos q5, if_neg q9, if_neg q13, if_neg q17, if_neg q23, if_neg q24], by unfold g_Moffer; simp only [if_pos q1, if_neg q2, if_neg q3, if_pos q4, if_pos q5, if_neg q9, if_neg q13, if_neg q17, if_neg q23, if_neg q24]⟩)
                    · exact absurd (Int32.le_refl _) q21
        · refine sw_aload_n O (xx_dt dd_X14_offer 21 rfl) rfl ?_
          refine sw_iconst (x := 2) O (xx_dt dd_X14_offer 22 rfl) (by decide) ?_
          refine sw_callVx (as := [.int 2]) (st := []) (st2 := [.int 0]) O (ct_X14_refuse hl (z := z) (σ := u2 σ 5000 0 0) hbs (x := 2)) ce_X14_refuse ml_X14_74 iv_X14_refuse cl_X14 rfl (lm_mod (σ := u2 σ 5000 0 0)) (xx_dt dd_X14_offer 23 rfl) (by decide) rfl rfl (Nat.le_of_ble_eq_true rfl) rfl ?_
          exact sw_iret O (xx_dt dd_X14_offer 24 rfl) rfl rfl (by rw [hQ]; exact ⟨by unfold f_Moffer; simp only [if_pos q1, if_neg q2, if_neg q3, if_neg q4], by unfold g_Moffer; simp only [if_pos q1, if_neg q2, if_neg q3, if_neg q4]⟩)
  · refine sw_aload_n O (xx_dt dd_X14_offer 7 rfl) rfl ?_
    refine sw_iconst (x := 1) O (xx_dt dd_X14_offer 8 rfl) (by decide) ?_
    refine sw_callVx (as := [.int 1]) (st := []) (st2 := [.int 0]) O (ct_X14_refuse hl (z := z) (σ := u2 σ 5000 0 0) hbs (x := 1)) ce_X14_refuse ml_X14_74 iv_X14_refuse cl_X14 rfl (lm_mod (σ := u2 σ 5000 0 0)) (xx_dt dd_X14_offer 9 rfl) (by decide) rfl rfl (Nat.le_of_ble_eq_true rfl) rfl ?_
    exact sw_iret O (xx_dt dd_X14_offer 10 rfl) rfl rfl (by rw [hQ]; exact ⟨by unfold f_Moffer; simp only [if_neg q1], by unfold g_Moffer; simp only [if_neg q1]⟩)
theorem lyQ_S {z : Int64} {C C' : XS9} {r n : Nat} {s : Nat → Int32} (h1 : ∀ q i, q ≠ 5004 → C q i = C' q i) (h2 : cn (C 5004 900) = n) (h3 : cn (C' 5004 900) = n + 1) (h4 : ∀ k, k ≠ n → k < 200 → C 5004 k = C' 5004 k) (hn : n < 20) (hr : r ≠ 5004 ∧ r ≠ nmS C n) : lyQ z C r s = lyQ z C' r s := by
  have e1 : ∀ i, C 5001 i = C' 5001 i := fun i => h1 _ _ (by omega)
  have e2 : ∀ i, C 5002 i = C' 5002 i := fun i => h1 _ _ (by omega)
  have e3 : ∀ i, C 5003 i = C' 5003 i := fun i => h1 _ _ (by omega)
  have e7 : ∀ i, C 7000 i = C' 7000 i := fun i => h1 _ _ (by omega)
  have e8 : ∀ i, C 8000 i = C' 8000 i := fun i => h1 _ _ (by omega)
  have e9 : ∀ i, C 9000 i = C' 9000 i := fun i => h1 _ _ (by omega)
  have er : ∀ i, C r i = C' r i := fun i => h1 _ _ hr.1
  have ep : ∀ i, C (5030 + (r - 10000) / 20) i = C' (5030 + (r - 10000) / 20) i := fun i => h1 _ _ (by omega)
  unfold lyQ lyB
  by_cases u0 : r < 5010
  · rw [if_pos u0, if_pos u0]
    split <;> first | rfl | (exfalso; omega) | simp only [e1, e2, e3, e7]
  rw [if_neg u0, if_neg u0]
  by_cases u4 : r < 10200
  · simp only [e1, e2, e3, e7, e8, e9, er, ep, if_pos u4]
  by_cases u5 : r < 10300
  · simp only [if_neg (show ¬ r < 5020 by omega), if_neg (show ¬ r < 5030 by omega), if_neg (show ¬ r < 5040 by omega), if_neg (show ¬ r < 5200 by omega), if_neg (show ¬ r < 5300 by omega), if_neg (show ¬ r < 6000 by omega), if_neg (show ¬ r < 6100 by omega), if_neg (show ¬ r < 6200 by omega), if_neg (show ¬ r < 6300 by omega), if_neg (show ¬ r < 6400 by omega), if_neg (show ¬ r < 7000 by omega), if_neg (show ¬ r < 8000 by omega), if_neg (show ¬ r < 9000 by omega), if_neg (show ¬ r < 9010 by omega), if_neg (show ¬ r < 10000 by omega), if_neg u4, if_pos u5, h2, h3]
    by_cases v : (r - 10200) / 2 < n
    · have n1 : nmS C ((r - 10200) / 2) = nmS C' ((r - 10200) / 2) := by unfold nmS; rw [h4 (100 + (r - 10200) / 2) (by omega) (by omega)]
      rw [h4 _ (by omega) (by omega), n1]
      simp only [v, show (r - 10200) / 2 < n + 1 by omega]
    · rw [if_neg (fun h => v h.1)]
      by_cases w : (r - 10200) / 2 = n
      · have n1 : nmS C n = nmS C' n := by unfold nmS; rw [h4 (100 + n) (by omega) (by omega)]
        rw [w, ← n1, if_neg (fun h => hr.2 h.2.1)]
      · rw [if_neg (fun h => w (by omega))]
  simp only [e1, e2, e3, e7, e8, e9, er, if_neg u4, if_neg u5, if_neg (show ¬ r < 5200 by omega), if_neg (show ¬ r < 5300 by omega), if_neg (show ¬ r < 6000 by omega), if_neg (show ¬ r < 6100 by omega), if_neg (show ¬ r < 6200 by omega), if_neg (show ¬ r < 6300 by omega), if_neg (show ¬ r < 6400 by omega), if_neg (show ¬ r < 7000 by omega), if_neg (show ¬ r < 8000 by omega), if_neg (show ¬ r < 9000 by omega), if_neg (show ¬ r < 9010 by omega)]
theorem nmS_u {σ : XS9} {n k : Nat} {v : Int32} (hn : n < 20) : nmS (g_addI σ 5004 n v) k = nmS σ k ∨ 20 ≤ k + 0 ∧ 800 ≤ 100 + k := by
  by_cases h : 100 + k = 900
  · right; omega
  · left
    unfold nmS
    rw [addI_k (by omega) h]
theorem nmS_v {σ : XS9} {n k : Nat} {v : Int32} (hn : n < 20) (hk : k < 200) : nmS (g_addI σ 5004 n v) k = nmS σ k := (nmS_u hn).resolve_right (by omega)
theorem noq_sint {z : Int64} {σ : XS9} {n : Nat} (hS : σ 5004 900 = nI n) (hn : n < 20) (s : Nat → Int32) : lyQ z (ctl σ) (nmS σ n) s = none := by
  have e2 := ct1 (i := 900) rfl hS (by omega)
  obtain ⟨q1, q2, q3⟩ := nmS_r (σ := σ) n
  unfold lyQ
  rw [if_neg (by omega), if_neg (by omega), if_neg (by omega), if_neg (by omega), if_neg (by omega), if_neg (by omega), if_neg (by omega), if_neg (by omega), if_neg (by omega), if_neg (by omega), if_neg (by omega), if_neg (by omega), if_neg (by omega), if_neg (by omega), if_neg (by omega), if_neg (by omega), if_neg (by omega), if_pos (by omega), q1, e2, if_neg (by omega)]
theorem add_intS {z : Int64} {σ : XS9} {h : XH} {n : Nat} {v : Int32} (hS : σ 5004 900 = nI n) (hn : n < 20) : (xx_small v → xx_up (setM z σ h) 5004 (206, n + 1, fun k => .ref (xx_box (g_addI σ 5004 n v 5004 k) (nmS (g_addI σ 5004 n v) k))) = setM z (g_addI σ 5004 n v) h) ∧ (¬ xx_small v → xx_up (xx_up (setM z σ h) (nmS σ n) (2, 1, fun _ => .int v)) 5004 (206, n + 1, fun k => .ref (xx_box (g_addI σ 5004 n v 5004 k) (nmS (g_addI σ 5004 n v) k))) = setM z (g_addI σ 5004 n v) h) := by
  have hp' : g_addI σ 5004 n v 5004 900 = nI (n + 1) := addI_n
  have c1 : ∀ q i, q ≠ 5004 → ctl σ q i = ctl (g_addI σ 5004 n v) q i := fun q i hq => by unfold ctl; rw [addI_ne hq]
  have hsame : ∀ q, q ≠ 5004 → q ≠ nmS σ n → setM z σ h q = setM z (g_addI σ 5004 n v) h q := fun q a1 a2 => by
    unfold setM
    rw [addI_ne a1, lyQ_S (n := n) c1 (ct1 rfl hS (by omega)) (ct1 rfl hp' (by omega)) (fun k h1 h2 => show σ 5004 k = g_addI σ 5004 n v 5004 k by rw [addI_k h1 (by omega)]) hn ⟨a1, a2⟩]
  obtain ⟨q1, q2, q3⟩ := nmS_r (σ := σ) n
  refine ⟨fun hs => ?_, fun hs => ?_⟩ <;> funext q
  · unfold xx_up
    by_cases a1 : q = 5004
    · rw [if_pos a1, a1, lm_5004 hp' (by omega)]
    rw [if_neg a1]
    by_cases a2 : q = nmS σ n
    · rw [a2, setM_no (noq_sint hS hn _)]
      refine (setM_no ?_).symm
      have e2 := ct1 (i := 900) rfl hp' (by omega)
      unfold lyQ
      rw [if_neg (by omega), if_neg (by omega), if_neg (by omega), if_neg (by omega), if_neg (by omega), if_neg (by omega), if_neg (by omega), if_neg (by omega), if_neg (by omega), if_neg (by omega), if_neg (by omega), if_neg (by omega), if_neg (by omega), if_neg (by omega), if_neg (by omega), if_neg (by omega), if_neg (by omega), if_pos (by omega), q1, if_neg (fun h9 => h9.2.2 (show xx_small (g_addI σ 5004 n v 5004 n) by rw [addI_v (by omega)]; exact hs))]
    · exact hsame q a1 a2
  · unfold xx_up
    by_cases a1 : q = 5004
    · rw [if_pos a1, a1, lm_5004 hp' (by omega)]
    rw [if_neg a1]
    by_cases a2 : q = nmS σ n
    · have t := lm_sint (z := z) (h := h) hp' (by omega) (k := n) (by omega) (by rw [addI_v (by omega)]; exact hs)
      rw [nmS_v hn (by omega), addI_v (by omega)] at t
      rw [if_pos a2, a2, t]
    · rw [if_neg a2]
      exact hsame q a1 a2
theorem sw_boxS {Y : XY} {k9 n9 pc : Nat} {ls st : List Value} {z : Int64} {σ : XS9} {h : XH} {n : Nat} {v : Int32} (hS : σ 5004 900 = nI n) (hn : n < 20) (kk : SW Y k9 n9 (setM z (g_addI σ 5004 n v) h) pc ls st) : SW Y k9 n9 (xx_up (setM z σ (boxH h v (nmS σ n))) 5004 (206, n + 1, fun k => if k = n then .ref (xx_box v (nmS σ n)) else .ref (xx_box (σ 5004 k) (nmS σ k)))) pc ls st := by
  obtain ⟨q1, q2, q3⟩ := nmS_r (σ := σ) n
  have hn1 : nmS σ n ≠ 5004 := by omega
  have T := add_intS (z := z) (h := h) (v := v) hS hn
  refine sw_alter (r := 5004) (F2 := fun k => .ref (xx_box (g_addI σ 5004 n v 5004 k) (nmS (g_addI σ 5004 n v) k))) (xx_up_eq _ _ _) (fun k hk => ?_) ?_
  · by_cases e : k = n
    · subst e
      rw [if_pos rfl, addI_v (by omega), nmS_v hn (by omega)]
    · rw [if_neg e, addI_k e (by omega), nmS_v hn (by omega)]
  · rw [xx_up_up]
    by_cases hs : xx_small v
    · have e : boxH h v (nmS σ n) = h := if_pos hs
      rw [e, T.1 hs]
      exact kk
    · have e : boxH h v (nmS σ n) = xx_up h (nmS σ n) (2, 1, vF v) := if_neg hs
      rw [e, setM_up (.inr (noq_sint hS hn _))]
      refine sw_alter (r := nmS σ n) (F2 := fun _ => .int v) ((xx_up_ne hn1).trans (xx_up_eq _ _ _)) (fun k hk => by match k, hk with | 0, _ => rfl) ?_
      rw [← xx_up_sw hn1, xx_up_up, T.2 hs]
      exact kk
def f_MofPackage (σ : XS9) (x y v : Int32) (B : Nat) (pk : Nat → Nat) : Int32 := (if n_lt x B then (if n_bt y 0 ((nI (pk (cn x))) - 1) then (if v = 0 then f_Bcode (u2 σ 5000 0 0) (cn x) (cn y) else f_Bamount (u2 σ 5000 0 0) (cn x) (cn y)) else 0) else 0)
def g_MofPackage (σ : XS9) (x y v : Int32) (B : Nat) (pk : Nat → Nat) : XS9 := (if n_lt x B then (if n_bt y 0 ((nI (pk (cn x))) - 1) then u2 σ 5000 0 0 else u2 (u2 σ 5000 0 0) 5000 0 1) else u2 (u2 σ 5000 0 0) 5000 0 1)
theorem ct_X14_ofPackage {l : Launch} {h : XH} (hl : l.stackTraces = false) {z : Int64} {σ : XS9} (hbs : xx_bs h) {R : Nat} (hR : σ 5001 900 = nI R) (hR5 : R ≤ 5) {B : Nat} (hB : σ 5002 900 = nI B) (hB6 : B ≤ 6) {pk : Nat → Nat} (hpk : ∀ j, j < B → σ (5030 + j) 900 = nI (2 * pk j) ∧ pk j ≤ 6) {x y v : Int32}  : XEx l m_X14_ofPackage 5 0 0 [.ref 5000, .int x, .int y, .int v] (setM z σ h) (some (.int (f_MofPackage σ x y v B pk))) (setM z (g_MofPackage σ x y v B pk) h) := by
  refine XMet.of hl rfl rfl (Nat.le_of_ble_eq_true rfl) (fun Y O hh hQ => ?_)
  show SW Y 0 0 (setM z σ h) 0 [.ref 5000, .int x, .int y, .int v] []
  refine sw_aload_n O (xx_dt dd_X14_ofPackage 0 rfl) rfl ?_
  refine sw_iconst (x := 0) O (xx_dt dd_X14_ofPackage 1 rfl) (by decide) ?_
  refine sw_put (h2 := setM z (u2 σ 5000 0 0) h) O (xx_dt dd_X14_ofPackage 2 rfl) cl_X14 fl_X14_46 (lm_mod (σ := σ)) (by decide) (by omega) rfl (fun _ => ⟨rfl, rfl⟩) (pm_mod (σ := σ) (by omega)) ?_
  refine sw_aload_n O (xx_dt dd_X14_ofPackage 3 rfl) rfl ?_
  refine sw_iload_n O (xx_dt dd_X14_ofPackage 4 rfl) rfl ?_
  refine sw_callVx (as := [.int x]) (st := []) (st2 := [.int (bZ (n_lt x B))]) O (ct_X14_isBidder hl (z := z) (σ := u2 σ 5000 0 0) hbs (B := B) hB (by omega) (x := x)) ce_X14_isBidder ml_X14_156 iv_X14_isBidder cl_X14 rfl (lm_mod (σ := u2 σ 5000 0 0)) (xx_dt dd_X14_ofPackage 5 rfl) (by decide) rfl rfl (Nat.le_of_ble_eq_true rfl) rfl ?_
  refine sw_if_eqB (tgt := 37) O (xx_dt dd_X14_ofPackage 6 rfl) (by decide) (fun q1 => ?_) (fun q1 => ?_)
  · refine sw_aload_n O (xx_dt dd_X14_ofPackage 19 rfl) rfl ?_
    refine sw_iconst (x := 1) O (xx_dt dd_X14_ofPackage 20 rfl) (by decide) ?_
    refine sw_callVx (as := [.int 1]) (st := []) (st2 := [.int 0]) O (ct_X14_refuse hl (z := z) (σ := u2 σ 5000 0 0) hbs (x := 1)) ce_X14_refuse ml_X14_74 iv_X14_refuse cl_X14 rfl (lm_mod (σ := u2 σ 5000 0 0)) (xx_dt dd_X14_ofPackage 21 rfl) (by decide) rfl rfl (Nat.le_of_ble_eq_true rfl) rfl ?_
    exact sw_iret O (xx_dt dd_X14_ofPackage 22 rfl) rfl rfl (by rw [hQ]; exact ⟨by unfold f_MofPackage; simp only [if_neg q1], by unfold g_MofPackage; simp only [if_neg q1]⟩)
  · have hc10 := q1
    refine sw_lsE (ls2 := [.ref 5000, .int (nI (cn x)), .int y, .int v]) (by rw [← hc10.1]) ?_
    have hd10 := hc10.2
    refine sw_iload_n O (xx_dt dd_X14_ofPackage 7 rfl) rfl ?_
    refine sw_iconst (x := 0) O (xx_dt dd_X14_ofPackage 8 rfl) (by decide) ?_
    refine sw_aload_n O (xx_dt dd_X14_ofPackage 9 rfl) rfl ?_
    refine sw_get (v := .ref 5002) O (xx_dt dd_X14_ofPackage 10 rfl) cl_X14 fl_X14_27 (lm_mod (σ := u2 σ 5000 0 0)) (by decide) rfl ?_
    refine sw_iload_n O (xx_dt dd_X14_ofPackage 11 rfl) rfl ?_
    refine sw_callVL (ci := 6) (as := [.int (nI (cn x))]) (st := [.int 0, .int y]) (st2 := [.ref (5020 + cn x), .int 0, .int y]) O (ct_get hl hbs (lm_5002 (σ := u2 σ 5000 0 0) (B := B) hB (by omega)) (by omega) (i := cn x) (x := 5020 + cn x) (by omega) (by omega) rfl) ce_Jx4a65c_get_915e3 ml_X14_61 iv_Jx4a65c_get_915e3 cl_Jx4a65c rfl (lm_5002 (σ := u2 σ 5000 0 0) (B := B) hB (by omega)) (xx_dt dd_X14_ofPackage 12 rfl) (by decide) rfl rfl (Nat.le_of_ble_eq_true rfl) rfl ?_
    refine sw_castO O (xx_dt dd_X14_ofPackage 13 rfl) cl_X9 (lm_bid (σ := u2 σ 5000 0 0) (B := B) hB (by omega) (j := cn x) (by omega)) cw_X14_118 ?_
    have hq26 := (hpk (cn x) (by omega)).2
    refine sw_callVx (as := []) (st := [.int 0, .int y]) (st2 := [.int (nI (pk (cn x))), .int 0, .int y]) O ((show XEx _ _ _ _ _ _ _ (some (.int (nI (pk (cn x))))) _ from ct_X9_many hl (z := z) (σ := u2 σ 5000 0 0) hbs (B := B) hB (by omega) (j := cn x) (by omega) (p := pk (cn x)) ((congrFun (u2_ne (by omega)) 900).trans (hpk (cn x) (by omega)).1) (by have h9 := (hpk (cn x) (by omega)).2; omega))) ce_X9_many ml_X14_210 iv_X9_many cl_X9 rfl (lm_bid (σ := u2 σ 5000 0 0) (B := B) hB (by omega) (j := cn x) (by omega)) (xx_dt dd_X14_ofPackage 14 rfl) (by decide) rfl rfl (Nat.le_of_ble_eq_true rfl) rfl ?_
    refine sw_iconst (x := 1) O (xx_dt dd_X14_ofPackage 15 rfl) (by decide) ?_
    refine sw_isub O (xx_dt dd_X14_ofPackage 16 rfl) ?_
    refine sw_callSx (as := [.int y, .int 0, .int ((nI (pk (cn x))) - 1)]) (st := []) (st2 := [.int (bZ (n_bt y 0 ((nI (pk (cn x))) - 1)))]) O (ct_X14_is hl) ce_X14_is ml_X14_70 st_X14_is (xx_dt dd_X14_ofPackage 17 rfl) (by decide) rfl rfl (Nat.le_of_ble_eq_true rfl) rfl ?_
    refine sw_if_neB (tgt := 43) O (xx_dt dd_X14_ofPackage 18 rfl) (by decide) (fun q2 => ?_) (fun q2 => ?_)
    · have hc34 := ((sub1_lt (R := pk (cn x)) (by have h9 := (hpk (cn x) (by omega)).2; omega)).mp q2)
      refine sw_lsE (ls2 := [.ref 5000, .int (nI (cn x)), .int (nI (cn y)), .int v]) (by rw [← hc34.1]) ?_
      have hd34 := hc34.2
      refine sw_iload_n O (xx_dt dd_X14_ofPackage 23 rfl) rfl ?_
      refine sw_if_eq (tgt := 65) O (xx_dt dd_X14_ofPackage 24 rfl) (by decide) (fun q3 => ?_) (fun q3 => ?_)
      · refine sw_aload_n O (xx_dt dd_X14_ofPackage 33 rfl) rfl ?_
        refine sw_get (v := .ref 5002) O (xx_dt dd_X14_ofPackage 34 rfl) cl_X14 fl_X14_27 (lm_mod (σ := u2 σ 5000 0 0)) (by decide) rfl ?_
        refine sw_iload_n O (xx_dt dd_X14_ofPackage 35 rfl) rfl ?_
        refine sw_callVL (ci := 6) (as := [.int (nI (cn x))]) (st := []) (st2 := [.ref (5020 + cn x)]) O (ct_get hl hbs (lm_5002 (σ := u2 σ 5000 0 0) (B := B) hB (by omega)) (by omega) (i := cn x) (x := 5020 + cn x) (by omega) (by omega) rfl) ce_Jx4a65c_get_915e3 ml_X14_61 iv_Jx4a65c_get_915e3 cl_Jx4a65c rfl (lm_5002 (σ := u2 σ 5000 0 0) (B := B) hB (by omega)) (xx_dt dd_X14_ofPackage 36 rfl) (by decide) rfl rfl (Nat.le_of_ble_eq_true rfl) rfl ?_
        refine sw_castO O (xx_dt dd_X14_ofPackage 37 rfl) cl_X9 (lm_bid (σ := u2 σ 5000 0 0) (B := B) hB (by omega) (j := cn x) (by omega)) cw_X14_118 ?_
        refine sw_iload_n O (xx_dt dd_X14_ofPackage 38 rfl) rfl ?_
        refine sw_callVx (as := [.int (nI (cn y))]) (st := []) (st2 := [.int (f_Bcode (u2 σ 5000 0 0) (cn x) (cn y))]) O (ct_X9_code hl (z := z) (σ := u2 σ 5000 0 0) hbs (B := B) hB (by omega) (j := cn x) (by omega) (p := pk (cn x)) ((congrFun (u2_ne (by omega)) 900).trans (hpk (cn x) (by omega)).1) (by have h9 := (hpk (cn x) (by omega)).2; omega) (k := cn y) (by first | omega | (have h9 := (hpk (cn x) (by omega)).2; omega))) ce_X9_code ml_X14_240 iv_X9_code cl_X9 rfl (lm_bid (σ := u2 σ 5000 0 0) (B := B) hB (by omega) (j := cn x) (by omega)) (xx_dt dd_X14_ofPackage 39 rfl) (by decide) rfl rfl (Nat.le_of_ble_eq_true rfl) rfl ?_
        exact sw_iret O (xx_dt dd_X14_ofPackage 40 rfl) rfl rfl (by rw [hQ]; exact ⟨by unfold f_MofPackage; simp only [if_pos q1, if_pos q2, if_pos q3], by unfold g_MofPackage; simp only [if_pos q1, if_pos q2, if_pos q3]⟩)
      · refine sw_aload_n O (xx_dt dd_X14_ofPackage 25 rfl) rfl ?_
        refine sw_get (v := .ref 5002) O (xx_dt dd_X14_ofPackage 26 rfl) cl_X14 fl_X14_27 (lm_mod (σ := u2 σ 5000 0 0)) (by decide) rfl ?_
        refine sw_iload_n O (xx_dt dd_X14_ofPackage 27 rfl) rfl ?_
        refine sw_callVL (ci := 6) (as := [.int (nI (cn x))]) (st := []) (st2 := [.ref (5020 + cn x)]) O (ct_get hl hbs (lm_5002 (σ := u2 σ 5000 0 0) (B := B) hB (by omega)) (by omega) (i := cn x) (x := 5020 + cn x) (by omega) (by omega) rfl) ce_Jx4a65c_get_915e3 ml_X14_61 iv_Jx4a65c_get_915e3 cl_Jx4a65c rfl (lm_5002 (σ := u2 σ 5000 0 0) (B := B) hB (by omega)) (xx_dt dd_X14_ofPackage 28 rfl) (by decide) rfl rfl (Nat.le_of_ble_eq_true rfl) rfl ?_
        refine sw_castO O (xx_dt dd_X14_ofPackage 29 rfl) cl_X9 (lm_bid (σ := u2 σ 5000 0 0) (B := B) hB (by omega) (j := cn x) (by omega)) cw_X14_118 ?_
        refine sw_iload_n O (xx_dt dd_X14_ofPackage 30 rfl) rfl ?_
        refine sw_callVx (as := [.int (nI (cn y))]) (st := []) (st2 := [.int (f_Bamount (u2 σ 5000 0 0) (cn x) (cn y))]) O (ct_X9_amount hl (z := z) (σ := u2 σ 5000 0 0) hbs (B := B) hB (by omega) (j := cn x) (by omega) (p := pk (cn x)) ((congrFun (u2_ne (by omega)) 900).trans (hpk (cn x) (by omega)).1) (by have h9 := (hpk (cn x) (by omega)).2; omega) (k := cn y) (by first | omega | (have h9 := (hpk (cn x) (by omega)).2; omega))) ce_X9_amount ml_X14_252 iv_X9_amount cl_X9 rfl (lm_bid (σ := u2 σ 5000 0 0) (B := B) hB (by omega) (j := cn x) (by omega)) (xx_dt dd_X14_ofPackage 31 rfl) (by decide) rfl rfl (Nat.le_of_ble_eq_true rfl) rfl ?_
        refine sw_goto (tgt := 80) O (xx_dt dd_X14_ofPackage 32 rfl) (by decide) ?_
        exact sw_iret O (xx_dt dd_X14_ofPackage 40 rfl) rfl rfl (by rw [hQ]; exact ⟨by unfold f_MofPackage; simp only [if_pos q1, if_pos q2, if_neg q3], by unfold g_MofPackage; simp only [if_pos q1, if_pos q2, if_neg q3]⟩)
    · refine sw_aload_n O (xx_dt dd_X14_ofPackage 19 rfl) rfl ?_
      refine sw_iconst (x := 1) O (xx_dt dd_X14_ofPackage 20 rfl) (by decide) ?_
      refine sw_callVx (as := [.int 1]) (st := []) (st2 := [.int 0]) O (ct_X14_refuse hl (z := z) (σ := u2 σ 5000 0 0) hbs (x := 1)) ce_X14_refuse ml_X14_74 iv_X14_refuse cl_X14 rfl (lm_mod (σ := u2 σ 5000 0 0)) (xx_dt dd_X14_ofPackage 21 rfl) (by decide) rfl rfl (Nat.le_of_ble_eq_true rfl) rfl ?_
      exact sw_iret O (xx_dt dd_X14_ofPackage 22 rfl) rfl rfl (by rw [hQ]; exact ⟨by unfold f_MofPackage; simp only [if_pos q1, if_neg q2], by unfold g_MofPackage; simp only [if_pos q1, if_neg q2]⟩)
end
section
/-! ===== the reference: station, most, channel ===== -/
def f_Mstation (σ : XS9) (x y : Int32) (R C : Nat) : Int32 := (if n_lt x R then (if n_bt y 1 9999 then (if (nI (2 * C)) = 20 then 0 else nI C) else 0) else 0)
def g_Mstation (σ : XS9) (x y : Int32) (R C : Nat) : XS9 := (if n_lt x R then (if n_bt y 1 9999 then (if (nI (2 * C)) = 20 then u2 (u2 σ 5000 0 0) 5000 0 3 else g_addI (g_addI (u2 σ 5000 0 0) 5004 (2 * C) (nI (cn x))) 5004 (2 * C + 1) y) else u2 (u2 σ 5000 0 0) 5000 0 2) else u2 (u2 σ 5000 0 0) 5000 0 1)
theorem ct_X14_station {l : Launch} {h : XH} (hl : l.stackTraces = false) {z : Int64} {σ : XS9} (hbs : xx_bs h) (hfr : ∀ r, 5000 ≤ r → r < 20010 → h r = none) {R : Nat} (hR : σ 5001 900 = nI R) (hR5 : R ≤ 5) {C : Nat} (hS : σ 5004 900 = nI (2 * C)) (hC10 : C ≤ 10) {x y : Int32} : XEx l m_X14_station 9 4 90 [.ref 5000, .int x, .int y] (setM z σ h) (some (.int (f_Mstation σ x y R C))) (setM z (g_Mstation σ x y R C) h) := by
  refine XMet.of hl rfl rfl (Nat.le_of_ble_eq_true rfl) (fun Y O hh hQ => ?_)
  show SW Y 4 90 (setM z σ h) 0 [.ref 5000, .int x, .int y] []
  refine sw_aload_n O (xx_dt dd_X14_station 0 rfl) rfl ?_
  refine sw_iconst (x := 0) O (xx_dt dd_X14_station 1 rfl) (by decide) ?_
  refine sw_put (h2 := setM z (u2 σ 5000 0 0) h) O (xx_dt dd_X14_station 2 rfl) cl_X14 fl_X14_46 (lm_mod (σ := σ)) (by decide) (by omega) rfl (fun _ => ⟨rfl, rfl⟩) (pm_mod (σ := σ) (by omega)) ?_
  refine sw_aload_n O (xx_dt dd_X14_station 3 rfl) rfl ?_
  refine sw_iload_n O (xx_dt dd_X14_station 4 rfl) rfl ?_
  refine sw_callVx (as := [.int x]) (st := []) (st2 := [.int (bZ (n_lt x R))]) O (ct_X14_isRegion hl (z := z) (σ := u2 σ 5000 0 0) hbs (R := R) hR (by omega) (x := x)) ce_X14_isRegion ml_X14_91 iv_X14_isRegion cl_X14 rfl (lm_mod (σ := u2 σ 5000 0 0)) (xx_dt dd_X14_station 5 rfl) (by decide) rfl rfl (Nat.le_of_ble_eq_true rfl) rfl ?_
  refine sw_if_neB (tgt := 19) O (xx_dt dd_X14_station 6 rfl) (by decide) (fun q1 => ?_) (fun q1 => ?_)
  · have hc10 := q1
    refine sw_lsE (ls2 := [.ref 5000, .int (nI (cn x)), .int y]) (by rw [← hc10.1]) ?_
    have hd10 := hc10.2
    refine sw_iload_n O (xx_dt dd_X14_station 11 rfl) rfl ?_
    refine sw_iconst (x := 1) O (xx_dt dd_X14_station 12 rfl) (by decide) ?_
    refine sw_sipush (x := 9999) O (xx_dt dd_X14_station 13 rfl) (by decide) ?_
    refine sw_callSx (as := [.int y, .int 1, .int 9999]) (st := []) (st2 := [.int (bZ (n_bt y 1 9999))]) O (ct_X14_is hl) ce_X14_is ml_X14_70 st_X14_is (xx_dt dd_X14_station 14 rfl) (by decide) rfl rfl (Nat.le_of_ble_eq_true rfl) rfl ?_
    refine sw_if_neB (tgt := 36) O (xx_dt dd_X14_station 15 rfl) (by decide) (fun q2 => ?_) (fun q2 => ?_)
    · refine sw_aload_n O (xx_dt dd_X14_station 20 rfl) rfl ?_
      refine sw_get (v := .ref 5004) O (xx_dt dd_X14_station 21 rfl) cl_X14 fl_X14_33 (lm_mod (σ := u2 σ 5000 0 0)) (by decide) rfl ?_
      refine sw_callVL (ci := 6) (as := []) (st := []) (st2 := [.int (nI (2 * C))]) O (ct_AL_size hl (lm_5004 (σ := u2 σ 5000 0 0) (S := 2 * C) hS (by omega))) ce_Jx4a65c_size_8abf5 ml_X14_57 iv_Jx4a65c_size_8abf5 cl_Jx4a65c rfl (lm_5004 (σ := u2 σ 5000 0 0) (S := 2 * C) hS (by omega)) (xx_dt dd_X14_station 22 rfl) (by decide) rfl rfl (Nat.le_of_ble_eq_true rfl) rfl ?_
      refine sw_bipush (x := 20) O (xx_dt dd_X14_station 23 rfl) (by decide) ?_
      refine sw_icmp_ne (tgt := 54) O (xx_dt dd_X14_station 24 rfl) (by decide) (fun q3 => ?_) (fun q3 => ?_)
      · have hC9 : C < 10 := by rcases Nat.lt_or_ge C 10 with h9 | h9; exact h9; exact absurd (show nI (2 * C) = 20 from congrArg nI (show 2 * C = 20 by omega)) (by assumption)
        refine sw_aload_n O (xx_dt dd_X14_station 29 rfl) rfl ?_
        refine sw_get (v := .ref 5004) O (xx_dt dd_X14_station 30 rfl) cl_X14 fl_X14_33 (lm_mod (σ := u2 σ 5000 0 0)) (by decide) rfl ?_
        refine sw_iload_n O (xx_dt dd_X14_station 31 rfl) rfl ?_
        refine sw_callSx (k := 3) (n := 89) (k' := 1) (n' := 1) (as := [.int (nI (cn x))]) (st := [.ref 5004]) (st2 := [.ref (xx_box (nI (cn x)) (nmS (u2 σ 5000 0 0) (2 * C))), .ref 5004]) O (ct_val hl (z := z) (σ := u2 σ 5000 0 0) hbs (v := nI (cn x)) (e := nmS (u2 σ 5000 0 0) (2 * C)) (noq_sint (σ := u2 σ 5000 0 0) hS (by omega) _) (hfr (nmS (u2 σ 5000 0 0) (2 * C)) (by have h9 := nmS_r (σ := u2 σ 5000 0 0) (2 * C); omega) (by have h9 := nmS_r (σ := u2 σ 5000 0 0) (2 * C); omega)) (by have h9 := nmS_r (σ := u2 σ 5000 0 0) (2 * C); omega)) ce_J6_valueOf_2dffe ml_X14_206 st_J6_valueOf_2dffe (xx_dt dd_X14_station 32 rfl) (by decide) rfl rfl (Nat.le_of_ble_eq_true rfl) rfl ?_
        have hbs0 := hbs
        have hbs := bs_box (v := nI (cn x)) (e := nmS (u2 σ 5000 0 0) (2 * C)) hbs (by have h9 := nmS_r (σ := u2 σ 5000 0 0) (2 * C); omega) (by have h9 := nmS_r (σ := u2 σ 5000 0 0) (2 * C); omega) (by have h9 := nmS_r (σ := u2 σ 5000 0 0) (2 * C); omega)
        refine xx_wid (k' := 2 + 1) (n' := 49 + ((2 * C) + (2 * C) / 2 + 10)) (by omega) (by omega) (sw_callVL (k := 2) (n := 49) (k' := 1) (n' := (2 * C) + (2 * C) / 2 + 10) (ci := 6) (as := [.ref (xx_box (nI (cn x)) (nmS (u2 σ 5000 0 0) (2 * C)))]) (st := []) (st2 := [.int 1]) O (ct_add hl (lm_5004 (σ := u2 σ 5000 0 0) (S := 2 * C) hS (by omega)) (by omega) (hbs.1.imp fun f0 e => (setM_out (by omega)).trans e) (hbs.2.1.imp fun f0 e => (setM_out (by omega)).trans e) (setM_no2 hbs).1 (setM_no2 hbs).2 (ob_box hbs0 (noq_sint (σ := u2 σ 5000 0 0) hS (by omega) _)) (by omega) (fun k9 hk9 => .inr ⟨_, rfl, ob_C cl_J6 (lm_sbox (σ := u2 σ 5000 0 0) hbs (S := 2 * C) hS (by omega) (k := k9) hk9) ca_J6⟩)) ce_Jx4a65c_add_9ea2d ml_X14_87 iv_Jx4a65c_add_9ea2d cl_Jx4a65c rfl (lm_5004 (σ := u2 σ 5000 0 0) (S := 2 * C) hS (by omega)) (xx_dt dd_X14_station 33 rfl) (by decide) rfl rfl (Nat.le_of_ble_eq_true rfl) rfl ?_)
        refine sw_boxS (σ := u2 σ 5000 0 0) (n := 2 * C) hS (by omega) ?_
        have hbs := hbs0
        refine sw_pop O (xx_dt dd_X14_station 34 rfl) rfl ?_
        refine sw_aload_n O (xx_dt dd_X14_station 35 rfl) rfl ?_
        refine sw_get (v := .ref 5004) O (xx_dt dd_X14_station 36 rfl) cl_X14 fl_X14_33 (lm_mod (σ := g_addI (u2 σ 5000 0 0) 5004 (2 * C) (nI (cn x)))) (by decide) rfl ?_
        refine sw_iload_n O (xx_dt dd_X14_station 37 rfl) rfl ?_
        refine sw_callSx (k := 1) (n := 48) (k' := 1) (n' := 1) (as := [.int y]) (st := [.ref 5004]) (st2 := [.ref (xx_box y (nmS (g_addI (u2 σ 5000 0 0) 5004 (2 * C) (nI (cn x))) (2 * C + 1))), .ref 5004]) O (ct_val hl (z := z) (σ := g_addI (u2 σ 5000 0 0) 5004 (2 * C) (nI (cn x))) hbs (v := y) (e := nmS (g_addI (u2 σ 5000 0 0) 5004 (2 * C) (nI (cn x))) (2 * C + 1)) (noq_sint (σ := g_addI (u2 σ 5000 0 0) 5004 (2 * C) (nI (cn x))) addI_n (by omega) _) (hfr (nmS (g_addI (u2 σ 5000 0 0) 5004 (2 * C) (nI (cn x))) (2 * C + 1)) (by have h9 := nmS_r (σ := g_addI (u2 σ 5000 0 0) 5004 (2 * C) (nI (cn x))) (2 * C + 1); omega) (by have h9 := nmS_r (σ := g_addI (u2 σ 5000 0 0) 5004 (2 * C) (nI (cn x))) (2 * C + 1); omega)) (by have h9 := nmS_r (σ := g_addI (u2 σ 5000 0 0) 5004 (2 * C) (nI (cn x))) (2 * C + 1); omega)) ce_J6_valueOf_2dffe ml_X14_206 st_J6_valueOf_2dffe (xx_dt dd_X14_station 38 rfl) (by decide) rfl rfl (Nat.le_of_ble_eq_true rfl) rfl ?_
        have hbs0 := hbs
        have hbs := bs_box (v := y) (e := nmS (g_addI (u2 σ 5000 0 0) 5004 (2 * C) (nI (cn x))) (2 * C + 1)) hbs (by have h9 := nmS_r (σ := g_addI (u2 σ 5000 0 0) 5004 (2 * C) (nI (cn x))) (2 * C + 1); omega) (by have h9 := nmS_r (σ := g_addI (u2 σ 5000 0 0) 5004 (2 * C) (nI (cn x))) (2 * C + 1); omega) (by have h9 := nmS_r (σ := g_addI (u2 σ 5000 0 0) 5004 (2 * C) (nI (cn x))) (2 * C + 1); omega)
        refine xx_wid (k' := 0 + 1) (n' := 8 + ((2 * C + 1) + (2 * C + 1) / 2 + 10)) (by omega) (by omega) (sw_callVL (k := 0) (n := 8) (k' := 1) (n' := (2 * C + 1) + (2 * C + 1) / 2 + 10) (ci := 6) (as := [.ref (xx_box y (nmS (g_addI (u2 σ 5000 0 0) 5004 (2 * C) (nI (cn x))) (2 * C + 1)))]) (st := []) (st2 := [.int 1]) O (ct_add hl (lm_5004 (σ := g_addI (u2 σ 5000 0 0) 5004 (2 * C) (nI (cn x))) (S := 2 * C + 1) addI_n (by omega)) (by omega) (hbs.1.imp fun f0 e => (setM_out (by omega)).trans e) (hbs.2.1.imp fun f0 e => (setM_out (by omega)).trans e) (setM_no2 hbs).1 (setM_no2 hbs).2 (ob_box hbs0 (noq_sint (σ := g_addI (u2 σ 5000 0 0) 5004 (2 * C) (nI (cn x))) addI_n (by omega) _)) (by omega) (fun k9 hk9 => .inr ⟨_, rfl, ob_C cl_J6 (lm_sbox (σ := g_addI (u2 σ 5000 0 0) 5004 (2 * C) (nI (cn x))) hbs (S := 2 * C + 1) addI_n (by omega) (k := k9) hk9) ca_J6⟩)) ce_Jx4a65c_add_9ea2d ml_X14_87 iv_Jx4a65c_add_9ea2d cl_Jx4a65c rfl (lm_5004 (σ := g_addI (u2 σ 5000 0 0) 5004 (2 * C) (nI (cn x))) (S := 2 * C + 1) addI_n (by omega)) (xx_dt dd_X14_station 39 rfl) (by decide) rfl rfl (Nat.le_of_ble_eq_true rfl) rfl ?_)
        refine sw_boxS (σ := g_addI (u2 σ 5000 0 0) 5004 (2 * C) (nI (cn x))) (n := 2 * C + 1) addI_n (by omega) ?_
        have hbs := hbs0
        refine sw_pop O (xx_dt dd_X14_station 40 rfl) rfl ?_
        refine sw_aload_n O (xx_dt dd_X14_station 41 rfl) rfl ?_
        refine sw_get (v := .ref 5004) O (xx_dt dd_X14_station 42 rfl) cl_X14 fl_X14_33 (lm_mod (σ := g_addI (g_addI (u2 σ 5000 0 0) 5004 (2 * C) (nI (cn x))) 5004 (2 * C + 1) y)) (by decide) rfl ?_
        refine sw_callVL (ci := 6) (as := []) (st := []) (st2 := [.int (nI (2 * (C + 1)))]) O (ct_AL_size hl (lm_5004 (σ := g_addI (g_addI (u2 σ 5000 0 0) 5004 (2 * C) (nI (cn x))) 5004 (2 * C + 1) y) (S := 2 * (C + 1)) addI_n2 (by omega))) ce_Jx4a65c_size_8abf5 ml_X14_57 iv_Jx4a65c_size_8abf5 cl_Jx4a65c rfl (lm_5004 (σ := g_addI (g_addI (u2 σ 5000 0 0) 5004 (2 * C) (nI (cn x))) 5004 (2 * C + 1) y) (S := 2 * (C + 1)) addI_n2 (by omega)) (xx_dt dd_X14_station 43 rfl) (by decide) rfl rfl (Nat.le_of_ble_eq_true rfl) rfl ?_
        refine sw_iconst (x := 2) O (xx_dt dd_X14_station 44 rfl) (by decide) ?_
        refine sw_idiv O (xx_dt dd_X14_station 45 rfl) (by first | decide | assumption) ?_
        have hx86 := trivial
        rw [nI_half (by omega)]
        refine sw_iconst (x := 1) O (xx_dt dd_X14_station 46 rfl) (by decide) ?_
        refine sw_isub O (xx_dt dd_X14_station 47 rfl) ?_
        rw [nI_s1 C]
        exact sw_iret O (xx_dt dd_X14_station 48 rfl) rfl rfl (by rw [hQ]; exact ⟨by unfold f_Mstation; simp only [if_pos q1, if_pos q2, if_neg q3], by unfold g_Mstation; simp only [if_pos q1, if_pos q2, if_neg q3]⟩)
      · refine sw_aload_n O (xx_dt dd_X14_station 25 rfl) rfl ?_
        refine sw_iconst (x := 3) O (xx_dt dd_X14_station 26 rfl) (by decide) ?_
        refine sw_callVx (as := [.int 3]) (st := []) (st2 := [.int 0]) O (ct_X14_refuse hl (z := z) (σ := u2 σ 5000 0 0) hbs (x := 3)) ce_X14_refuse ml_X14_74 iv_X14_refuse cl_X14 rfl (lm_mod (σ := u2 σ 5000 0 0)) (xx_dt dd_X14_station 27 rfl) (by decide) rfl rfl (Nat.le_of_ble_eq_true rfl) rfl ?_
        exact sw_iret O (xx_dt dd_X14_station 28 rfl) rfl rfl (by rw [hQ]; exact ⟨by unfold f_Mstation; simp only [if_pos q1, if_pos q2, if_pos q3], by unfold g_Mstation; simp only [if_pos q1, if_pos q2, if_pos q3]⟩)
    · refine sw_aload_n O (xx_dt dd_X14_station 16 rfl) rfl ?_
      refine sw_iconst (x := 2) O (xx_dt dd_X14_station 17 rfl) (by decide) ?_
      refine sw_callVx (as := [.int 2]) (st := []) (st2 := [.int 0]) O (ct_X14_refuse hl (z := z) (σ := u2 σ 5000 0 0) hbs (x := 2)) ce_X14_refuse ml_X14_74 iv_X14_refuse cl_X14 rfl (lm_mod (σ := u2 σ 5000 0 0)) (xx_dt dd_X14_station 18 rfl) (by decide) rfl rfl (Nat.le_of_ble_eq_true rfl) rfl ?_
      exact sw_iret O (xx_dt dd_X14_station 19 rfl) rfl rfl (by rw [hQ]; exact ⟨by unfold f_Mstation; simp only [if_pos q1, if_neg q2], by unfold g_Mstation; simp only [if_pos q1, if_neg q2]⟩)
  · refine sw_aload_n O (xx_dt dd_X14_station 7 rfl) rfl ?_
    refine sw_iconst (x := 1) O (xx_dt dd_X14_station 8 rfl) (by decide) ?_
    refine sw_callVx (as := [.int 1]) (st := []) (st2 := [.int 0]) O (ct_X14_refuse hl (z := z) (σ := u2 σ 5000 0 0) hbs (x := 1)) ce_X14_refuse ml_X14_74 iv_X14_refuse cl_X14 rfl (lm_mod (σ := u2 σ 5000 0 0)) (xx_dt dd_X14_station 9 rfl) (by decide) rfl rfl (Nat.le_of_ble_eq_true rfl) rfl ?_
    exact sw_iret O (xx_dt dd_X14_station 10 rfl) rfl rfl (by rw [hQ]; exact ⟨by unfold f_Mstation; simp only [if_neg q1], by unfold g_Mstation; simp only [if_neg q1]⟩)
def x_Mmost_39 (σ : XS9) (x y : Int32) (R B g : Nat) (s0 : Nat) : Nat := xitB (fun i39 s39 => (if (f_McanWish (u2 σ 5000 0 0) (cn x) (cn y) (nI s39) R B g) = 0 then .inl (s39 - 1) else .inr s39)) 5 0 s0
def f_Mmost (σ : XS9) (x y : Int32) (R B g : Nat) : Int32 := (if n_lt x B then (if n_lt y R then (if (σ 5000 1) = 1 then nI ((x_Mmost_39 σ x y R B g 5)) else (-1)) else 0) else 0)
def g_Mmost (σ : XS9) (x y : Int32) (R B g : Nat) : XS9 := (if n_lt x B then (if n_lt y R then u2 σ 5000 0 0 else u2 (u2 σ 5000 0 0) 5000 0 1) else u2 (u2 σ 5000 0 0) 5000 0 1)
theorem ct_X14_most {l : Launch} {h : XH} (hl : l.stackTraces = false) {z : Int64} {σ : XS9} (hbs : xx_bs h) {R : Nat} (hR : σ 5001 900 = nI R) (hR5 : R ≤ 5) {B : Nat} (hB : σ 5002 900 = nI B) (hB6 : B ≤ 6) (hst : σ 5000 1 = 1 → σ 7000 25 = nI 1 ∧ σ 7000 20 = nI 1) {g : Nat} (hg : σ 7000 23 = nI g) (hg1 : g < 200) {w : Nat} (hw : σ 7000 24 = nI w) (hw1 : w < 200) {x y : Int32} (hm0 : n_lt x B → n_lt y R → σ 5000 1 = 1 → ¬ f_McanWish (u2 σ 5000 0 0) (cn x) (cn y) (nI 0) R B g = 0)  : XEx l m_X14_most 5 0 0 [.ref 5000, .int x, .int y] (setM z σ h) (some (.int (f_Mmost σ x y R B g))) (setM z (g_Mmost σ x y R B g) h) := by
  refine XMet.of hl rfl rfl (Nat.le_of_ble_eq_true rfl) (fun Y O hh hQ => ?_)
  show SW Y 0 0 (setM z σ h) 0 [.ref 5000, .int x, .int y, xx_d] []
  refine sw_aload_n O (xx_dt dd_X14_most 0 rfl) rfl ?_
  refine sw_iconst (x := 0) O (xx_dt dd_X14_most 1 rfl) (by decide) ?_
  refine sw_put (h2 := setM z (u2 σ 5000 0 0) h) O (xx_dt dd_X14_most 2 rfl) cl_X14 fl_X14_46 (lm_mod (σ := σ)) (by decide) (by omega) rfl (fun _ => ⟨rfl, rfl⟩) (pm_mod (σ := σ) (by omega)) ?_
  refine sw_aload_n O (xx_dt dd_X14_most 3 rfl) rfl ?_
  refine sw_iload_n O (xx_dt dd_X14_most 4 rfl) rfl ?_
  refine sw_callVx (as := [.int x]) (st := []) (st2 := [.int (bZ (n_lt x B))]) O (ct_X14_isBidder hl (z := z) (σ := u2 σ 5000 0 0) hbs (B := B) hB (by omega) (x := x)) ce_X14_isBidder ml_X14_156 iv_X14_isBidder cl_X14 rfl (lm_mod (σ := u2 σ 5000 0 0)) (xx_dt dd_X14_most 5 rfl) (by decide) rfl rfl (Nat.le_of_ble_eq_true rfl) rfl ?_
  refine sw_if_eqB (tgt := 21) O (xx_dt dd_X14_most 6 rfl) (by decide) (fun q1 => ?_) (fun q1 => ?_)
  · refine sw_aload_n O (xx_dt dd_X14_most 11 rfl) rfl ?_
    refine sw_iconst (x := 1) O (xx_dt dd_X14_most 12 rfl) (by decide) ?_
    refine sw_callVx (as := [.int 1]) (st := []) (st2 := [.int 0]) O (ct_X14_refuse hl (z := z) (σ := u2 σ 5000 0 0) hbs (x := 1)) ce_X14_refuse ml_X14_74 iv_X14_refuse cl_X14 rfl (lm_mod (σ := u2 σ 5000 0 0)) (xx_dt dd_X14_most 13 rfl) (by decide) rfl rfl (Nat.le_of_ble_eq_true rfl) rfl ?_
    exact sw_iret O (xx_dt dd_X14_most 14 rfl) rfl rfl (by rw [hQ]; exact ⟨by unfold f_Mmost; simp only [if_neg q1], by unfold g_Mmost; simp only [if_neg q1]⟩)
  · have hc10 := q1
    refine sw_lsE (ls2 := [.ref 5000, .int (nI (cn x)), .int y, xx_d]) (by rw [← hc10.1]) ?_
    have hd10 := hc10.2
    refine sw_aload_n O (xx_dt dd_X14_most 7 rfl) rfl ?_
    refine sw_iload_n O (xx_dt dd_X14_most 8 rfl) rfl ?_
    refine sw_callVx (as := [.int y]) (st := []) (st2 := [.int (bZ (n_lt y R))]) O (ct_X14_isRegion hl (z := z) (σ := u2 σ 5000 0 0) hbs (R := R) hR (by omega) (x := y)) ce_X14_isRegion ml_X14_91 iv_X14_isRegion cl_X14 rfl (lm_mod (σ := u2 σ 5000 0 0)) (xx_dt dd_X14_most 9 rfl) (by decide) rfl rfl (Nat.le_of_ble_eq_true rfl) rfl ?_
    refine sw_if_neB (tgt := 27) O (xx_dt dd_X14_most 10 rfl) (by decide) (fun q2 => ?_) (fun q2 => ?_)
    · have hc18 := q2
      refine sw_lsE (ls2 := [.ref 5000, .int (nI (cn x)), .int (nI (cn y)), xx_d]) (by rw [← hc18.1]) ?_
      have hd18 := hc18.2
      refine sw_aload_n O (xx_dt dd_X14_most 15 rfl) rfl ?_
      refine sw_get (v := .int (σ 5000 1)) O (xx_dt dd_X14_most 16 rfl) cl_X14 fl_X14_77 (lm_mod (σ := u2 σ 5000 0 0)) (by decide) rfl ?_
      refine sw_iconst (x := 1) O (xx_dt dd_X14_most 17 rfl) (by decide) ?_
      refine sw_icmp_eq (tgt := 37) O (xx_dt dd_X14_most 18 rfl) (by decide) (fun q3 => ?_) (fun q3 => ?_)
      · refine sw_iconst (x := 5) O (xx_dt dd_X14_most 21 rfl) (by decide) ?_
        refine sw_istore_n (ls2 := [.ref 5000, .int (nI (cn x)), .int (nI (cn y)), .int 5]) O (xx_dt dd_X14_most 22 rfl) (by decide) rfl ?_
        refine sw_forB (S := Nat) (fun i39 s39 => (if (f_McanWish (u2 σ 5000 0 0) (cn x) (cn y) (nI s39) R B g) = 0 then .inl (s39 - 1) else .inr s39)) (fun i s => s + i = 5) (fun _ => True) (hp := fun _ => setM z (u2 σ 5000 0 0) h) (hd := 39) (lc := fun i39 s39 => [.ref 5000, .int (nI (cn x)), .int (nI (cn y)), .int (nI s39)]) (ex := 55) (lx := fun s39 => [.ref 5000, .int (nI (cn x)), .int (nI (cn y)), .int (nI s39)]) (N := 5) (fun i39 s39 hi39 hP39 => ⟨⟨(by intro s' e'; revert e'; (try dsimp only); (repeat' split) <;> intro e' <;> first | (cases e'; done) | (have e9 := Sum.inl.inj e'; subst e9; have h9 : s39 + i39 = 5 := hP39; show s39 - 1 + (i39 + 1) = 5; omega)), fun _ _ => trivial⟩, fun kk39 kb39 => ?_⟩) (fun s39 hP39 => ⟨trivial, fun kx39 => ?_⟩) 5 0 5 (by omega) (rfl) (fun hP39 => ?_)
        · refine sw_aload_n O (xx_dt dd_X14_most 23 rfl) rfl ?_
          refine sw_iload_n O (xx_dt dd_X14_most 24 rfl) rfl ?_
          refine sw_iload_n O (xx_dt dd_X14_most 25 rfl) rfl ?_
          refine sw_iload_n O (xx_dt dd_X14_most 26 rfl) rfl ?_
          refine sw_callVx (as := [.int (nI (cn x)), .int (nI (cn y)), .int (nI s39)]) (st := []) (st2 := [.int (f_McanWish (u2 σ 5000 0 0) (cn x) (cn y) (nI s39) R B g)]) O (ct_X14_canWish hl (z := z) (σ := u2 σ 5000 0 0) hbs (R := R) hR (by omega) (B := B) hB (by omega) (hst (by assumption)).2 (hst (by assumption)).1 (g := g) hg (by omega) (w := w) hw (by omega) (i := cn x) (r := cn y) (y := nI s39) (by omega) (by omega)) ce_X14_canWish ml_X14_159 iv_X14_canWish cl_X14 rfl (lm_modC (σ := u2 σ 5000 0 0) (fl1 (hst (by assumption)).1)) (xx_dt dd_X14_most 27 rfl) (by decide) rfl rfl (Nat.le_of_ble_eq_true rfl) rfl ?_
          have h9 : s39 + i39 = 5 := hP39
          refine sw_if_ne (tgt := 55) O (xx_dt dd_X14_most 28 rfl) (by decide) (fun q5 => ?_) (fun q5 => ?_)
          · exact kb39 s39 (by simp only [if_neg q5])
          · refine sw_iinc (y := nI (s39 - 1)) (ls2 := [.ref 5000, .int (nI (cn x)), .int (nI (cn y)), .int (nI (s39 - 1))]) O (xx_dt dd_X14_most 29 rfl) rfl (nI_prd (by omega)) (by decide) rfl ?_
            refine sw_goto (tgt := 39) O (xx_dt dd_X14_most 30 rfl) (by decide) ?_
            exact kk39 (s39 - 1) (by simp only [if_pos q5])
        · show SW Y _ _ (setM z (u2 σ 5000 0 0) h) 39 [.ref 5000, .int (nI (cn x)), .int (nI (cn y)), .int (nI s39)] []
          have hZ39 := hP39
          refine sw_aload_n O (xx_dt dd_X14_most 23 rfl) rfl ?_
          refine sw_iload_n O (xx_dt dd_X14_most 24 rfl) rfl ?_
          refine sw_iload_n O (xx_dt dd_X14_most 25 rfl) rfl ?_
          refine sw_iload_n O (xx_dt dd_X14_most 26 rfl) rfl ?_
          refine sw_callVx (as := [.int (nI (cn x)), .int (nI (cn y)), .int (nI s39)]) (st := []) (st2 := [.int (f_McanWish (u2 σ 5000 0 0) (cn x) (cn y) (nI s39) R B g)]) O (ct_X14_canWish hl (z := z) (σ := u2 σ 5000 0 0) hbs (R := R) hR (by omega) (B := B) hB (by omega) (hst (by assumption)).2 (hst (by assumption)).1 (g := g) hg (by omega) (w := w) hw (by omega) (i := cn x) (r := cn y) (y := nI s39) (by omega) (by omega)) ce_X14_canWish ml_X14_159 iv_X14_canWish cl_X14 rfl (lm_modC (σ := u2 σ 5000 0 0) (fl1 (hst (by assumption)).1)) (xx_dt dd_X14_most 27 rfl) (by decide) rfl rfl (Nat.le_of_ble_eq_true rfl) rfl ?_
          refine sw_if_ne (tgt := 55) O (xx_dt dd_X14_most 28 rfl) (by decide) (fun q4 => ?_) (fun q4 => ?_)
          · exact kx39
          · exact absurd (show f_McanWish (u2 σ 5000 0 0) (cn x) (cn y) (nI 0) R B g = 0 by have h9 : s39 + 5 = 5 := hP39; have h8 : s39 = 0 := (by omega); rw [h8] at q4; exact q4) (hm0 q1 q2 (by assumption))
        · show SW Y _ _ (setM z (u2 σ 5000 0 0) h) 55 [.ref 5000, .int (nI (cn x)), .int (nI (cn y)), .int (nI ((x_Mmost_39 σ x y R B g 5)))] []
          refine sw_iload_n O (xx_dt dd_X14_most 31 rfl) rfl ?_
          exact sw_iret O (xx_dt dd_X14_most 32 rfl) rfl rfl (by rw [hQ]; exact ⟨by unfold f_Mmost; simp only [if_pos q1, if_pos q2, if_pos q3], by unfold g_Mmost; simp only [if_pos q1, if_pos q2, if_pos q3]⟩)
      · refine sw_iconst (x := (-1)) O (xx_dt dd_X14_most 19 rfl) (by decide) ?_
        exact sw_iret O (xx_dt dd_X14_most 20 rfl) rfl rfl (by rw [hQ]; exact ⟨by unfold f_Mmost; simp only [if_pos q1, if_pos q2, if_neg q3], by unfold g_Mmost; simp only [if_pos q1, if_pos q2, if_neg q3]⟩)
    · refine sw_aload_n O (xx_dt dd_X14_most 11 rfl) rfl ?_
      refine sw_iconst (x := 1) O (xx_dt dd_X14_most 12 rfl) (by decide) ?_
      refine sw_callVx (as := [.int 1]) (st := []) (st2 := [.int 0]) O (ct_X14_refuse hl (z := z) (σ := u2 σ 5000 0 0) hbs (x := 1)) ce_X14_refuse ml_X14_74 iv_X14_refuse cl_X14 rfl (lm_mod (σ := u2 σ 5000 0 0)) (xx_dt dd_X14_most 13 rfl) (by decide) rfl rfl (Nat.le_of_ble_eq_true rfl) rfl ?_
      exact sw_iret O (xx_dt dd_X14_most 14 rfl) rfl rfl (by rw [hQ]; exact ⟨by unfold f_Mmost; simp only [if_pos q1, if_neg q2], by unfold g_Mmost; simp only [if_pos q1, if_neg q2]⟩)
end
section
/-! ===== the reference: a clock is made ===== -/
theorem ct_codes {l : Launch} {h : XH} (hl : l.stackTraces = false) {a : Nat} (ha : h a = none) (h1 : 1000 ≤ a)  : XEx l m_X14_codes 0 1 6 [] (h) (some (.ref a)) (xx_up h a (100, 6, fun _ => .int 0)) := by
  refine XMet.of hl rfl rfl (Nat.le_of_ble_eq_true rfl) (fun Y O hh hQ => ?_)
  show SW Y 1 6 (h) 0 [] []
  refine sw_bipush (x := 6) O (xx_dt dd_X14_codes 0 rfl) (by decide) ?_
  refine sw_newarray (k := 0) (n := 0) (t := 100) (N := 6) (r := a) O (xx_dt dd_X14_codes 1 rfl) ⟨⟨by omega, by omega⟩, rfl⟩ ac_int (by decide) rfl (by decide) ha h1 ?_
  rw [xx_blk_up, def0]
  exact sw_aret O (xx_dt dd_X14_codes 2 rfl) rfl (.inr ⟨_, rfl⟩) (by rw [hQ]; exact ⟨rfl, rfl⟩)
theorem lyQ_K {z : Int64} {b : Nat} {C C' : XS9} {r : Nat} {s : Nat → Int32} (hb : b = 7000 ∨ b = 8000) (h1 : ∀ q i, q ≠ b → C q i = C' q i) (h5 : C b 25 = C' b 25) (h2 : r < b ∨ b + 1000 ≤ r) : lyQ z C r s = lyQ z C' r s := by
  have e1 : ∀ i, C 5001 i = C' 5001 i := fun i => h1 _ _ (by omega)
  have e2 : ∀ i, C 5002 i = C' 5002 i := fun i => h1 _ _ (by omega)
  have e3 : ∀ i, C 5003 i = C' 5003 i := fun i => h1 _ _ (by omega)
  have e4 : ∀ i, C 5004 i = C' 5004 i := fun i => h1 _ _ (by omega)
  have e9 : ∀ i, C 9000 i = C' 9000 i := fun i => h1 _ _ (by omega)
  have er : ∀ i, C r i = C' r i := fun i => h1 _ _ (by omega)
  have e75 : C 7000 25 = C' 7000 25 := by
    rcases hb with rfl | rfl
    · exact h5
    · exact h1 _ _ (by omega)
  by_cases h3 : r < 20000
  · have ep : ∀ i, C (5030 + (r - 10000) / 20) i = C' (5030 + (r - 10000) / 20) i := fun i => h1 _ _ (by omega)
    by_cases w : r < 7000
    · unfold lyQ lyB nmS
      simp only [e1, e2, e3, e4, e9, er, e75, if_pos w]
    · by_cases w2 : 9000 ≤ r
      · unfold lyQ lyB nmS
        simp only [e1, e2, e3, e4, e9, er, ep, e75, if_neg (show ¬ r < 8000 by omega), if_neg (show ¬ r < 9000 by omega)]
      · rcases hb with rfl | rfl
        · have e8 : ∀ i, C 8000 i = C' 8000 i := fun i => h1 _ _ (by omega)
          unfold lyQ lyB nmS
          simp only [e1, e2, e3, e4, e8, e9, er, ep, e75, if_neg (show ¬ r < 8000 by omega), if_pos (show r < 9000 by omega)]
        · have e7 : ∀ i, C 7000 i = C' 7000 i := fun i => h1 _ _ (by omega)
          unfold lyQ lyB nmS
          simp only [e1, e2, e3, e4, e7, e9, er, ep, e75, if_pos (show r < 8000 by omega)]
  · by_cases h4 : r < 20010
    · rw [lq_tmp (by omega), lq_tmp (by omega), er, er]
    · unfold lyQ
      rw [if_neg (by omega), if_neg (by omega), if_neg (by omega), if_neg (by omega), if_neg (by omega), if_neg (by omega), if_neg (by omega), if_neg (by omega), if_neg (by omega), if_neg (by omega), if_neg (by omega), if_neg (by omega), if_neg (by omega), if_neg (by omega), if_neg (by omega), if_neg (by omega), if_neg (by omega), if_neg (by omega), if_neg (by omega), if_neg (by omega), if_neg (by omega), if_neg (by omega), if_neg (by omega), if_neg (by omega), if_neg (by omega), if_neg (by omega), if_neg (by omega), if_neg (by omega), if_neg (by omega), if_neg (by omega), if_neg (by omega), if_neg (by omega), if_neg (by omega), if_neg (by omega), if_neg (by omega), if_neg (by omega), if_neg (by omega), if_neg (by omega), if_neg (by omega), if_neg (by omega)]
def g_clk0 (σ : XS9) (b : Nat) : XS9 := fun q => if q = b then (fun i => if i = 20 then 1 else if i = 25 then σ b 25 else 0) else if q = b + 1 ∨ q = b + 2 ∨ q = b + 3 ∨ q = b + 4 ∨ q = b + 5 ∨ q = b + 500 + 0 ∨ q = b + 700 + 0 then (fun _ => 0) else σ q
theorem fr_clk0 {σ : XS9} {b q : Nat} (h : q < b ∨ b + 1000 ≤ q) : g_clk0 σ b q = σ q := by
  unfold g_clk0
  rw [if_neg (by omega), if_neg (by omega)]
theorem clk0_b {σ : XS9} {b : Nat} : g_clk0 σ b b 20 = nI 1 ∧ g_clk0 σ b b 21 = nI 0 ∧ g_clk0 σ b b 22 = nI 0 ∧ g_clk0 σ b b 23 = nI 0 ∧ g_clk0 σ b b 24 = nI 0 ∧ g_clk0 σ b b 25 = σ b 25 ∧ g_clk0 σ b b 9 = 0 := by
  unfold g_clk0
  rw [if_pos rfl]
  exact ⟨rfl, rfl, rfl, rfl, rfl, rfl, rfl⟩
theorem noq_K {z : Int64} {σ : XS9} {b i : Nat} (hb : b = 7000 ∨ b = 8000) (h0 : σ b 20 = 0) (hi : i < 1000) (s : Nat → Int32) : lyQ z (ctl σ) (b + i) s = none := by
  unfold lyQ
  rcases hb with rfl | rfl
  · have e : ctl σ 7000 20 = 0 := h0
    rw [if_neg (by omega), if_neg (by omega), if_neg (by omega), if_neg (by omega), if_neg (by omega), if_neg (by omega), if_neg (by omega), if_neg (by omega), if_neg (by omega), if_neg (by omega), if_neg (by omega), if_neg (by omega), if_pos (by omega), e, if_pos rfl]
  · have e : ctl σ 8000 20 = 0 := h0
    rw [if_neg (by omega), if_neg (by omega), if_neg (by omega), if_neg (by omega), if_neg (by omega), if_neg (by omega), if_neg (by omega), if_neg (by omega), if_neg (by omega), if_neg (by omega), if_neg (by omega), if_neg (by omega), if_neg (by omega), if_pos (by omega), e, if_pos rfl]
abbrev clk_F (b : Nat) : Nat → Value := fun k => match k with | 0 => .ref (b + 1) | 1 => .ref (b + 2) | 2 => .ref (b + 500 + 0) | 3 => .ref (b + 700 + 0) | 4 => .ref (b + 3) | 5 => .ref (b + 4) | 6 => .ref (b + 5) | 7 => .ref (b + 6) | 8 => .ref (b + 7) | 9 => .int 0 | 10 => .ref 5000 | _ => .null
theorem new_clk {z : Int64} {σ : XS9} {h : XH} {b R : Nat} (hb : b = 7000 ∨ b = 8000) (hfr : ∀ r, 5000 ≤ r → r < 20010 → h r = none) (h0 : σ b 20 = 0) (hR : σ 5001 900 = nI R) (hR5 : R ≤ 5) :
    xx_up (xx_up (xx_up (xx_up (xx_up (xx_up (xx_up (xx_up (xx_up (xx_up (setM z σ h) (b + 1) (100, R, fun _ => .int 0)) (b + 2) (100, 6, fun _ => .int 0)) (b + 500 + 0) (100, 6, fun _ => .int 0)) (b + 700 + 0) (101, 6, fun _ => .int 0)) (b + 3) (100, 6, fun _ => .int 0)) (b + 4) (100, 6, fun _ => .int 0)) (b + 5) (100, 6, fun _ => .int 0)) (b + 6) (206, 0, fun k => .ref (b + 100 + k))) (b + 7) (206, 0, fun k => .ref (b + 200 + k))) b (17, 11, clk_F b) = setM z (g_clk0 σ b) h := by
  obtain ⟨k1, k2, k3, k4, k5, k6, k7⟩ := clk0_b (σ := σ) (b := b)
  have hf := fl1 k1
  have hR' : g_clk0 σ b 5001 900 = nI R := by rw [fr_clk0 (by omega)]; exact hR
  have row : ∀ q, (q = b + 1 ∨ q = b + 2 ∨ q = b + 3 ∨ q = b + 4 ∨ q = b + 5 ∨ q = b + 500 + 0 ∨ q = b + 700 + 0) → ∀ j, g_clk0 σ b q j = 0 := fun q hq j => by
    unfold g_clk0
    rw [if_neg (by omega), if_pos hq]
  have hz : ∀ (r t n : Nat), (∀ j, g_clk0 σ b r j = 0) → (some (t, n, fun _ => Value.int 0) : Option XC) = some (t, n, fun k => .int (g_clk0 σ b r k)) := fun r t n h => by
    congr 3
    funext k
    rw [h]
  funext q
  unfold xx_up
  by_cases a0 : q = b
  · rw [if_pos a0, a0, lm_clk hb hf k4 (by omega) k5 (by omega)]
    congr 3
    funext k
    unfold clk_F
    match k with
    | 0 | 1 | 2 | 3 | 4 | 5 | 6 | 7 | 8 | 10 => rfl
    | 9 => exact congrArg Value.int k7.symm
    | _ + 11 => rfl
  rw [if_neg a0]
  by_cases a7 : q = b + 7
  · rw [if_pos a7, a7, lm_koh hb hf k3 (by omega)]
  rw [if_neg a7]
  by_cases a6 : q = b + 6
  · rw [if_pos a6, a6, lm_kop hb hf k2 (by omega)]
  rw [if_neg a6]
  by_cases a5 : q = b + 5
  · rw [if_pos a5, a5, lm_kco hb hf]; exact hz _ _ _ (row _ (by omega))
  rw [if_neg a5]
  by_cases a4 : q = b + 4
  · rw [if_pos a4, a4, lm_kwv hb hf]; exact hz _ _ _ (row _ (by omega))
  rw [if_neg a4]
  by_cases a3 : q = b + 3
  · rw [if_pos a3, a3, lm_kel hb hf]; exact hz _ _ _ (row _ (by omega))
  rw [if_neg a3]
  by_cases a9 : q = b + 700 + 0
  · rw [if_pos a9, a9, lm_hwa hb hf k5 (by omega) (by omega)]; exact hz _ _ _ (row _ (by omega))
  rw [if_neg a9]
  by_cases a8 : q = b + 500 + 0
  · rw [if_pos a8, a8, lm_wsh hb hf k4 (by omega) (by omega)]; exact hz _ _ _ (row _ (by omega))
  rw [if_neg a8]
  by_cases a2 : q = b + 2
  · rw [if_pos a2, a2, lm_khe hb hf]; exact hz _ _ _ (row _ (by omega))
  rw [if_neg a2]
  by_cases a1 : q = b + 1
  · rw [if_pos a1, a1, lm_kpr hb hf hR' hR5]; exact hz _ _ _ (row _ (by omega))
  rw [if_neg a1]
  by_cases hr : q < b ∨ b + 1000 ≤ q
  · unfold setM
    rw [fr_clk0 hr, lyQ_K (C := ctl (g_clk0 σ b)) (C' := ctl σ) hb (fun r i e => by
      unfold ctl
      by_cases er : r < b ∨ b + 1000 ≤ r
      · rw [fr_clk0 er]
      · have : isCtl r i = false := notCtl (by omega) i
        simp only [this]
        rfl) (by rw [ct_b hb (by omega), ct_b hb (by omega)]; exact k6) hr]
  · obtain ⟨i, rfl⟩ : ∃ i, q = b + i := ⟨q - b, by omega⟩
    rw [setM_no (noq_K hb h0 (by omega) _), hfr _ (by omega) (by omega)]
    symm
    refine (setM_no ?_).trans (hfr _ (by omega) (by omega))
    rw [lq_B hb hf (by omega)]
    have c1 : cn (ctl (g_clk0 σ b) b 21) = 0 := by rw [ct_b hb (by omega), k2]; rfl
    have c2 : cn (ctl (g_clk0 σ b) b 22) = 0 := by rw [ct_b hb (by omega), k3]; rfl
    have c3 : cn (ctl (g_clk0 σ b) b 23) = 0 := by rw [ct_b hb (by omega), k4]; rfl
    have c4 : cn (ctl (g_clk0 σ b) b 24) = 0 := by rw [ct_b hb (by omega), k5]; rfl
    unfold lyB
    rw [c1, c2, c3, c4, if_neg (by omega)]
    split
    · rw [if_neg (by omega)]
    · split
      · rw [if_neg (by omega)]
      · split
        · rw [if_neg (by omega)]
        · split
          · rw [if_neg (by omega)]
          · rfl
end
