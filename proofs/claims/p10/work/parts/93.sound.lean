/-! ===== the reference: isSound ===== -/
def x_MisSound_c_26 (σ : XS9) (R B K C : Nat) (pk : Nat → Nat) (g : Nat) (tn sp : Nat → Nat) (i2 : Nat) (s0 : Unit) : Unit ⊕ Int32 := xitR (fun i26 s26 => (if (f_of (f_MheldCode_c σ i2 g) i26) ≤ (nI (sp i26)) then .inl () else .inr 0)) R 0 s0
def x_MisSound_c_2 (σ : XS9) (R B K C : Nat) (pk : Nat → Nat) (g : Nat) (tn sp : Nat → Nat) (s0 : Unit) : Unit ⊕ Int32 := xitR (fun i2 s2 => (if 0 ≤ (f_MofBidderNow σ i2 R B pk g 1) then (match (x_MisSound_c_26 σ R B K C pk g tn sp i2 ()) with | .inl s26 => (if (σ 5000 1) = 3 then (if (σ 5005 i2) = (-1) then .inl () else (if (σ 5006 i2) ≤ (f_Bamount σ i2 (cn (σ 5005 i2))) then .inl () else .inr 0)) else .inl ()) | .inr r26 => .inr r26) else .inr 0)) B 0 s0
def x_MisSound_c_128 (σ : XS9) (R B K C : Nat) (pk : Nat → Nat) (g : Nat) (tn sp : Nat → Nat) (s0 : Unit) : Unit ⊕ Int32 := xitR (fun i128 s128 => (if (σ (5010 + i128) 2) ≤ (f_MofRegionNow σ i128 R B C g 3) then .inl () else .inr 0)) R 0 s0
def f_MisSound_c (σ : XS9) (R B K C : Nat) (pk : Nat → Nat) (g : Nat) (tn sp : Nat → Nat) : Int32 := (match (x_MisSound_c_2 σ R B K C pk g tn sp ()) with | .inl s2 => (match (x_MisSound_c_128 σ R B K C pk g tn sp ()) with | .inl s128 => (if (σ 5000 1) = 3 then (if (f_MareNamed σ R B sp tn pk) = 0 then 0 else (if (f_MisLogged σ R B K) = 0 then 0 else 1)) else (if (f_MisLogged σ R B K) = 0 then 0 else 1)) | .inr r128 => r128) | .inr r2 => r2)
theorem ct_MisSound_c {l : Launch} {h : XH} (hl : l.stackTraces = false) {z : Int64} {σ : XS9} (hbs : xx_bs h) (hfr : ∀ r, 5000 ≤ r → r < 20010 → h r = none) (hme : mem_eq σ σ) {R : Nat} (hR : σ 5001 900 = nI R) (hR5 : R ≤ 5) {B : Nat} (hB : σ 5002 900 = nI B) (hB6 : B ≤ 6) {K : Nat} (hK : σ 5003 900 = nI K) (hK60 : K ≤ 60) {C : Nat} (hS : σ 5004 900 = nI (2 * C)) (hC10 : C ≤ 10) {pk : Nat → Nat} (hpk : ∀ j, j < B → σ (5030 + j) 900 = nI (2 * pk j) ∧ pk j ≤ 6) (hkp : σ 5000 1 = 3 → ∀ j, j < B → σ 5005 j = -1 ∨ ∃ n, n < pk j ∧ σ 5005 j = nI n) {tn : Nat → Nat} (htn : ∀ r, r < 5 → σ 5007 r = nI (tn r) ∧ tn r < 6) {sp : Nat → Nat} (hsp : ∀ r, r < R → σ (5010 + r) 0 = nI (sp r) ∧ sp r ≤ 5) (hho : ∀ (s : XS9) i j, (∀ q, q ≠ 20000 → s q = σ q) → i < R → j < sp i → f_MholderNow s i (nI j) B tn = -1 ∨ n_lt (f_MholderNow s i (nI j) B tn) 6) {g : Nat} (hg : σ 7000 23 = nI g) (hg1 : g < 200) {w : Nat} (hw : σ 7000 24 = nI w) (hw1 : w < 200) (hf : σ 7000 20 = nI 1) (hf5 : σ 7000 25 = nI 1) {GA : Nat → XS9 → Prop} (ha : AH GA σ (-1) 0 0 0 R B K)  : XEx l m_X14_isSoundNow 12 495 8668 [.ref 5000] (setM z σ h) (some (.int (f_MisSound_c σ R B K C pk g tn sp))) (setM z σ h) := by
  refine XMet.of hl rfl rfl (Nat.le_of_ble_eq_true rfl) (fun Y O hh hQ => ?_)
  have hfl : σ 7000 25 = nI 0 ∨ (σ 7000 25 = nI 1 ∧ σ 7000 20 = nI 1) := .inr ⟨hf5, hf⟩
  show SW Y 495 8668 (setM z σ h) 0 [.ref 5000, xx_d, xx_d] []
  refine sw_iconst (x := 0) O (xx_dt dd_X14_isSoundNow 0 rfl) (by decide) ?_
  refine sw_istore_n (ls2 := [.ref 5000, .int 0, xx_d]) O (xx_dt dd_X14_isSoundNow 1 rfl) (by decide) rfl ?_
  refine sw_forR (S := Unit) (R := Int32) (fun i2 s2 => (if 0 ≤ (f_MofBidderNow σ i2 R B pk g 1) then (match (x_MisSound_c_26 σ R B K C pk g tn sp i2 ()) with | .inl s26 => (if (σ 5000 1) = 3 then (if (σ 5005 i2) = (-1) then .inl () else (if (σ 5006 i2) ≤ (f_Bamount σ i2 (cn (σ 5005 i2))) then .inl () else .inr 0)) else .inl ()) | .inr r26 => .inr r26) else .inr 0)) (fun _ _ => True) (FR := fun r9 => f_MisSound_c σ R B K C pk g tn sp = r9) (hp := fun _ => setM z σ h) (hd := 2) (lc := fun i2 s2 => [.ref 5000, .int (nI i2), xx_d]) (N := B) (fun i2 s2 hi2 hP2 => ⟨fun _ _ => trivial, fun kk2 kr2 => ?_⟩) B 0 () (by omega) (trivial) (fun sN2 eN2 hP2 => ?_) (fun r2 eN2 => ?_)
  · refine sw_iload_n O (xx_dt dd_X14_isSoundNow 2 rfl) rfl ?_
    refine sw_aload_n O (xx_dt dd_X14_isSoundNow 3 rfl) rfl ?_
    refine sw_get (v := .ref 5002) O (xx_dt dd_X14_isSoundNow 4 rfl) cl_X14 fl_X14_27 (lm_modC (σ := σ) (fl1 hf5)) (by decide) rfl ?_
    refine sw_callVL (ci := 6) (as := []) (st := [.int (nI i2)]) (st2 := [.int (nI B), .int (nI i2)]) O (ct_AL_size hl (lm_5002 (σ := σ) (B := B) hB (by omega))) ce_Jx4a65c_size_8abf5 ml_X14_57 iv_Jx4a65c_size_8abf5 cl_Jx4a65c rfl (lm_5002 (σ := σ) (B := B) hB (by omega)) (xx_dt dd_X14_isSoundNow 5 rfl) (by decide) rfl rfl (Nat.le_of_ble_eq_true rfl) rfl ?_
    refine sw_icmp_ge (tgt := 126) O (xx_dt dd_X14_isSoundNow 6 rfl) (by decide) (fun q1 => ?_) (fun q1 => ?_)
    · exact absurd q1 (nI_ge (b := B) hi2 (by omega))
    · refine sw_aload_n O (xx_dt dd_X14_isSoundNow 7 rfl) rfl ?_
      refine sw_iload_n O (xx_dt dd_X14_isSoundNow 8 rfl) rfl ?_
      refine sw_iconst (x := 1) O (xx_dt dd_X14_isSoundNow 9 rfl) (by decide) ?_
      refine sw_callVx (as := [.int (nI i2), .int 1]) (st := []) (st2 := [.int (f_MofBidderNow σ i2 R B pk g 1)]) O ((show XEx _ _ _ _ _ [_, _, .int 1] _ _ _ from ct_X14_ofBidderNow hl (z := z) (σ := σ) hbs (R := R) hR (by omega) (B := B) hB (by omega) (pk := pk) hpk (i := i2) (by omega) hfl (g := g) hg (by omega) (w := w) hw (by omega) (v := 1) (by omega))) ce_X14_ofBidderNow ml_X14_311 iv_X14_ofBidderNow cl_X14 rfl (lm_modC (σ := σ) (fl1 hf5)) (xx_dt dd_X14_isSoundNow 10 rfl) (by decide) rfl rfl (Nat.le_of_ble_eq_true rfl) rfl ?_
      refine sw_if_ge (tgt := 24) O (xx_dt dd_X14_isSoundNow 11 rfl) (by decide) (fun q2 => ?_) (fun q2 => ?_)
      · refine sw_iconst (x := 0) O (xx_dt dd_X14_isSoundNow 14 rfl) (by decide) ?_
        refine sw_istore_n (ls2 := [.ref 5000, .int (nI i2), .int 0]) O (xx_dt dd_X14_isSoundNow 15 rfl) (by decide) rfl ?_
        refine sw_forR (S := Unit) (R := Int32) (fun i26 s26 => (if (f_of (f_MheldCode_c σ i2 g) i26) ≤ (nI (sp i26)) then .inl () else .inr 0)) (fun _ _ => True) (FR := fun r9 => f_MisSound_c σ R B K C pk g tn sp = r9) (hp := fun _ => setM z σ h) (hd := 26) (lc := fun i26 s26 => [.ref 5000, .int (nI i2), .int (nI i26)]) (N := R) (fun i26 s26 hi26 hP26 => ⟨fun _ _ => trivial, fun kk26 kr26 => ?_⟩) R 0 () (by omega) (trivial) (fun sN26 eN26 hP26 => ?_) (fun r26 eN26 => ?_)
        · refine sw_iload_n O (xx_dt dd_X14_isSoundNow 16 rfl) rfl ?_
          refine sw_aload_n O (xx_dt dd_X14_isSoundNow 17 rfl) rfl ?_
          refine sw_get (v := .ref 5001) O (xx_dt dd_X14_isSoundNow 18 rfl) cl_X14 fl_X14_23 (lm_modC (σ := σ) (fl1 hf5)) (by decide) rfl ?_
          refine sw_callVL (ci := 6) (as := []) (st := [.int (nI i26)]) (st2 := [.int (nI R), .int (nI i26)]) O (ct_AL_size hl (lm_5001 (σ := σ) (R := R) hR (by omega))) ce_Jx4a65c_size_8abf5 ml_X14_57 iv_Jx4a65c_size_8abf5 cl_Jx4a65c rfl (lm_5001 (σ := σ) (R := R) hR (by omega)) (xx_dt dd_X14_isSoundNow 19 rfl) (by decide) rfl rfl (Nat.le_of_ble_eq_true rfl) rfl ?_
          refine sw_icmp_ge (tgt := 71) O (xx_dt dd_X14_isSoundNow 20 rfl) (by decide) (fun q3 => ?_) (fun q3 => ?_)
          · exact absurd q3 (nI_ge (b := R) hi26 (by omega))
          · refine sw_aload_n O (xx_dt dd_X14_isSoundNow 21 rfl) rfl ?_
            refine sw_iload_n O (xx_dt dd_X14_isSoundNow 22 rfl) rfl ?_
            refine sw_callVx (as := [.int (nI i2)]) (st := []) (st2 := [.int (f_MheldCode_c σ i2 g)]) O (ct_MheldCode_c hl (z := z) (σ := σ) hbs (i := i2) (by omega) hf hf5 (g := g) hg (by omega) (w := w) hw (by omega)) ce_X14_heldCode ml_X14_302 iv_X14_heldCode cl_X14 rfl (lm_modC (σ := σ) (fl1 hf5)) (xx_dt dd_X14_isSoundNow 23 rfl) (by decide) rfl rfl (Nat.le_of_ble_eq_true rfl) rfl ?_
            refine sw_iload_n O (xx_dt dd_X14_isSoundNow 24 rfl) rfl ?_
            refine sw_callSx (as := [.int (f_MheldCode_c σ i2 g), .int (nI i26)]) (st := []) (st2 := [.int (f_of (f_MheldCode_c σ i2 g) i26)]) O (ct_X14_of hl (c := f_MheldCode_c σ i2 g) (r := i26) (by omega)) ce_X14_of ml_X14_53 st_X14_of (xx_dt dd_X14_isSoundNow 25 rfl) (by decide) rfl rfl (Nat.le_of_ble_eq_true rfl) rfl ?_
            refine sw_aload_n O (xx_dt dd_X14_isSoundNow 26 rfl) rfl ?_
            refine sw_get (v := .ref 5001) O (xx_dt dd_X14_isSoundNow 27 rfl) cl_X14 fl_X14_23 (lm_modC (σ := σ) (fl1 hf5)) (by decide) rfl ?_
            refine sw_iload_n O (xx_dt dd_X14_isSoundNow 28 rfl) rfl ?_
            refine sw_callVL (ci := 6) (as := [.int (nI i26)]) (st := [.int (f_of (f_MheldCode_c σ i2 g) i26)]) (st2 := [.ref (5010 + i26), .int (f_of (f_MheldCode_c σ i2 g) i26)]) O (ct_get hl hbs (lm_5001 (σ := σ) (R := R) hR (by omega)) (by omega) (i := i26) (x := 5010 + i26) (by omega) (by omega) rfl) ce_Jx4a65c_get_915e3 ml_X14_61 iv_Jx4a65c_get_915e3 cl_Jx4a65c rfl (lm_5001 (σ := σ) (R := R) hR (by omega)) (xx_dt dd_X14_isSoundNow 29 rfl) (by decide) rfl rfl (Nat.le_of_ble_eq_true rfl) rfl ?_
            refine sw_castO O (xx_dt dd_X14_isSoundNow 30 rfl) cl_X12 (lm_reg (σ := σ) (R := R) hR (by omega) (j := i26) (by omega)) cw_X14_65 ?_
            have hz57 := (hsp i26 (by omega)).2
            refine sw_get (v := .int (nI (sp i26))) O (xx_dt dd_X14_isSoundNow 31 rfl) cl_X12 fl_X14_81 (lm_reg (σ := σ) (R := R) hR (by omega) (j := i26) (by omega)) (by decide) (congrArg Value.int (hsp i26 (by omega)).1) ?_
            refine sw_icmp_le (tgt := 65) O (xx_dt dd_X14_isSoundNow 32 rfl) (by decide) (fun q4 => ?_) (fun q4 => ?_)
            · refine sw_iinc (y := nI (i26 + 1)) (ls2 := [.ref 5000, .int (nI i2), .int (nI (i26 + 1))]) O (xx_dt dd_X14_isSoundNow 35 rfl) rfl (nI_1 _) (by decide) rfl ?_
              refine sw_goto (tgt := 26) O (xx_dt dd_X14_isSoundNow 36 rfl) (by decide) ?_
              exact kk26 () (by simp only [if_pos q4])
            · refine sw_iconst (x := 0) O (xx_dt dd_X14_isSoundNow 33 rfl) (by decide) ?_
              exact sw_iret O (xx_dt dd_X14_isSoundNow 34 rfl) rfl rfl (by rw [hQ, kr26 0 (by simp only [if_neg q4])]; exact ⟨rfl, rfl⟩)
        · show SW Y _ _ (setM z σ h) 26 [.ref 5000, .int (nI i2), .int (nI R)] []
          refine sw_iload_n O (xx_dt dd_X14_isSoundNow 16 rfl) rfl ?_
          refine sw_aload_n O (xx_dt dd_X14_isSoundNow 17 rfl) rfl ?_
          refine sw_get (v := .ref 5001) O (xx_dt dd_X14_isSoundNow 18 rfl) cl_X14 fl_X14_23 (lm_modC (σ := σ) (fl1 hf5)) (by decide) rfl ?_
          refine sw_callVL (ci := 6) (as := []) (st := [.int (nI R)]) (st2 := [.int (nI R), .int (nI R)]) O (ct_AL_size hl (lm_5001 (σ := σ) (R := R) hR (by omega))) ce_Jx4a65c_size_8abf5 ml_X14_57 iv_Jx4a65c_size_8abf5 cl_Jx4a65c rfl (lm_5001 (σ := σ) (R := R) hR (by omega)) (xx_dt dd_X14_isSoundNow 19 rfl) (by decide) rfl rfl (Nat.le_of_ble_eq_true rfl) rfl ?_
          refine sw_icmp_ge (tgt := 71) O (xx_dt dd_X14_isSoundNow 20 rfl) (by decide) (fun q3 => ?_) (fun q3 => ?_)
          · refine sw_aload_n O (xx_dt dd_X14_isSoundNow 37 rfl) rfl ?_
            refine sw_get (v := .int (σ 5000 1)) O (xx_dt dd_X14_isSoundNow 38 rfl) cl_X14 fl_X14_77 (lm_modC (σ := σ) (fl1 hf5)) (by decide) rfl ?_
            refine sw_iconst (x := 3) O (xx_dt dd_X14_isSoundNow 39 rfl) (by decide) ?_
            refine sw_icmp_ne (tgt := 120) O (xx_dt dd_X14_isSoundNow 40 rfl) (by decide) (fun q5 => ?_) (fun q5 => ?_)
            · refine sw_iinc (y := nI (i2 + 1)) (ls2 := [.ref 5000, .int (nI (i2 + 1)), .int (nI R)]) O (xx_dt dd_X14_isSoundNow 64 rfl) rfl (nI_1 _) (by decide) rfl ?_
              refine sw_goto (tgt := 2) O (xx_dt dd_X14_isSoundNow 65 rfl) (by decide) ?_
              refine sw_dum (ls2 := [.ref 5000, .int (nI (i2 + 1)), xx_d]) ⟨.inr rfl, .inr rfl, .inl rfl, trivial⟩ ?_
              exact kk2 () (by simp only [if_pos q2, if_neg q5, x_MisSound_c_26, eN26])
            · refine sw_aload_n O (xx_dt dd_X14_isSoundNow 41 rfl) rfl ?_
              refine sw_get (v := .ref 5005) O (xx_dt dd_X14_isSoundNow 42 rfl) cl_X14 fl_X14_36 (lm_modC (σ := σ) (fl1 hf5)) (by decide) rfl ?_
              refine sw_iload_n O (xx_dt dd_X14_isSoundNow 43 rfl) rfl ?_
              refine sw_iaload (v := .int (σ 5005 i2)) O (xx_dt dd_X14_isSoundNow 44 rfl) ((im_5005 (z := z) (σ := σ)).get _) (pk_in i2 _ (by omega)) (by rw [nI_clamp (by omega)]; try exact rfl) ?_
              refine sw_iconst (x := (-1)) O (xx_dt dd_X14_isSoundNow 45 rfl) (by decide) ?_
              refine sw_icmp_eq (tgt := 120) O (xx_dt dd_X14_isSoundNow 46 rfl) (by decide) (fun q6 => ?_) (fun q6 => ?_)
              · refine sw_iinc (y := nI (i2 + 1)) (ls2 := [.ref 5000, .int (nI (i2 + 1)), .int (nI R)]) O (xx_dt dd_X14_isSoundNow 64 rfl) rfl (nI_1 _) (by decide) rfl ?_
                refine sw_goto (tgt := 2) O (xx_dt dd_X14_isSoundNow 65 rfl) (by decide) ?_
                refine sw_dum (ls2 := [.ref 5000, .int (nI (i2 + 1)), xx_d]) ⟨.inr rfl, .inr rfl, .inl rfl, trivial⟩ ?_
                exact kk2 () (by simp only [if_pos q2, if_pos q5, if_pos q6, x_MisSound_c_26, eN26])
              · have hc86 := (kept_nat (hkp q5 _ (by omega)) q6 (by have := (hpk i2 (by omega)).2; omega))
                have hd86 := hc86.2
                refine sw_aload_n O (xx_dt dd_X14_isSoundNow 47 rfl) rfl ?_
                refine sw_get (v := .ref 5006) O (xx_dt dd_X14_isSoundNow 48 rfl) cl_X14 fl_X14_40 (lm_modC (σ := σ) (fl1 hf5)) (by decide) rfl ?_
                refine sw_iload_n O (xx_dt dd_X14_isSoundNow 49 rfl) rfl ?_
                refine sw_iaload (v := .int (σ 5006 i2)) O (xx_dt dd_X14_isSoundNow 50 rfl) ((im_5006 (z := z) (σ := σ)).get _) (pk_in i2 _ (by omega)) (by rw [nI_clamp (by omega)]; try exact rfl) ?_
                refine sw_aload_n O (xx_dt dd_X14_isSoundNow 51 rfl) rfl ?_
                refine sw_get (v := .ref 5002) O (xx_dt dd_X14_isSoundNow 52 rfl) cl_X14 fl_X14_27 (lm_modC (σ := σ) (fl1 hf5)) (by decide) rfl ?_
                refine sw_iload_n O (xx_dt dd_X14_isSoundNow 53 rfl) rfl ?_
                refine sw_callVL (ci := 6) (as := [.int (nI i2)]) (st := [.int (σ 5006 i2)]) (st2 := [.ref (5020 + i2), .int (σ 5006 i2)]) O (ct_get hl hbs (lm_5002 (σ := σ) (B := B) hB (by omega)) (by omega) (i := i2) (x := 5020 + i2) (by omega) (by omega) rfl) ce_Jx4a65c_get_915e3 ml_X14_61 iv_Jx4a65c_get_915e3 cl_Jx4a65c rfl (lm_5002 (σ := σ) (B := B) hB (by omega)) (xx_dt dd_X14_isSoundNow 54 rfl) (by decide) rfl rfl (Nat.le_of_ble_eq_true rfl) rfl ?_
                refine sw_castO O (xx_dt dd_X14_isSoundNow 55 rfl) cl_X9 (lm_bid (σ := σ) (B := B) hB (by omega) (j := i2) (by omega)) cw_X14_118 ?_
                refine sw_aload_n O (xx_dt dd_X14_isSoundNow 56 rfl) rfl ?_
                refine sw_get (v := .ref 5005) O (xx_dt dd_X14_isSoundNow 57 rfl) cl_X14 fl_X14_36 (lm_modC (σ := σ) (fl1 hf5)) (by decide) rfl ?_
                refine sw_iload_n O (xx_dt dd_X14_isSoundNow 58 rfl) rfl ?_
                refine sw_iaload (v := .int (nI (cn (σ 5005 i2)))) O (xx_dt dd_X14_isSoundNow 59 rfl) ((im_5005 (z := z) (σ := σ)).get _) (pk_in i2 _ (by omega)) (by rw [nI_clamp (by omega)]; exact (congrArg Value.int hc86.1)) ?_
                refine sw_callVx (as := [.int (nI (cn (σ 5005 i2)))]) (st := [.int (σ 5006 i2)]) (st2 := [.int (f_Bamount σ i2 (cn (σ 5005 i2))), .int (σ 5006 i2)]) O (ct_X9_amount hl (z := z) (σ := σ) hbs (B := B) hB (by omega) (j := i2) (by omega) (p := pk i2) (hpk i2 (by omega)).1 (by have h9 := (hpk i2 (by omega)).2; omega) (k := cn (σ 5005 i2)) (by first | omega | (have h9 := (hpk i2 (by omega)).2; omega))) ce_X9_amount ml_X14_252 iv_X9_amount cl_X9 rfl (lm_bid (σ := σ) (B := B) hB (by omega) (j := i2) (by omega)) (xx_dt dd_X14_isSoundNow 60 rfl) (by decide) rfl rfl (Nat.le_of_ble_eq_true rfl) rfl ?_
                refine sw_icmp_le (tgt := 120) O (xx_dt dd_X14_isSoundNow 61 rfl) (by decide) (fun q7 => ?_) (fun q7 => ?_)
                · refine sw_iinc (y := nI (i2 + 1)) (ls2 := [.ref 5000, .int (nI (i2 + 1)), .int (nI R)]) O (xx_dt dd_X14_isSoundNow 64 rfl) rfl (nI_1 _) (by decide) rfl ?_
                  refine sw_goto (tgt := 2) O (xx_dt dd_X14_isSoundNow 65 rfl) (by decide) ?_
                  refine sw_dum (ls2 := [.ref 5000, .int (nI (i2 + 1)), xx_d]) ⟨.inr rfl, .inr rfl, .inl rfl, trivial⟩ ?_
                  exact kk2 () (by simp only [if_pos q2, if_pos q5, if_neg q6, if_pos q7, x_MisSound_c_26, eN26])
                · refine sw_iconst (x := 0) O (xx_dt dd_X14_isSoundNow 62 rfl) (by decide) ?_
                  exact sw_iret O (xx_dt dd_X14_isSoundNow 63 rfl) rfl rfl (by rw [hQ, kr2 0 (by simp only [if_pos q2, if_pos q5, if_neg q6, if_neg q7, x_MisSound_c_26, eN26])]; exact ⟨rfl, rfl⟩)
          · exact absurd (Int32.le_refl _) q3
        · exact kr2 r26 (by simp only [if_pos q2, x_MisSound_c_26, eN26])
      · refine sw_iconst (x := 0) O (xx_dt dd_X14_isSoundNow 12 rfl) (by decide) ?_
        exact sw_iret O (xx_dt dd_X14_isSoundNow 13 rfl) rfl rfl (by rw [hQ, kr2 0 (by simp only [if_neg q2])]; exact ⟨rfl, rfl⟩)
  · show SW Y _ _ (setM z σ h) 2 [.ref 5000, .int (nI B), xx_d] []
    refine sw_iload_n O (xx_dt dd_X14_isSoundNow 2 rfl) rfl ?_
    refine sw_aload_n O (xx_dt dd_X14_isSoundNow 3 rfl) rfl ?_
    refine sw_get (v := .ref 5002) O (xx_dt dd_X14_isSoundNow 4 rfl) cl_X14 fl_X14_27 (lm_modC (σ := σ) (fl1 hf5)) (by decide) rfl ?_
    refine sw_callVL (ci := 6) (as := []) (st := [.int (nI B)]) (st2 := [.int (nI B), .int (nI B)]) O (ct_AL_size hl (lm_5002 (σ := σ) (B := B) hB (by omega))) ce_Jx4a65c_size_8abf5 ml_X14_57 iv_Jx4a65c_size_8abf5 cl_Jx4a65c rfl (lm_5002 (σ := σ) (B := B) hB (by omega)) (xx_dt dd_X14_isSoundNow 5 rfl) (by decide) rfl rfl (Nat.le_of_ble_eq_true rfl) rfl ?_
    refine sw_icmp_ge (tgt := 126) O (xx_dt dd_X14_isSoundNow 6 rfl) (by decide) (fun q1 => ?_) (fun q1 => ?_)
    · refine sw_iconst (x := 0) O (xx_dt dd_X14_isSoundNow 66 rfl) (by decide) ?_
      refine sw_istore_n (ls2 := [.ref 5000, .int 0, xx_d]) O (xx_dt dd_X14_isSoundNow 67 rfl) (by decide) rfl ?_
      refine sw_forR (S := Unit) (R := Int32) (fun i128 s128 => (if (σ (5010 + i128) 2) ≤ (f_MofRegionNow σ i128 R B C g 3) then .inl () else .inr 0)) (fun _ _ => True) (FR := fun r9 => f_MisSound_c σ R B K C pk g tn sp = r9) (hp := fun _ => setM z σ h) (hd := 128) (lc := fun i128 s128 => [.ref 5000, .int (nI i128), xx_d]) (N := R) (fun i128 s128 hi128 hP128 => ⟨fun _ _ => trivial, fun kk128 kr128 => ?_⟩) R 0 () (by omega) (trivial) (fun sN128 eN128 hP128 => ?_) (fun r128 eN128 => ?_)
      · refine sw_iload_n O (xx_dt dd_X14_isSoundNow 68 rfl) rfl ?_
        refine sw_aload_n O (xx_dt dd_X14_isSoundNow 69 rfl) rfl ?_
        refine sw_get (v := .ref 5001) O (xx_dt dd_X14_isSoundNow 70 rfl) cl_X14 fl_X14_23 (lm_modC (σ := σ) (fl1 hf5)) (by decide) rfl ?_
        refine sw_callVL (ci := 6) (as := []) (st := [.int (nI i128)]) (st2 := [.int (nI R), .int (nI i128)]) O (ct_AL_size hl (lm_5001 (σ := σ) (R := R) hR (by omega))) ce_Jx4a65c_size_8abf5 ml_X14_57 iv_Jx4a65c_size_8abf5 cl_Jx4a65c rfl (lm_5001 (σ := σ) (R := R) hR (by omega)) (xx_dt dd_X14_isSoundNow 71 rfl) (by decide) rfl rfl (Nat.le_of_ble_eq_true rfl) rfl ?_
        refine sw_icmp_ge (tgt := 170) O (xx_dt dd_X14_isSoundNow 72 rfl) (by decide) (fun q8 => ?_) (fun q8 => ?_)
        · exact absurd q8 (nI_ge (b := R) hi128 (by omega))
        · refine sw_aload_n O (xx_dt dd_X14_isSoundNow 73 rfl) rfl ?_
          refine sw_iload_n O (xx_dt dd_X14_isSoundNow 74 rfl) rfl ?_
          refine sw_iconst (x := 3) O (xx_dt dd_X14_isSoundNow 75 rfl) (by decide) ?_
          refine sw_callVx (as := [.int (nI i128), .int 3]) (st := []) (st2 := [.int (f_MofRegionNow σ i128 R B C g 3)]) O ((show XEx _ _ _ _ _ [_, _, .int 3] _ _ _ from ct_X14_ofRegionNow hl (z := z) (σ := σ) hbs (R := R) hR (by omega) (B := B) hB (by omega) (C := C) hS (by omega) (r := i128) (by omega) hfl (g := g) hg (by omega) (w := w) hw (by omega) (v := 3) (by omega))) ce_X14_ofRegionNow ml_X14_299 iv_X14_ofRegionNow cl_X14 rfl (lm_modC (σ := σ) (fl1 hf5)) (xx_dt dd_X14_isSoundNow 76 rfl) (by decide) rfl rfl (Nat.le_of_ble_eq_true rfl) rfl ?_
          refine sw_aload_n O (xx_dt dd_X14_isSoundNow 77 rfl) rfl ?_
          refine sw_get (v := .ref 5001) O (xx_dt dd_X14_isSoundNow 78 rfl) cl_X14 fl_X14_23 (lm_modC (σ := σ) (fl1 hf5)) (by decide) rfl ?_
          refine sw_iload_n O (xx_dt dd_X14_isSoundNow 79 rfl) rfl ?_
          refine sw_callVL (ci := 6) (as := [.int (nI i128)]) (st := [.int (f_MofRegionNow σ i128 R B C g 3)]) (st2 := [.ref (5010 + i128), .int (f_MofRegionNow σ i128 R B C g 3)]) O (ct_get hl hbs (lm_5001 (σ := σ) (R := R) hR (by omega)) (by omega) (i := i128) (x := 5010 + i128) (by omega) (by omega) rfl) ce_Jx4a65c_get_915e3 ml_X14_61 iv_Jx4a65c_get_915e3 cl_Jx4a65c rfl (lm_5001 (σ := σ) (R := R) hR (by omega)) (xx_dt dd_X14_isSoundNow 80 rfl) (by decide) rfl rfl (Nat.le_of_ble_eq_true rfl) rfl ?_
          refine sw_castO O (xx_dt dd_X14_isSoundNow 81 rfl) cl_X12 (lm_reg (σ := σ) (R := R) hR (by omega) (j := i128) (by omega)) cw_X14_65 ?_
          refine sw_get (v := .int (σ (5010 + i128) 2)) O (xx_dt dd_X14_isSoundNow 82 rfl) cl_X12 fl_X14_84 (lm_reg (σ := σ) (R := R) hR (by omega) (j := i128) (by omega)) (by decide) rfl ?_
          refine sw_icmp_ge (tgt := 164) O (xx_dt dd_X14_isSoundNow 83 rfl) (by decide) (fun q9 => ?_) (fun q9 => ?_)
          · refine sw_iinc (y := nI (i128 + 1)) (ls2 := [.ref 5000, .int (nI (i128 + 1)), xx_d]) O (xx_dt dd_X14_isSoundNow 86 rfl) rfl (nI_1 _) (by decide) rfl ?_
            refine sw_goto (tgt := 128) O (xx_dt dd_X14_isSoundNow 87 rfl) (by decide) ?_
            exact kk128 () (by simp only [if_pos q9])
          · refine sw_iconst (x := 0) O (xx_dt dd_X14_isSoundNow 84 rfl) (by decide) ?_
            exact sw_iret O (xx_dt dd_X14_isSoundNow 85 rfl) rfl rfl (by rw [hQ, kr128 0 (by simp only [if_neg q9])]; exact ⟨rfl, rfl⟩)
      · show SW Y _ _ (setM z σ h) 128 [.ref 5000, .int (nI R), xx_d] []
        refine sw_iload_n O (xx_dt dd_X14_isSoundNow 68 rfl) rfl ?_
        refine sw_aload_n O (xx_dt dd_X14_isSoundNow 69 rfl) rfl ?_
        refine sw_get (v := .ref 5001) O (xx_dt dd_X14_isSoundNow 70 rfl) cl_X14 fl_X14_23 (lm_modC (σ := σ) (fl1 hf5)) (by decide) rfl ?_
        refine sw_callVL (ci := 6) (as := []) (st := [.int (nI R)]) (st2 := [.int (nI R), .int (nI R)]) O (ct_AL_size hl (lm_5001 (σ := σ) (R := R) hR (by omega))) ce_Jx4a65c_size_8abf5 ml_X14_57 iv_Jx4a65c_size_8abf5 cl_Jx4a65c rfl (lm_5001 (σ := σ) (R := R) hR (by omega)) (xx_dt dd_X14_isSoundNow 71 rfl) (by decide) rfl rfl (Nat.le_of_ble_eq_true rfl) rfl ?_
        refine sw_icmp_ge (tgt := 170) O (xx_dt dd_X14_isSoundNow 72 rfl) (by decide) (fun q8 => ?_) (fun q8 => ?_)
        · refine sw_aload_n O (xx_dt dd_X14_isSoundNow 88 rfl) rfl ?_
          refine sw_get (v := .int (σ 5000 1)) O (xx_dt dd_X14_isSoundNow 89 rfl) cl_X14 fl_X14_77 (lm_modC (σ := σ) (fl1 hf5)) (by decide) rfl ?_
          refine sw_iconst (x := 3) O (xx_dt dd_X14_isSoundNow 90 rfl) (by decide) ?_
          refine sw_icmp_ne (tgt := 187) O (xx_dt dd_X14_isSoundNow 91 rfl) (by decide) (fun q10 => ?_) (fun q10 => ?_)
          · refine sw_aload_n O (xx_dt dd_X14_isSoundNow 97 rfl) rfl ?_
            refine sw_get (v := .ref 7000) O (xx_dt dd_X14_isSoundNow 98 rfl) cl_X14 fl_X14_141 (lm_modC (σ := σ) (fl1 hf5)) (by decide) rfl ?_
            refine sw_ifnull O (xx_dt dd_X14_isSoundNow 99 rfl) ?_
            refine sw_aload_n O (xx_dt dd_X14_isSoundNow 100 rfl) rfl ?_
            refine sw_callVx (as := []) (st := []) (st2 := [.int (f_MisLogged σ R B K)]) O (ct_isLogged hl (z := z) (σ := σ) hbs hfr hme hR hR5 hB hB6 hK hK60 hf hf5 hg hg1 hw hw1 ha) ce_X14_isLogged ml_X14_397 iv_X14_isLogged cl_X14 rfl (lm_modC (σ := σ) (fl1 hf5)) (xx_dt dd_X14_isSoundNow 101 rfl) (by decide) rfl rfl (Nat.le_of_ble_eq_true rfl) rfl ?_
            refine sw_if_eq (tgt := 205) O (xx_dt dd_X14_isSoundNow 102 rfl) (by decide) (fun q11 => ?_) (fun q11 => ?_)
            · refine sw_iconst (x := 0) O (xx_dt dd_X14_isSoundNow 105 rfl) (by decide) ?_
              exact sw_iret O (xx_dt dd_X14_isSoundNow 106 rfl) rfl rfl (by rw [hQ]; exact ⟨by unfold f_MisSound_c; simp only [if_neg q10, if_pos q11, show x_MisSound_c_2 σ R B K C pk g tn sp () = .inl sN2 from eN2, show x_MisSound_c_128 σ R B K C pk g tn sp () = .inl sN128 from eN128], rfl⟩)
            · refine sw_iconst (x := 1) O (xx_dt dd_X14_isSoundNow 103 rfl) (by decide) ?_
              refine sw_goto (tgt := 206) O (xx_dt dd_X14_isSoundNow 104 rfl) (by decide) ?_
              exact sw_iret O (xx_dt dd_X14_isSoundNow 106 rfl) rfl rfl (by rw [hQ]; exact ⟨by unfold f_MisSound_c; simp only [if_neg q10, if_neg q11, show x_MisSound_c_2 σ R B K C pk g tn sp () = .inl sN2 from eN2, show x_MisSound_c_128 σ R B K C pk g tn sp () = .inl sN128 from eN128], rfl⟩)
          · refine sw_aload_n O (xx_dt dd_X14_isSoundNow 92 rfl) rfl ?_
            refine sw_callVx (as := []) (st := []) (st2 := [.int (f_MareNamed σ R B sp tn pk)]) O (ct_X14_areNamed hl (z := z) (σ := σ) hbs hfr hme hR hR5 hB hB6 hpk (hkp q10) htn hsp hho) ce_X14_areNamed ml_X14_394 iv_X14_areNamed cl_X14 rfl (lm_modC (σ := σ) (fl1 hf5)) (xx_dt dd_X14_isSoundNow 93 rfl) (by decide) rfl rfl (Nat.le_of_ble_eq_true rfl) rfl ?_
            refine sw_if_ne (tgt := 187) O (xx_dt dd_X14_isSoundNow 94 rfl) (by decide) (fun q12 => ?_) (fun q12 => ?_)
            · refine sw_aload_n O (xx_dt dd_X14_isSoundNow 97 rfl) rfl ?_
              refine sw_get (v := .ref 7000) O (xx_dt dd_X14_isSoundNow 98 rfl) cl_X14 fl_X14_141 (lm_modC (σ := σ) (fl1 hf5)) (by decide) rfl ?_
              refine sw_ifnull O (xx_dt dd_X14_isSoundNow 99 rfl) ?_
              refine sw_aload_n O (xx_dt dd_X14_isSoundNow 100 rfl) rfl ?_
              refine sw_callVx (as := []) (st := []) (st2 := [.int (f_MisLogged σ R B K)]) O (ct_isLogged hl (z := z) (σ := σ) hbs hfr hme hR hR5 hB hB6 hK hK60 hf hf5 hg hg1 hw hw1 ha) ce_X14_isLogged ml_X14_397 iv_X14_isLogged cl_X14 rfl (lm_modC (σ := σ) (fl1 hf5)) (xx_dt dd_X14_isSoundNow 101 rfl) (by decide) rfl rfl (Nat.le_of_ble_eq_true rfl) rfl ?_
              refine sw_if_eq (tgt := 205) O (xx_dt dd_X14_isSoundNow 102 rfl) (by decide) (fun q13 => ?_) (fun q13 => ?_)
              · refine sw_iconst (x := 0) O (xx_dt dd_X14_isSoundNow 105 rfl) (by decide) ?_
                exact sw_iret O (xx_dt dd_X14_isSoundNow 106 rfl) rfl rfl (by rw [hQ]; exact ⟨by unfold f_MisSound_c; simp only [if_pos q10, if_neg q12, if_pos q13, show x_MisSound_c_2 σ R B K C pk g tn sp () = .inl sN2 from eN2, show x_MisSound_c_128 σ R B K C pk g tn sp () = .inl sN128 from eN128], rfl⟩)
              · refine sw_iconst (x := 1) O (xx_dt dd_X14_isSoundNow 103 rfl) (by decide) ?_
                refine sw_goto (tgt := 206) O (xx_dt dd_X14_isSoundNow 104 rfl) (by decide) ?_
                exact sw_iret O (xx_dt dd_X14_isSoundNow 106 rfl) rfl rfl (by rw [hQ]; exact ⟨by unfold f_MisSound_c; simp only [if_pos q10, if_neg q12, if_neg q13, show x_MisSound_c_2 σ R B K C pk g tn sp () = .inl sN2 from eN2, show x_MisSound_c_128 σ R B K C pk g tn sp () = .inl sN128 from eN128], rfl⟩)
            · refine sw_iconst (x := 0) O (xx_dt dd_X14_isSoundNow 95 rfl) (by decide) ?_
              exact sw_iret O (xx_dt dd_X14_isSoundNow 96 rfl) rfl rfl (by rw [hQ]; exact ⟨by unfold f_MisSound_c; simp only [if_pos q10, if_pos q12, show x_MisSound_c_2 σ R B K C pk g tn sp () = .inl sN2 from eN2, show x_MisSound_c_128 σ R B K C pk g tn sp () = .inl sN128 from eN128], rfl⟩)
        · exact absurd (Int32.le_refl _) q8
      · unfold f_MisSound_c; simp only [x_MisSound_c_128, show x_MisSound_c_2 σ R B K C pk g tn sp () = .inl sN2 from eN2, eN128]
    · exact absurd (Int32.le_refl _) q1
  · unfold f_MisSound_c; simp only [x_MisSound_c_2, eN2]
def x_MisSound_n_26 (σ : XS9) (R B K C : Nat) (pk : Nat → Nat) (g : Nat) (tn sp : Nat → Nat) (i2 : Nat) (s0 : Unit) : Unit ⊕ Int32 := xitR (fun i26 s26 => (if (f_of (f_MheldCode_n σ i2) i26) ≤ (nI (sp i26)) then .inl () else .inr 0)) R 0 s0
def x_MisSound_n_2 (σ : XS9) (R B K C : Nat) (pk : Nat → Nat) (g : Nat) (tn sp : Nat → Nat) (s0 : Unit) : Unit ⊕ Int32 := xitR (fun i2 s2 => (if 0 ≤ (f_MofBidderNow σ i2 R B pk g 1) then (match (x_MisSound_n_26 σ R B K C pk g tn sp i2 ()) with | .inl s26 => (if (σ 5000 1) = 3 then (if (σ 5005 i2) = (-1) then .inl () else (if (σ 5006 i2) ≤ (f_Bamount σ i2 (cn (σ 5005 i2))) then .inl () else .inr 0)) else .inl ()) | .inr r26 => .inr r26) else .inr 0)) B 0 s0
def x_MisSound_n_128 (σ : XS9) (R B K C : Nat) (pk : Nat → Nat) (g : Nat) (tn sp : Nat → Nat) (s0 : Unit) : Unit ⊕ Int32 := xitR (fun i128 s128 => (if (σ (5010 + i128) 2) ≤ (f_MofRegionNow σ i128 R B C g 3) then .inl () else .inr 0)) R 0 s0
def f_MisSound_n (σ : XS9) (R B K C : Nat) (pk : Nat → Nat) (g : Nat) (tn sp : Nat → Nat) : Int32 := (match (x_MisSound_n_2 σ R B K C pk g tn sp ()) with | .inl s2 => (match (x_MisSound_n_128 σ R B K C pk g tn sp ()) with | .inl s128 => (if (σ 5000 1) = 3 then (if (f_MareNamed σ R B sp tn pk) = 0 then 0 else 1) else 1) | .inr r128 => r128) | .inr r2 => r2)
theorem ct_MisSound_n {l : Launch} {h : XH} (hl : l.stackTraces = false) {z : Int64} {σ : XS9} (hbs : xx_bs h) (hfr : ∀ r, 5000 ≤ r → r < 20010 → h r = none) (hme : mem_eq σ σ) {R : Nat} (hR : σ 5001 900 = nI R) (hR5 : R ≤ 5) {B : Nat} (hB : σ 5002 900 = nI B) (hB6 : B ≤ 6) {K : Nat} (hK : σ 5003 900 = nI K) (hK60 : K ≤ 60) {C : Nat} (hS : σ 5004 900 = nI (2 * C)) (hC10 : C ≤ 10) {pk : Nat → Nat} (hpk : ∀ j, j < B → σ (5030 + j) 900 = nI (2 * pk j) ∧ pk j ≤ 6) (hkp : σ 5000 1 = 3 → ∀ j, j < B → σ 5005 j = -1 ∨ ∃ n, n < pk j ∧ σ 5005 j = nI n) {tn : Nat → Nat} (htn : ∀ r, r < 5 → σ 5007 r = nI (tn r) ∧ tn r < 6) {sp : Nat → Nat} (hsp : ∀ r, r < R → σ (5010 + r) 0 = nI (sp r) ∧ sp r ≤ 5) (hho : ∀ (s : XS9) i j, (∀ q, q ≠ 20000 → s q = σ q) → i < R → j < sp i → f_MholderNow s i (nI j) B tn = -1 ∨ n_lt (f_MholderNow s i (nI j) B tn) 6) {g : Nat} (hg : σ 7000 23 = nI g) (hg1 : g < 200) {w : Nat} (hw : σ 7000 24 = nI w) (hw1 : w < 200) (hf5 : σ 7000 25 = nI 0)  : XEx l m_X14_isSoundNow 12 495 8668 [.ref 5000] (setM z σ h) (some (.int (f_MisSound_n σ R B K C pk g tn sp))) (setM z σ h) := by
  refine XMet.of hl rfl rfl (Nat.le_of_ble_eq_true rfl) (fun Y O hh hQ => ?_)
  have hfl : σ 7000 25 = nI 0 ∨ (σ 7000 25 = nI 1 ∧ σ 7000 20 = nI 1) := .inl hf5
  show SW Y 495 8668 (setM z σ h) 0 [.ref 5000, xx_d, xx_d] []
  refine sw_iconst (x := 0) O (xx_dt dd_X14_isSoundNow 0 rfl) (by decide) ?_
  refine sw_istore_n (ls2 := [.ref 5000, .int 0, xx_d]) O (xx_dt dd_X14_isSoundNow 1 rfl) (by decide) rfl ?_
  refine sw_forR (S := Unit) (R := Int32) (fun i2 s2 => (if 0 ≤ (f_MofBidderNow σ i2 R B pk g 1) then (match (x_MisSound_n_26 σ R B K C pk g tn sp i2 ()) with | .inl s26 => (if (σ 5000 1) = 3 then (if (σ 5005 i2) = (-1) then .inl () else (if (σ 5006 i2) ≤ (f_Bamount σ i2 (cn (σ 5005 i2))) then .inl () else .inr 0)) else .inl ()) | .inr r26 => .inr r26) else .inr 0)) (fun _ _ => True) (FR := fun r9 => f_MisSound_n σ R B K C pk g tn sp = r9) (hp := fun _ => setM z σ h) (hd := 2) (lc := fun i2 s2 => [.ref 5000, .int (nI i2), xx_d]) (N := B) (fun i2 s2 hi2 hP2 => ⟨fun _ _ => trivial, fun kk2 kr2 => ?_⟩) B 0 () (by omega) (trivial) (fun sN2 eN2 hP2 => ?_) (fun r2 eN2 => ?_)
  · refine sw_iload_n O (xx_dt dd_X14_isSoundNow 2 rfl) rfl ?_
    refine sw_aload_n O (xx_dt dd_X14_isSoundNow 3 rfl) rfl ?_
    refine sw_get (v := .ref 5002) O (xx_dt dd_X14_isSoundNow 4 rfl) cl_X14 fl_X14_27 (lm_modN (σ := σ) hf5) (by decide) rfl ?_
    refine sw_callVL (ci := 6) (as := []) (st := [.int (nI i2)]) (st2 := [.int (nI B), .int (nI i2)]) O (ct_AL_size hl (lm_5002 (σ := σ) (B := B) hB (by omega))) ce_Jx4a65c_size_8abf5 ml_X14_57 iv_Jx4a65c_size_8abf5 cl_Jx4a65c rfl (lm_5002 (σ := σ) (B := B) hB (by omega)) (xx_dt dd_X14_isSoundNow 5 rfl) (by decide) rfl rfl (Nat.le_of_ble_eq_true rfl) rfl ?_
    refine sw_icmp_ge (tgt := 126) O (xx_dt dd_X14_isSoundNow 6 rfl) (by decide) (fun q1 => ?_) (fun q1 => ?_)
    · exact absurd q1 (nI_ge (b := B) hi2 (by omega))
    · refine sw_aload_n O (xx_dt dd_X14_isSoundNow 7 rfl) rfl ?_
      refine sw_iload_n O (xx_dt dd_X14_isSoundNow 8 rfl) rfl ?_
      refine sw_iconst (x := 1) O (xx_dt dd_X14_isSoundNow 9 rfl) (by decide) ?_
      refine sw_callVx (as := [.int (nI i2), .int 1]) (st := []) (st2 := [.int (f_MofBidderNow σ i2 R B pk g 1)]) O ((show XEx _ _ _ _ _ [_, _, .int 1] _ _ _ from ct_X14_ofBidderNow hl (z := z) (σ := σ) hbs (R := R) hR (by omega) (B := B) hB (by omega) (pk := pk) hpk (i := i2) (by omega) hfl (g := g) hg (by omega) (w := w) hw (by omega) (v := 1) (by omega))) ce_X14_ofBidderNow ml_X14_311 iv_X14_ofBidderNow cl_X14 rfl (lm_modN (σ := σ) hf5) (xx_dt dd_X14_isSoundNow 10 rfl) (by decide) rfl rfl (Nat.le_of_ble_eq_true rfl) rfl ?_
      refine sw_if_ge (tgt := 24) O (xx_dt dd_X14_isSoundNow 11 rfl) (by decide) (fun q2 => ?_) (fun q2 => ?_)
      · refine sw_iconst (x := 0) O (xx_dt dd_X14_isSoundNow 14 rfl) (by decide) ?_
        refine sw_istore_n (ls2 := [.ref 5000, .int (nI i2), .int 0]) O (xx_dt dd_X14_isSoundNow 15 rfl) (by decide) rfl ?_
        refine sw_forR (S := Unit) (R := Int32) (fun i26 s26 => (if (f_of (f_MheldCode_n σ i2) i26) ≤ (nI (sp i26)) then .inl () else .inr 0)) (fun _ _ => True) (FR := fun r9 => f_MisSound_n σ R B K C pk g tn sp = r9) (hp := fun _ => setM z σ h) (hd := 26) (lc := fun i26 s26 => [.ref 5000, .int (nI i2), .int (nI i26)]) (N := R) (fun i26 s26 hi26 hP26 => ⟨fun _ _ => trivial, fun kk26 kr26 => ?_⟩) R 0 () (by omega) (trivial) (fun sN26 eN26 hP26 => ?_) (fun r26 eN26 => ?_)
        · refine sw_iload_n O (xx_dt dd_X14_isSoundNow 16 rfl) rfl ?_
          refine sw_aload_n O (xx_dt dd_X14_isSoundNow 17 rfl) rfl ?_
          refine sw_get (v := .ref 5001) O (xx_dt dd_X14_isSoundNow 18 rfl) cl_X14 fl_X14_23 (lm_modN (σ := σ) hf5) (by decide) rfl ?_
          refine sw_callVL (ci := 6) (as := []) (st := [.int (nI i26)]) (st2 := [.int (nI R), .int (nI i26)]) O (ct_AL_size hl (lm_5001 (σ := σ) (R := R) hR (by omega))) ce_Jx4a65c_size_8abf5 ml_X14_57 iv_Jx4a65c_size_8abf5 cl_Jx4a65c rfl (lm_5001 (σ := σ) (R := R) hR (by omega)) (xx_dt dd_X14_isSoundNow 19 rfl) (by decide) rfl rfl (Nat.le_of_ble_eq_true rfl) rfl ?_
          refine sw_icmp_ge (tgt := 71) O (xx_dt dd_X14_isSoundNow 20 rfl) (by decide) (fun q3 => ?_) (fun q3 => ?_)
          · exact absurd q3 (nI_ge (b := R) hi26 (by omega))
          · refine sw_aload_n O (xx_dt dd_X14_isSoundNow 21 rfl) rfl ?_
            refine sw_iload_n O (xx_dt dd_X14_isSoundNow 22 rfl) rfl ?_
            refine sw_callVx (as := [.int (nI i2)]) (st := []) (st2 := [.int (f_MheldCode_n σ i2)]) O (ct_MheldCode_n hl (z := z) (σ := σ) hbs (i := i2) (by omega) hf5) ce_X14_heldCode ml_X14_302 iv_X14_heldCode cl_X14 rfl (lm_modN (σ := σ) hf5) (xx_dt dd_X14_isSoundNow 23 rfl) (by decide) rfl rfl (Nat.le_of_ble_eq_true rfl) rfl ?_
            refine sw_iload_n O (xx_dt dd_X14_isSoundNow 24 rfl) rfl ?_
            refine sw_callSx (as := [.int (f_MheldCode_n σ i2), .int (nI i26)]) (st := []) (st2 := [.int (f_of (f_MheldCode_n σ i2) i26)]) O (ct_X14_of hl (c := f_MheldCode_n σ i2) (r := i26) (by omega)) ce_X14_of ml_X14_53 st_X14_of (xx_dt dd_X14_isSoundNow 25 rfl) (by decide) rfl rfl (Nat.le_of_ble_eq_true rfl) rfl ?_
            refine sw_aload_n O (xx_dt dd_X14_isSoundNow 26 rfl) rfl ?_
            refine sw_get (v := .ref 5001) O (xx_dt dd_X14_isSoundNow 27 rfl) cl_X14 fl_X14_23 (lm_modN (σ := σ) hf5) (by decide) rfl ?_
            refine sw_iload_n O (xx_dt dd_X14_isSoundNow 28 rfl) rfl ?_
            refine sw_callVL (ci := 6) (as := [.int (nI i26)]) (st := [.int (f_of (f_MheldCode_n σ i2) i26)]) (st2 := [.ref (5010 + i26), .int (f_of (f_MheldCode_n σ i2) i26)]) O (ct_get hl hbs (lm_5001 (σ := σ) (R := R) hR (by omega)) (by omega) (i := i26) (x := 5010 + i26) (by omega) (by omega) rfl) ce_Jx4a65c_get_915e3 ml_X14_61 iv_Jx4a65c_get_915e3 cl_Jx4a65c rfl (lm_5001 (σ := σ) (R := R) hR (by omega)) (xx_dt dd_X14_isSoundNow 29 rfl) (by decide) rfl rfl (Nat.le_of_ble_eq_true rfl) rfl ?_
            refine sw_castO O (xx_dt dd_X14_isSoundNow 30 rfl) cl_X12 (lm_reg (σ := σ) (R := R) hR (by omega) (j := i26) (by omega)) cw_X14_65 ?_
            have hz57 := (hsp i26 (by omega)).2
            refine sw_get (v := .int (nI (sp i26))) O (xx_dt dd_X14_isSoundNow 31 rfl) cl_X12 fl_X14_81 (lm_reg (σ := σ) (R := R) hR (by omega) (j := i26) (by omega)) (by decide) (congrArg Value.int (hsp i26 (by omega)).1) ?_
            refine sw_icmp_le (tgt := 65) O (xx_dt dd_X14_isSoundNow 32 rfl) (by decide) (fun q4 => ?_) (fun q4 => ?_)
            · refine sw_iinc (y := nI (i26 + 1)) (ls2 := [.ref 5000, .int (nI i2), .int (nI (i26 + 1))]) O (xx_dt dd_X14_isSoundNow 35 rfl) rfl (nI_1 _) (by decide) rfl ?_
              refine sw_goto (tgt := 26) O (xx_dt dd_X14_isSoundNow 36 rfl) (by decide) ?_
              exact kk26 () (by simp only [if_pos q4])
            · refine sw_iconst (x := 0) O (xx_dt dd_X14_isSoundNow 33 rfl) (by decide) ?_
              exact sw_iret O (xx_dt dd_X14_isSoundNow 34 rfl) rfl rfl (by rw [hQ, kr26 0 (by simp only [if_neg q4])]; exact ⟨rfl, rfl⟩)
        · show SW Y _ _ (setM z σ h) 26 [.ref 5000, .int (nI i2), .int (nI R)] []
          refine sw_iload_n O (xx_dt dd_X14_isSoundNow 16 rfl) rfl ?_
          refine sw_aload_n O (xx_dt dd_X14_isSoundNow 17 rfl) rfl ?_
          refine sw_get (v := .ref 5001) O (xx_dt dd_X14_isSoundNow 18 rfl) cl_X14 fl_X14_23 (lm_modN (σ := σ) hf5) (by decide) rfl ?_
          refine sw_callVL (ci := 6) (as := []) (st := [.int (nI R)]) (st2 := [.int (nI R), .int (nI R)]) O (ct_AL_size hl (lm_5001 (σ := σ) (R := R) hR (by omega))) ce_Jx4a65c_size_8abf5 ml_X14_57 iv_Jx4a65c_size_8abf5 cl_Jx4a65c rfl (lm_5001 (σ := σ) (R := R) hR (by omega)) (xx_dt dd_X14_isSoundNow 19 rfl) (by decide) rfl rfl (Nat.le_of_ble_eq_true rfl) rfl ?_
          refine sw_icmp_ge (tgt := 71) O (xx_dt dd_X14_isSoundNow 20 rfl) (by decide) (fun q3 => ?_) (fun q3 => ?_)
          · refine sw_aload_n O (xx_dt dd_X14_isSoundNow 37 rfl) rfl ?_
            refine sw_get (v := .int (σ 5000 1)) O (xx_dt dd_X14_isSoundNow 38 rfl) cl_X14 fl_X14_77 (lm_modN (σ := σ) hf5) (by decide) rfl ?_
            refine sw_iconst (x := 3) O (xx_dt dd_X14_isSoundNow 39 rfl) (by decide) ?_
            refine sw_icmp_ne (tgt := 120) O (xx_dt dd_X14_isSoundNow 40 rfl) (by decide) (fun q5 => ?_) (fun q5 => ?_)
            · refine sw_iinc (y := nI (i2 + 1)) (ls2 := [.ref 5000, .int (nI (i2 + 1)), .int (nI R)]) O (xx_dt dd_X14_isSoundNow 64 rfl) rfl (nI_1 _) (by decide) rfl ?_
              refine sw_goto (tgt := 2) O (xx_dt dd_X14_isSoundNow 65 rfl) (by decide) ?_
              refine sw_dum (ls2 := [.ref 5000, .int (nI (i2 + 1)), xx_d]) ⟨.inr rfl, .inr rfl, .inl rfl, trivial⟩ ?_
              exact kk2 () (by simp only [if_pos q2, if_neg q5, x_MisSound_n_26, eN26])
            · refine sw_aload_n O (xx_dt dd_X14_isSoundNow 41 rfl) rfl ?_
              refine sw_get (v := .ref 5005) O (xx_dt dd_X14_isSoundNow 42 rfl) cl_X14 fl_X14_36 (lm_modN (σ := σ) hf5) (by decide) rfl ?_
              refine sw_iload_n O (xx_dt dd_X14_isSoundNow 43 rfl) rfl ?_
              refine sw_iaload (v := .int (σ 5005 i2)) O (xx_dt dd_X14_isSoundNow 44 rfl) ((im_5005 (z := z) (σ := σ)).get _) (pk_in i2 _ (by omega)) (by rw [nI_clamp (by omega)]; try exact rfl) ?_
              refine sw_iconst (x := (-1)) O (xx_dt dd_X14_isSoundNow 45 rfl) (by decide) ?_
              refine sw_icmp_eq (tgt := 120) O (xx_dt dd_X14_isSoundNow 46 rfl) (by decide) (fun q6 => ?_) (fun q6 => ?_)
              · refine sw_iinc (y := nI (i2 + 1)) (ls2 := [.ref 5000, .int (nI (i2 + 1)), .int (nI R)]) O (xx_dt dd_X14_isSoundNow 64 rfl) rfl (nI_1 _) (by decide) rfl ?_
                refine sw_goto (tgt := 2) O (xx_dt dd_X14_isSoundNow 65 rfl) (by decide) ?_
                refine sw_dum (ls2 := [.ref 5000, .int (nI (i2 + 1)), xx_d]) ⟨.inr rfl, .inr rfl, .inl rfl, trivial⟩ ?_
                exact kk2 () (by simp only [if_pos q2, if_pos q5, if_pos q6, x_MisSound_n_26, eN26])
              · have hc86 := (kept_nat (hkp q5 _ (by omega)) q6 (by have := (hpk i2 (by omega)).2; omega))
                have hd86 := hc86.2
                refine sw_aload_n O (xx_dt dd_X14_isSoundNow 47 rfl) rfl ?_
                refine sw_get (v := .ref 5006) O (xx_dt dd_X14_isSoundNow 48 rfl) cl_X14 fl_X14_40 (lm_modN (σ := σ) hf5) (by decide) rfl ?_
                refine sw_iload_n O (xx_dt dd_X14_isSoundNow 49 rfl) rfl ?_
                refine sw_iaload (v := .int (σ 5006 i2)) O (xx_dt dd_X14_isSoundNow 50 rfl) ((im_5006 (z := z) (σ := σ)).get _) (pk_in i2 _ (by omega)) (by rw [nI_clamp (by omega)]; try exact rfl) ?_
                refine sw_aload_n O (xx_dt dd_X14_isSoundNow 51 rfl) rfl ?_
                refine sw_get (v := .ref 5002) O (xx_dt dd_X14_isSoundNow 52 rfl) cl_X14 fl_X14_27 (lm_modN (σ := σ) hf5) (by decide) rfl ?_
                refine sw_iload_n O (xx_dt dd_X14_isSoundNow 53 rfl) rfl ?_
                refine sw_callVL (ci := 6) (as := [.int (nI i2)]) (st := [.int (σ 5006 i2)]) (st2 := [.ref (5020 + i2), .int (σ 5006 i2)]) O (ct_get hl hbs (lm_5002 (σ := σ) (B := B) hB (by omega)) (by omega) (i := i2) (x := 5020 + i2) (by omega) (by omega) rfl) ce_Jx4a65c_get_915e3 ml_X14_61 iv_Jx4a65c_get_915e3 cl_Jx4a65c rfl (lm_5002 (σ := σ) (B := B) hB (by omega)) (xx_dt dd_X14_isSoundNow 54 rfl) (by decide) rfl rfl (Nat.le_of_ble_eq_true rfl) rfl ?_
                refine sw_castO O (xx_dt dd_X14_isSoundNow 55 rfl) cl_X9 (lm_bid (σ := σ) (B := B) hB (by omega) (j := i2) (by omega)) cw_X14_118 ?_
                refine sw_aload_n O (xx_dt dd_X14_isSoundNow 56 rfl) rfl ?_
                refine sw_get (v := .ref 5005) O (xx_dt dd_X14_isSoundNow 57 rfl) cl_X14 fl_X14_36 (lm_modN (σ := σ) hf5) (by decide) rfl ?_
                refine sw_iload_n O (xx_dt dd_X14_isSoundNow 58 rfl) rfl ?_
                refine sw_iaload (v := .int (nI (cn (σ 5005 i2)))) O (xx_dt dd_X14_isSoundNow 59 rfl) ((im_5005 (z := z) (σ := σ)).get _) (pk_in i2 _ (by omega)) (by rw [nI_clamp (by omega)]; exact (congrArg Value.int hc86.1)) ?_
                refine sw_callVx (as := [.int (nI (cn (σ 5005 i2)))]) (st := [.int (σ 5006 i2)]) (st2 := [.int (f_Bamount σ i2 (cn (σ 5005 i2))), .int (σ 5006 i2)]) O (ct_X9_amount hl (z := z) (σ := σ) hbs (B := B) hB (by omega) (j := i2) (by omega) (p := pk i2) (hpk i2 (by omega)).1 (by have h9 := (hpk i2 (by omega)).2; omega) (k := cn (σ 5005 i2)) (by first | omega | (have h9 := (hpk i2 (by omega)).2; omega))) ce_X9_amount ml_X14_252 iv_X9_amount cl_X9 rfl (lm_bid (σ := σ) (B := B) hB (by omega) (j := i2) (by omega)) (xx_dt dd_X14_isSoundNow 60 rfl) (by decide) rfl rfl (Nat.le_of_ble_eq_true rfl) rfl ?_
                refine sw_icmp_le (tgt := 120) O (xx_dt dd_X14_isSoundNow 61 rfl) (by decide) (fun q7 => ?_) (fun q7 => ?_)
                · refine sw_iinc (y := nI (i2 + 1)) (ls2 := [.ref 5000, .int (nI (i2 + 1)), .int (nI R)]) O (xx_dt dd_X14_isSoundNow 64 rfl) rfl (nI_1 _) (by decide) rfl ?_
                  refine sw_goto (tgt := 2) O (xx_dt dd_X14_isSoundNow 65 rfl) (by decide) ?_
                  refine sw_dum (ls2 := [.ref 5000, .int (nI (i2 + 1)), xx_d]) ⟨.inr rfl, .inr rfl, .inl rfl, trivial⟩ ?_
                  exact kk2 () (by simp only [if_pos q2, if_pos q5, if_neg q6, if_pos q7, x_MisSound_n_26, eN26])
                · refine sw_iconst (x := 0) O (xx_dt dd_X14_isSoundNow 62 rfl) (by decide) ?_
                  exact sw_iret O (xx_dt dd_X14_isSoundNow 63 rfl) rfl rfl (by rw [hQ, kr2 0 (by simp only [if_pos q2, if_pos q5, if_neg q6, if_neg q7, x_MisSound_n_26, eN26])]; exact ⟨rfl, rfl⟩)
          · exact absurd (Int32.le_refl _) q3
        · exact kr2 r26 (by simp only [if_pos q2, x_MisSound_n_26, eN26])
      · refine sw_iconst (x := 0) O (xx_dt dd_X14_isSoundNow 12 rfl) (by decide) ?_
        exact sw_iret O (xx_dt dd_X14_isSoundNow 13 rfl) rfl rfl (by rw [hQ, kr2 0 (by simp only [if_neg q2])]; exact ⟨rfl, rfl⟩)
  · show SW Y _ _ (setM z σ h) 2 [.ref 5000, .int (nI B), xx_d] []
    refine sw_iload_n O (xx_dt dd_X14_isSoundNow 2 rfl) rfl ?_
    refine sw_aload_n O (xx_dt dd_X14_isSoundNow 3 rfl) rfl ?_
    refine sw_get (v := .ref 5002) O (xx_dt dd_X14_isSoundNow 4 rfl) cl_X14 fl_X14_27 (lm_modN (σ := σ) hf5) (by decide) rfl ?_
    refine sw_callVL (ci := 6) (as := []) (st := [.int (nI B)]) (st2 := [.int (nI B), .int (nI B)]) O (ct_AL_size hl (lm_5002 (σ := σ) (B := B) hB (by omega))) ce_Jx4a65c_size_8abf5 ml_X14_57 iv_Jx4a65c_size_8abf5 cl_Jx4a65c rfl (lm_5002 (σ := σ) (B := B) hB (by omega)) (xx_dt dd_X14_isSoundNow 5 rfl) (by decide) rfl rfl (Nat.le_of_ble_eq_true rfl) rfl ?_
    refine sw_icmp_ge (tgt := 126) O (xx_dt dd_X14_isSoundNow 6 rfl) (by decide) (fun q1 => ?_) (fun q1 => ?_)
    · refine sw_iconst (x := 0) O (xx_dt dd_X14_isSoundNow 66 rfl) (by decide) ?_
      refine sw_istore_n (ls2 := [.ref 5000, .int 0, xx_d]) O (xx_dt dd_X14_isSoundNow 67 rfl) (by decide) rfl ?_
      refine sw_forR (S := Unit) (R := Int32) (fun i128 s128 => (if (σ (5010 + i128) 2) ≤ (f_MofRegionNow σ i128 R B C g 3) then .inl () else .inr 0)) (fun _ _ => True) (FR := fun r9 => f_MisSound_n σ R B K C pk g tn sp = r9) (hp := fun _ => setM z σ h) (hd := 128) (lc := fun i128 s128 => [.ref 5000, .int (nI i128), xx_d]) (N := R) (fun i128 s128 hi128 hP128 => ⟨fun _ _ => trivial, fun kk128 kr128 => ?_⟩) R 0 () (by omega) (trivial) (fun sN128 eN128 hP128 => ?_) (fun r128 eN128 => ?_)
      · refine sw_iload_n O (xx_dt dd_X14_isSoundNow 68 rfl) rfl ?_
        refine sw_aload_n O (xx_dt dd_X14_isSoundNow 69 rfl) rfl ?_
        refine sw_get (v := .ref 5001) O (xx_dt dd_X14_isSoundNow 70 rfl) cl_X14 fl_X14_23 (lm_modN (σ := σ) hf5) (by decide) rfl ?_
        refine sw_callVL (ci := 6) (as := []) (st := [.int (nI i128)]) (st2 := [.int (nI R), .int (nI i128)]) O (ct_AL_size hl (lm_5001 (σ := σ) (R := R) hR (by omega))) ce_Jx4a65c_size_8abf5 ml_X14_57 iv_Jx4a65c_size_8abf5 cl_Jx4a65c rfl (lm_5001 (σ := σ) (R := R) hR (by omega)) (xx_dt dd_X14_isSoundNow 71 rfl) (by decide) rfl rfl (Nat.le_of_ble_eq_true rfl) rfl ?_
        refine sw_icmp_ge (tgt := 170) O (xx_dt dd_X14_isSoundNow 72 rfl) (by decide) (fun q8 => ?_) (fun q8 => ?_)
        · exact absurd q8 (nI_ge (b := R) hi128 (by omega))
        · refine sw_aload_n O (xx_dt dd_X14_isSoundNow 73 rfl) rfl ?_
          refine sw_iload_n O (xx_dt dd_X14_isSoundNow 74 rfl) rfl ?_
          refine sw_iconst (x := 3) O (xx_dt dd_X14_isSoundNow 75 rfl) (by decide) ?_
          refine sw_callVx (as := [.int (nI i128), .int 3]) (st := []) (st2 := [.int (f_MofRegionNow σ i128 R B C g 3)]) O ((show XEx _ _ _ _ _ [_, _, .int 3] _ _ _ from ct_X14_ofRegionNow hl (z := z) (σ := σ) hbs (R := R) hR (by omega) (B := B) hB (by omega) (C := C) hS (by omega) (r := i128) (by omega) hfl (g := g) hg (by omega) (w := w) hw (by omega) (v := 3) (by omega))) ce_X14_ofRegionNow ml_X14_299 iv_X14_ofRegionNow cl_X14 rfl (lm_modN (σ := σ) hf5) (xx_dt dd_X14_isSoundNow 76 rfl) (by decide) rfl rfl (Nat.le_of_ble_eq_true rfl) rfl ?_
          refine sw_aload_n O (xx_dt dd_X14_isSoundNow 77 rfl) rfl ?_
          refine sw_get (v := .ref 5001) O (xx_dt dd_X14_isSoundNow 78 rfl) cl_X14 fl_X14_23 (lm_modN (σ := σ) hf5) (by decide) rfl ?_
          refine sw_iload_n O (xx_dt dd_X14_isSoundNow 79 rfl) rfl ?_
          refine sw_callVL (ci := 6) (as := [.int (nI i128)]) (st := [.int (f_MofRegionNow σ i128 R B C g 3)]) (st2 := [.ref (5010 + i128), .int (f_MofRegionNow σ i128 R B C g 3)]) O (ct_get hl hbs (lm_5001 (σ := σ) (R := R) hR (by omega)) (by omega) (i := i128) (x := 5010 + i128) (by omega) (by omega) rfl) ce_Jx4a65c_get_915e3 ml_X14_61 iv_Jx4a65c_get_915e3 cl_Jx4a65c rfl (lm_5001 (σ := σ) (R := R) hR (by omega)) (xx_dt dd_X14_isSoundNow 80 rfl) (by decide) rfl rfl (Nat.le_of_ble_eq_true rfl) rfl ?_
          refine sw_castO O (xx_dt dd_X14_isSoundNow 81 rfl) cl_X12 (lm_reg (σ := σ) (R := R) hR (by omega) (j := i128) (by omega)) cw_X14_65 ?_
          refine sw_get (v := .int (σ (5010 + i128) 2)) O (xx_dt dd_X14_isSoundNow 82 rfl) cl_X12 fl_X14_84 (lm_reg (σ := σ) (R := R) hR (by omega) (j := i128) (by omega)) (by decide) rfl ?_
          refine sw_icmp_ge (tgt := 164) O (xx_dt dd_X14_isSoundNow 83 rfl) (by decide) (fun q9 => ?_) (fun q9 => ?_)
          · refine sw_iinc (y := nI (i128 + 1)) (ls2 := [.ref 5000, .int (nI (i128 + 1)), xx_d]) O (xx_dt dd_X14_isSoundNow 86 rfl) rfl (nI_1 _) (by decide) rfl ?_
            refine sw_goto (tgt := 128) O (xx_dt dd_X14_isSoundNow 87 rfl) (by decide) ?_
            exact kk128 () (by simp only [if_pos q9])
          · refine sw_iconst (x := 0) O (xx_dt dd_X14_isSoundNow 84 rfl) (by decide) ?_
            exact sw_iret O (xx_dt dd_X14_isSoundNow 85 rfl) rfl rfl (by rw [hQ, kr128 0 (by simp only [if_neg q9])]; exact ⟨rfl, rfl⟩)
      · show SW Y _ _ (setM z σ h) 128 [.ref 5000, .int (nI R), xx_d] []
        refine sw_iload_n O (xx_dt dd_X14_isSoundNow 68 rfl) rfl ?_
        refine sw_aload_n O (xx_dt dd_X14_isSoundNow 69 rfl) rfl ?_
        refine sw_get (v := .ref 5001) O (xx_dt dd_X14_isSoundNow 70 rfl) cl_X14 fl_X14_23 (lm_modN (σ := σ) hf5) (by decide) rfl ?_
        refine sw_callVL (ci := 6) (as := []) (st := [.int (nI R)]) (st2 := [.int (nI R), .int (nI R)]) O (ct_AL_size hl (lm_5001 (σ := σ) (R := R) hR (by omega))) ce_Jx4a65c_size_8abf5 ml_X14_57 iv_Jx4a65c_size_8abf5 cl_Jx4a65c rfl (lm_5001 (σ := σ) (R := R) hR (by omega)) (xx_dt dd_X14_isSoundNow 71 rfl) (by decide) rfl rfl (Nat.le_of_ble_eq_true rfl) rfl ?_
        refine sw_icmp_ge (tgt := 170) O (xx_dt dd_X14_isSoundNow 72 rfl) (by decide) (fun q8 => ?_) (fun q8 => ?_)
        · refine sw_aload_n O (xx_dt dd_X14_isSoundNow 88 rfl) rfl ?_
          refine sw_get (v := .int (σ 5000 1)) O (xx_dt dd_X14_isSoundNow 89 rfl) cl_X14 fl_X14_77 (lm_modN (σ := σ) hf5) (by decide) rfl ?_
          refine sw_iconst (x := 3) O (xx_dt dd_X14_isSoundNow 90 rfl) (by decide) ?_
          refine sw_icmp_ne (tgt := 187) O (xx_dt dd_X14_isSoundNow 91 rfl) (by decide) (fun q10 => ?_) (fun q10 => ?_)
          · refine sw_aload_n O (xx_dt dd_X14_isSoundNow 97 rfl) rfl ?_
            refine sw_get (v := .null) O (xx_dt dd_X14_isSoundNow 98 rfl) cl_X14 fl_X14_141 (lm_modN (σ := σ) hf5) (by decide) rfl ?_
            refine sw_ifnullN (tgt := 201) O (xx_dt dd_X14_isSoundNow 99 rfl) (by decide) ?_
            refine sw_iconst (x := 1) O (xx_dt dd_X14_isSoundNow 103 rfl) (by decide) ?_
            refine sw_goto (tgt := 206) O (xx_dt dd_X14_isSoundNow 104 rfl) (by decide) ?_
            exact sw_iret O (xx_dt dd_X14_isSoundNow 106 rfl) rfl rfl (by rw [hQ]; exact ⟨by unfold f_MisSound_n; simp only [if_neg q10, show x_MisSound_n_2 σ R B K C pk g tn sp () = .inl sN2 from eN2, show x_MisSound_n_128 σ R B K C pk g tn sp () = .inl sN128 from eN128], rfl⟩)
          · refine sw_aload_n O (xx_dt dd_X14_isSoundNow 92 rfl) rfl ?_
            refine sw_callVx (as := []) (st := []) (st2 := [.int (f_MareNamed σ R B sp tn pk)]) O (ct_X14_areNamed hl (z := z) (σ := σ) hbs hfr hme hR hR5 hB hB6 hpk (hkp q10) htn hsp hho) ce_X14_areNamed ml_X14_394 iv_X14_areNamed cl_X14 rfl (lm_modN (σ := σ) hf5) (xx_dt dd_X14_isSoundNow 93 rfl) (by decide) rfl rfl (Nat.le_of_ble_eq_true rfl) rfl ?_
            refine sw_if_ne (tgt := 187) O (xx_dt dd_X14_isSoundNow 94 rfl) (by decide) (fun q11 => ?_) (fun q11 => ?_)
            · refine sw_aload_n O (xx_dt dd_X14_isSoundNow 97 rfl) rfl ?_
              refine sw_get (v := .null) O (xx_dt dd_X14_isSoundNow 98 rfl) cl_X14 fl_X14_141 (lm_modN (σ := σ) hf5) (by decide) rfl ?_
              refine sw_ifnullN (tgt := 201) O (xx_dt dd_X14_isSoundNow 99 rfl) (by decide) ?_
              refine sw_iconst (x := 1) O (xx_dt dd_X14_isSoundNow 103 rfl) (by decide) ?_
              refine sw_goto (tgt := 206) O (xx_dt dd_X14_isSoundNow 104 rfl) (by decide) ?_
              exact sw_iret O (xx_dt dd_X14_isSoundNow 106 rfl) rfl rfl (by rw [hQ]; exact ⟨by unfold f_MisSound_n; simp only [if_pos q10, if_neg q11, show x_MisSound_n_2 σ R B K C pk g tn sp () = .inl sN2 from eN2, show x_MisSound_n_128 σ R B K C pk g tn sp () = .inl sN128 from eN128], rfl⟩)
            · refine sw_iconst (x := 0) O (xx_dt dd_X14_isSoundNow 95 rfl) (by decide) ?_
              exact sw_iret O (xx_dt dd_X14_isSoundNow 96 rfl) rfl rfl (by rw [hQ]; exact ⟨by unfold f_MisSound_n; simp only [if_pos q10, if_pos q11, show x_MisSound_n_2 σ R B K C pk g tn sp () = .inl sN2 from eN2, show x_MisSound_n_128 σ R B K C pk g tn sp () = .inl sN128 from eN128], rfl⟩)
        · exact absurd (Int32.le_refl _) q8
      · unfold f_MisSound_n; simp only [x_MisSound_n_128, show x_MisSound_n_2 σ R B K C pk g tn sp () = .inl sN2 from eN2, eN128]
    · exact absurd (Int32.le_refl _) q1
  · unfold f_MisSound_n; simp only [x_MisSound_n_2, eN2]
