section
/-! ===== the reference: areNamed ===== -/
def x_MareNamed_22 (B : Nat) (sp tn : Nat → Nat) (i2 : Nat) (s0 : XS9) : XS9 := xit (fun i22 s22 => (if (f_MholderNow s22 i2 (nI i22) B tn) = (-1) then s22 else u2 s22 20000 (cn (f_MholderNow s22 i2 (nI i22) B tn)) ((s22 20000 (cn (f_MholderNow s22 i2 (nI i22) B tn))) + 1))) (sp i2) 0 s0
def x_MareNamed_73 (σ : XS9) (B : Nat) (sp tn pk : Nat → Nat) (i2 : Nat) (s0 : Int32) : Int32 ⊕ Int32 := xitR (fun i73 s73 => (if (σ 5005 i73) = (-1) then (if ((x_MareNamed_22 B sp tn i2 (uR σ 20000 (rowN 6))) 20000 i73) = 0 then .inl (s73 + 0) else .inr 0) else (if ((x_MareNamed_22 B sp tn i2 (uR σ 20000 (rowN 6))) 20000 i73) = (f_of (f_Bcode (x_MareNamed_22 B sp tn i2 (uR σ 20000 (rowN 6))) i73 (cn (σ 5005 i73))) i2) then .inl (s73 + (f_of (f_Bcode (x_MareNamed_22 B sp tn i2 (uR σ 20000 (rowN 6))) i73 (cn (σ 5005 i73))) i2)) else .inr 0))) B 0 s0
def x_MareNamed_2 (σ : XS9) (R B : Nat) (sp tn pk : Nat → Nat) (s0 : Unit) : Unit ⊕ Int32 := xitR (fun i2 s2 => (match (x_MareNamed_73 σ B sp tn pk i2 0) with | .inl s73 => (if s73 ≤ (nI (sp i2)) then .inl () else .inr 0) | .inr r73 => .inr r73)) R 0 s0
theorem fx_named {B : Nat} {sp tn : Nat → Nat} {i2 : Nat} {s0 : XS9} {q : Nat} (h : q ≠ 20000) : x_MareNamed_22 B sp tn i2 s0 q = s0 q := xit_keep (fun s : XS9 => s q) (fun i s => by (try dsimp only); (repeat' split) <;> first | rfl | rw [u2_ne h]) _ _ _
def f_MareNamed (σ : XS9) (R B : Nat) (sp tn pk : Nat → Nat) : Int32 := (match (x_MareNamed_2 σ R B sp tn pk ()) with | .inl s2 => 1 | .inr r2 => r2)
theorem ct_X14_areNamed {l : Launch} {h : XH} (hl : l.stackTraces = false) {z : Int64} {σ : XS9} (hbs : xx_bs h) (hfr : ∀ r, 5000 ≤ r → r < 20010 → h r = none) (hme : mem_eq σ σ) {R : Nat} (hR : σ 5001 900 = nI R) (hR5 : R ≤ 5) {B : Nat} (hB : σ 5002 900 = nI B) (hB6 : B ≤ 6) {pk : Nat → Nat} (hpk : ∀ j, j < B → σ (5030 + j) 900 = nI (2 * pk j) ∧ pk j ≤ 6) (hkp : ∀ j, j < B → σ 5005 j = -1 ∨ ∃ n, n < pk j ∧ σ 5005 j = nI n) {tn : Nat → Nat} (htn : ∀ r, r < 5 → σ 5007 r = nI (tn r) ∧ tn r < 6) {sp : Nat → Nat} (hsp : ∀ r, r < R → σ (5010 + r) 0 = nI (sp r) ∧ sp r ≤ 5) (hho : ∀ (s : XS9) i j, (∀ q, q ≠ 20000 → s q = σ q) → i < R → j < sp i → f_MholderNow s i (nI j) B tn = -1 ∨ n_lt (f_MholderNow s i (nI j) B tn) 6)  : XEx l m_X14_areNamed 8 5 30 [.ref 5000] (setM z σ h) (some (.int (f_MareNamed σ R B sp tn pk))) (setM z σ h) := by
  refine XMet.of hl rfl rfl (Nat.le_of_ble_eq_true rfl) (fun Y O hh hQ => ?_)
  refine sw_cls (fun hcl => ?_)
  show SW Y 5 30 (setM z σ h) 0 [.ref 5000, xx_d, xx_d, xx_d, xx_d, xx_d] []
  refine sw_iconst (x := 0) O (xx_dt dd_X14_areNamed 0 rfl) (by decide) ?_
  refine sw_istore_n (ls2 := [.ref 5000, .int 0, xx_d, xx_d, xx_d, xx_d]) O (xx_dt dd_X14_areNamed 1 rfl) (by decide) rfl ?_
  refine xx_wid (k' := 0 + 1 * (R - 0)) (n' := 0 + 6 * (R - 0)) (by omega) (by omega) ?_
  refine sw_forRV (kf := fun i9 => 0 + 1 * (R - i9)) (nf := fun i9 => 0 + 6 * (R - i9)) (S := Unit) (R := Int32) (fun i2 s2 => (match (x_MareNamed_73 σ B sp tn pk i2 0) with | .inl s73 => (if s73 ≤ (nI (sp i2)) then .inl () else .inr 0) | .inr r73 => .inr r73)) (fun _ _ => True) (FR := fun r9 => f_MareNamed σ R B sp tn pk = r9) (hp := fun _ => setM z σ h) (hd := 2) (lc := fun i2 s2 => [.ref 5000, .int (nI i2), xx_d, xx_d, xx_d, xx_d]) (N := R) (fun i2 s2 hi2 hP2 => ⟨fun _ _ => trivial, fun kk2 kr2 => ?_⟩) R 0 () (by omega) (trivial) (fun sN2 eN2 hP2 => ?_) (fun r2 eN2 => ?_)
  · obtain ⟨kA, ekA⟩ : ∃ k, k = 0 + 1 * (R - (i2 + 1)) := ⟨_, rfl⟩
    obtain ⟨nA, enA⟩ : ∃ k, k = 0 + 6 * (R - (i2 + 1)) := ⟨_, rfl⟩
    obtain ⟨kB, ekB⟩ : ∃ k, k = kA + 1 := ⟨_, rfl⟩
    obtain ⟨nB, enB⟩ : ∃ k, k = nA + 6 := ⟨_, rfl⟩
    refine xx_wid (k' := kB) (n' := nB) (by show _ ≤ 0 + 1 * (R - i2); omega) (by show _ ≤ 0 + 6 * (R - i2); omega) ?_
    refine sw_iload_n O (xx_dt dd_X14_areNamed 2 rfl) rfl ?_
    refine sw_aload_n O (xx_dt dd_X14_areNamed 3 rfl) rfl ?_
    refine sw_get (v := .ref 5001) O (xx_dt dd_X14_areNamed 4 rfl) cl_X14 fl_X14_23 (lm_mod (σ := σ)) (by decide) rfl ?_
    refine sw_callVL (ci := 6) (as := []) (st := [.int (nI i2)]) (st2 := [.int (nI R), .int (nI i2)]) O (ct_AL_size hl (lm_5001 (σ := σ) (R := R) hR (by omega))) ce_Jx4a65c_size_8abf5 ml_X14_57 iv_Jx4a65c_size_8abf5 cl_Jx4a65c rfl (lm_5001 (σ := σ) (R := R) hR (by omega)) (xx_dt dd_X14_areNamed 5 rfl) (by decide) rfl rfl (Nat.le_of_ble_eq_true rfl) rfl ?_
    refine sw_icmp_ge (tgt := 176) O (xx_dt dd_X14_areNamed 6 rfl) (by decide) (fun q1 => ?_) (fun q1 => ?_)
    · exact absurd q1 (nI_ge (b := R) hi2 (by omega))
    · refine xx_wid (k' := kA + 1) (n' := nA + 6) (by omega) (by omega) (sw_callSx (k := kA) (n := nA) (k' := 1) (n' := 6) (as := []) (st := []) (st2 := [.ref 20000]) O (ct_codes hl (a := 20000) ((setM_tn (z := z) (σ := σ) (q := 20000) (by omega) (hme.2.2 20000 (by omega) (by omega)).2).trans (hfr 20000 (by omega) (by omega))) (by omega)) ce_X14_codes ml_X14_400 st_X14_codes (xx_dt dd_X14_areNamed 7 rfl) (by decide) rfl rfl (Nat.le_of_ble_eq_true rfl) rfl ?_)
      refine sw_alter (F2 := fun k => .int (rowN 6 k)) (xx_up_eq _ _ _) (fun j9 hj9 => (rowN_lt (by omega)).symm) ?_
      rw [xx_up_up]
      rw [new_tmp (σ := σ) (q := 20000) (n := 6) (by omega) (by omega)]
      refine sw_astore_n (ls2 := [.ref 5000, .int (nI i2), .ref 20000, xx_d, xx_d, xx_d]) O (xx_dt dd_X14_areNamed 8 rfl) (by decide) rfl ?_
      refine sw_iconst (x := 0) O (xx_dt dd_X14_areNamed 9 rfl) (by decide) ?_
      refine sw_istore_n (ls2 := [.ref 5000, .int (nI i2), .ref 20000, .int 0, xx_d, xx_d]) O (xx_dt dd_X14_areNamed 10 rfl) (by decide) rfl ?_
      refine sw_iconst (x := 0) O (xx_dt dd_X14_areNamed 11 rfl) (by decide) ?_
      refine sw_istore (ls2 := [.ref 5000, .int (nI i2), .ref 20000, .int 0, .int 0, xx_d]) O (xx_dt dd_X14_areNamed 12 rfl) (by decide) rfl ?_
      refine sw_for (S := XS9) (fun i22 s22 => (if (f_MholderNow s22 i2 (nI i22) B tn) = (-1) then s22 else u2 s22 20000 (cn (f_MholderNow s22 i2 (nI i22) B tn)) ((s22 20000 (cn (f_MholderNow s22 i2 (nI i22) B tn))) + 1))) (fun _ s22 => s22 20000 20 = nI 1 ∧ s22 20000 21 = nI 6 ∧ (∀ q, q ≠ 20000 → s22 q = (uR σ 20000 (rowN 6)) q)) (hp := fun s22 => setM z s22 h) (hd := 22) (lc := fun i22 s22 => [.ref 5000, .int (nI i2), .ref 20000, .int 0, .int (nI i22), xx_d]) (N := (sp i2)) (fun i22 s22 hi22 hP22 => ⟨(by (try dsimp only); split <;> first | exact hP22 | (have h9 := ((hho _ i2 i22 (fun q9 hq9 => (hP22.2.2 q9 hq9).trans (uR_ne hq9)) (by omega) (by omega)).resolve_left (by assumption)).2; exact ⟨by rw [u2_oi (by omega)]; exact hP22.1, by rw [u2_oi (by omega)]; exact hP22.2.1, fun q9 hq9 => by rw [u2_ne hq9]; exact hP22.2.2 q9 hq9⟩)), fun kk22 => ?_⟩) (sp i2) 0 (uR σ 20000 (rowN 6)) (by omega) (⟨(show (uR σ 20000 (rowN 6)) 20000 20 = nI 1 from tmp20), (show (uR σ 20000 (rowN 6)) 20000 21 = nI 6 from tmp21), (fun _ _ => rfl)⟩) (fun hP22 => ?_)
      · refine sw_iload O (xx_dt dd_X14_areNamed 13 rfl) rfl ?_
        refine sw_aload_n O (xx_dt dd_X14_areNamed 14 rfl) rfl ?_
        refine sw_get (v := .ref 5001) O (xx_dt dd_X14_areNamed 15 rfl) cl_X14 fl_X14_23 (lm_mod (σ := s22)) (by decide) rfl ?_
        refine sw_iload_n O (xx_dt dd_X14_areNamed 16 rfl) rfl ?_
        refine sw_callVL (ci := 6) (as := [.int (nI i2)]) (st := [.int (nI i22)]) (st2 := [.ref (5010 + i2), .int (nI i22)]) O (ct_get hl hbs (lm_5001 (σ := s22) (R := R) ((congrFun (hP22.2.2 _ (by omega)) 900).trans hR) (by omega)) (by omega) (i := i2) (x := 5010 + i2) (by omega) (by omega) rfl) ce_Jx4a65c_get_915e3 ml_X14_61 iv_Jx4a65c_get_915e3 cl_Jx4a65c rfl (lm_5001 (σ := s22) (R := R) ((congrFun (hP22.2.2 _ (by omega)) 900).trans hR) (by omega)) (xx_dt dd_X14_areNamed 17 rfl) (by decide) rfl rfl (Nat.le_of_ble_eq_true rfl) rfl ?_
        refine sw_castO O (xx_dt dd_X14_areNamed 18 rfl) cl_X12 (lm_reg (σ := s22) (R := R) ((congrFun (hP22.2.2 _ (by omega)) 900).trans hR) (by omega) (j := i2) (by omega)) cw_X14_65 ?_
        have hz35 := (hsp i2 (by omega)).2
        refine sw_get (v := .int (nI (sp i2))) O (xx_dt dd_X14_areNamed 19 rfl) cl_X12 fl_X14_81 (lm_reg (σ := s22) (R := R) ((congrFun (hP22.2.2 _ (by omega)) 900).trans hR) (by omega) (j := i2) (by omega)) (by decide) (congrArg Value.int (((congrFun (hP22.2.2 _ (by omega)) 0).trans (congrFun (uR_ne (by omega)) 0)).trans (hsp i2 (by omega)).1)) ?_
        refine sw_icmp_ge (tgt := 70) O (xx_dt dd_X14_areNamed 20 rfl) (by decide) (fun q2 => ?_) (fun q2 => ?_)
        · exact absurd q2 (nI_ge (b := (sp i2)) hi22 (by omega))
        · refine sw_aload_n O (xx_dt dd_X14_areNamed 21 rfl) rfl ?_
          refine sw_iload_n O (xx_dt dd_X14_areNamed 22 rfl) rfl ?_
          refine sw_iload O (xx_dt dd_X14_areNamed 23 rfl) rfl ?_
          refine sw_callVx (as := [.int (nI i2), .int (nI i22)]) (st := []) (st2 := [.int (f_MholderNow s22 i2 (nI i22) B tn)]) O (ct_X14_holderNow hl (z := z) (σ := s22) hbs (R := R) ((congrFun (hP22.2.2 _ (by omega)) 900).trans hR) (by omega) (B := B) ((congrFun (hP22.2.2 _ (by omega)) 900).trans hB) (by omega) (pk := pk) (fun j9 hj9 => by rw [show s22 (5030 + j9) 900 = σ (5030 + j9) 900 from ((congrFun (hP22.2.2 _ (by omega)) 900).trans (congrFun (uR_ne (by omega)) 900))]; exact hpk j9 hj9) (fun _ j9 hj9 => by rw [show s22 5005 = σ 5005 from (hP22.2.2 _ (by omega))]; exact hkp j9 hj9) (tn := tn) (fun j9 hj9 => by rw [show s22 5007 = σ 5007 from (hP22.2.2 _ (by omega))]; exact htn j9 hj9) (r := i2) (y := nI i22) (by omega)) ce_X14_holderNow ml_X14_329 iv_X14_holderNow cl_X14 rfl (lm_mod (σ := s22)) (xx_dt dd_X14_areNamed 24 rfl) (by decide) rfl rfl (Nat.le_of_ble_eq_true rfl) rfl ?_
          refine sw_istore (ls2 := [.ref 5000, .int (nI i2), .ref 20000, .int 0, .int (nI i22), .int (f_MholderNow s22 i2 (nI i22) B tn)]) O (xx_dt dd_X14_areNamed 25 rfl) (by decide) rfl ?_
          refine sw_iload O (xx_dt dd_X14_areNamed 26 rfl) rfl ?_
          refine sw_iconst (x := (-1)) O (xx_dt dd_X14_areNamed 27 rfl) (by decide) ?_
          refine sw_icmp_eq (tgt := 64) O (xx_dt dd_X14_areNamed 28 rfl) (by decide) (fun q3 => ?_) (fun q3 => ?_)
          · refine sw_iinc (y := nI (i22 + 1)) (ls2 := [.ref 5000, .int (nI i2), .ref 20000, .int 0, .int (nI (i22 + 1)), .int (f_MholderNow s22 i2 (nI i22) B tn)]) O (xx_dt dd_X14_areNamed 36 rfl) rfl (nI_1 _) (by decide) rfl ?_
            refine sw_goto (tgt := 22) O (xx_dt dd_X14_areNamed 37 rfl) (by decide) ?_
            refine sw_dum (ls2 := [.ref 5000, .int (nI i2), .ref 20000, .int 0, .int (nI (i22 + 1)), xx_d]) ⟨.inr rfl, .inr rfl, .inr rfl, .inr rfl, .inr rfl, .inl rfl, trivial⟩ ?_
            simp only [if_pos q3] at kk22
            exact kk22
          · have hc53 := ((hho _ i2 i22 (fun q9 hq9 => (hP22.2.2 q9 hq9).trans (uR_ne hq9)) (by omega) (by omega)).resolve_left q3)
            refine sw_lsE (ls2 := [.ref 5000, .int (nI i2), .ref 20000, .int 0, .int (nI i22), .int (nI (cn (f_MholderNow s22 i2 (nI i22) B tn)))]) (by rw [← hc53.1]) ?_
            have hd53 := hc53.2
            refine sw_aload_n O (xx_dt dd_X14_areNamed 29 rfl) rfl ?_
            refine sw_iload O (xx_dt dd_X14_areNamed 30 rfl) rfl ?_
            refine sw_dup2 O (xx_dt dd_X14_areNamed 31 rfl) rfl rfl ?_
            refine sw_iaload (v := .int (s22 20000 (cn (f_MholderNow s22 i2 (nI i22) B tn)))) O (xx_dt dd_X14_areNamed 32 rfl) ((lm_tmp (z := z) (σ := s22) (h := h) (q := 20000) (by omega) (fl1 hP22.1) hP22.2.1 (by omega)).get _) (pk_in (cn (f_MholderNow s22 i2 (nI i22) B tn)) _ (by omega)) (by rw [nI_clamp (by omega)]; try exact rfl) ?_
            refine sw_iconst (x := 1) O (xx_dt dd_X14_areNamed 33 rfl) (by decide) ?_
            refine sw_iadd O (xx_dt dd_X14_areNamed 34 rfl) ?_
            refine sw_iastore (h2 := setM z (u2 s22 20000 (cn (f_MholderNow s22 i2 (nI i22) B tn)) ((s22 20000 (cn (f_MholderNow s22 i2 (nI i22) B tn))) + 1)) h) O (xx_dt dd_X14_areNamed 35 rfl) ((lm_tmp (z := z) (σ := s22) (h := h) (q := 20000) (by omega) (fl1 hP22.1) hP22.2.1 (by omega)).get _) (pk_in (cn (f_MholderNow s22 i2 (nI i22) B tn)) _ (by omega)) (by omega) (by rw [nI_clamp (by omega)]; exact ((lm_tmp (z := z) (σ := s22) (h := h) (q := 20000) (by omega) (fl1 hP22.1) hP22.2.1 (by omega)).put (by omega))) ?_
            refine sw_iinc (y := nI (i22 + 1)) (ls2 := [.ref 5000, .int (nI i2), .ref 20000, .int 0, .int (nI (i22 + 1)), .int (nI (cn (f_MholderNow s22 i2 (nI i22) B tn)))]) O (xx_dt dd_X14_areNamed 36 rfl) rfl (nI_1 _) (by decide) rfl ?_
            refine sw_goto (tgt := 22) O (xx_dt dd_X14_areNamed 37 rfl) (by decide) ?_
            refine sw_dum (ls2 := [.ref 5000, .int (nI i2), .ref 20000, .int 0, .int (nI (i22 + 1)), xx_d]) ⟨.inr rfl, .inr rfl, .inr rfl, .inr rfl, .inr rfl, .inl rfl, trivial⟩ ?_
            simp only [if_neg q3] at kk22
            exact kk22
      · show SW Y _ _ (setM z (x_MareNamed_22 B sp tn i2 (uR σ 20000 (rowN 6))) h) 22 [.ref 5000, .int (nI i2), .ref 20000, .int 0, .int (nI ((sp i2))), xx_d] []
        have hP22 : (x_MareNamed_22 B sp tn i2 (uR σ 20000 (rowN 6))) 20000 20 = nI 1 ∧ (x_MareNamed_22 B sp tn i2 (uR σ 20000 (rowN 6))) 20000 21 = nI 6 ∧ (∀ q, q ≠ 20000 → (x_MareNamed_22 B sp tn i2 (uR σ 20000 (rowN 6))) q = (uR σ 20000 (rowN 6)) q) := hP22
        refine sw_iload O (xx_dt dd_X14_areNamed 13 rfl) rfl ?_
        refine sw_aload_n O (xx_dt dd_X14_areNamed 14 rfl) rfl ?_
        refine sw_get (v := .ref 5001) O (xx_dt dd_X14_areNamed 15 rfl) cl_X14 fl_X14_23 (lm_mod (σ := (x_MareNamed_22 B sp tn i2 (uR σ 20000 (rowN 6))))) (by decide) rfl ?_
        refine sw_iload_n O (xx_dt dd_X14_areNamed 16 rfl) rfl ?_
        refine sw_callVL (ci := 6) (as := [.int (nI i2)]) (st := [.int (nI ((sp i2)))]) (st2 := [.ref (5010 + i2), .int (nI ((sp i2)))]) O (ct_get hl hbs (lm_5001 (σ := (x_MareNamed_22 B sp tn i2 (uR σ 20000 (rowN 6)))) (R := R) ((congrFun (hP22.2.2 _ (by omega)) 900).trans hR) (by omega)) (by omega) (i := i2) (x := 5010 + i2) (by omega) (by omega) rfl) ce_Jx4a65c_get_915e3 ml_X14_61 iv_Jx4a65c_get_915e3 cl_Jx4a65c rfl (lm_5001 (σ := (x_MareNamed_22 B sp tn i2 (uR σ 20000 (rowN 6)))) (R := R) ((congrFun (hP22.2.2 _ (by omega)) 900).trans hR) (by omega)) (xx_dt dd_X14_areNamed 17 rfl) (by decide) rfl rfl (Nat.le_of_ble_eq_true rfl) rfl ?_
        refine sw_castO O (xx_dt dd_X14_areNamed 18 rfl) cl_X12 (lm_reg (σ := (x_MareNamed_22 B sp tn i2 (uR σ 20000 (rowN 6)))) (R := R) ((congrFun (hP22.2.2 _ (by omega)) 900).trans hR) (by omega) (j := i2) (by omega)) cw_X14_65 ?_
        have hz35 := (hsp i2 (by omega)).2
        refine sw_get (v := .int (nI (sp i2))) O (xx_dt dd_X14_areNamed 19 rfl) cl_X12 fl_X14_81 (lm_reg (σ := (x_MareNamed_22 B sp tn i2 (uR σ 20000 (rowN 6)))) (R := R) ((congrFun (hP22.2.2 _ (by omega)) 900).trans hR) (by omega) (j := i2) (by omega)) (by decide) (congrArg Value.int (((congrFun (hP22.2.2 _ (by omega)) 0).trans (congrFun (uR_ne (by omega)) 0)).trans (hsp i2 (by omega)).1)) ?_
        refine sw_icmp_ge (tgt := 70) O (xx_dt dd_X14_areNamed 20 rfl) (by decide) (fun q2 => ?_) (fun q2 => ?_)
        · refine sw_iconst (x := 0) O (xx_dt dd_X14_areNamed 38 rfl) (by decide) ?_
          refine sw_istore (ls2 := [.ref 5000, .int (nI i2), .ref 20000, .int 0, .int 0, xx_d]) O (xx_dt dd_X14_areNamed 39 rfl) (by decide) rfl ?_
          refine sw_forR (S := Int32) (R := Int32) (fun i73 s73 => (if (σ 5005 i73) = (-1) then (if ((x_MareNamed_22 B sp tn i2 (uR σ 20000 (rowN 6))) 20000 i73) = 0 then .inl (s73 + 0) else .inr 0) else (if ((x_MareNamed_22 B sp tn i2 (uR σ 20000 (rowN 6))) 20000 i73) = (f_of (f_Bcode (x_MareNamed_22 B sp tn i2 (uR σ 20000 (rowN 6))) i73 (cn (σ 5005 i73))) i2) then .inl (s73 + (f_of (f_Bcode (x_MareNamed_22 B sp tn i2 (uR σ 20000 (rowN 6))) i73 (cn (σ 5005 i73))) i2)) else .inr 0))) (fun _ _ => True) (FR := fun r9 => f_MareNamed σ R B sp tn pk = r9) (hp := fun _ => setM z (x_MareNamed_22 B sp tn i2 (uR σ 20000 (rowN 6))) h) (hd := 73) (lc := fun i73 s73 => [.ref 5000, .int (nI i2), .ref 20000, .int s73, .int (nI i73), xx_d]) (N := B) (fun i73 s73 hi73 hP73 => ⟨fun _ _ => trivial, fun kk73 kr73 => ?_⟩) B 0 0 (by omega) (trivial) (fun sN73 eN73 hP73 => ?_) (fun r73 eN73 => ?_)
          · refine sw_iload O (xx_dt dd_X14_areNamed 40 rfl) rfl ?_
            refine sw_aload_n O (xx_dt dd_X14_areNamed 41 rfl) rfl ?_
            refine sw_get (v := .ref 5002) O (xx_dt dd_X14_areNamed 42 rfl) cl_X14 fl_X14_27 (lm_mod (σ := (x_MareNamed_22 B sp tn i2 (uR σ 20000 (rowN 6))))) (by decide) rfl ?_
            refine sw_callVL (ci := 6) (as := []) (st := [.int (nI i73)]) (st2 := [.int (nI B), .int (nI i73)]) O (ct_AL_size hl (lm_5002 (σ := (x_MareNamed_22 B sp tn i2 (uR σ 20000 (rowN 6)))) (B := B) ((congrFun (hP22.2.2 _ (by omega)) 900).trans hB) (by omega))) ce_Jx4a65c_size_8abf5 ml_X14_57 iv_Jx4a65c_size_8abf5 cl_Jx4a65c rfl (lm_5002 (σ := (x_MareNamed_22 B sp tn i2 (uR σ 20000 (rowN 6)))) (B := B) ((congrFun (hP22.2.2 _ (by omega)) 900).trans hB) (by omega)) (xx_dt dd_X14_areNamed 43 rfl) (by decide) rfl rfl (Nat.le_of_ble_eq_true rfl) rfl ?_
            refine sw_icmp_ge (tgt := 150) O (xx_dt dd_X14_areNamed 44 rfl) (by decide) (fun q4 => ?_) (fun q4 => ?_)
            · exact absurd q4 (nI_ge (b := B) hi73 (by omega))
            · refine sw_aload_n O (xx_dt dd_X14_areNamed 45 rfl) rfl ?_
              refine sw_get (v := .ref 5005) O (xx_dt dd_X14_areNamed 46 rfl) cl_X14 fl_X14_36 (lm_mod (σ := (x_MareNamed_22 B sp tn i2 (uR σ 20000 (rowN 6))))) (by decide) rfl ?_
              refine sw_iload O (xx_dt dd_X14_areNamed 47 rfl) rfl ?_
              refine sw_iaload (v := .int (σ 5005 i73)) O (xx_dt dd_X14_areNamed 48 rfl) ((im_5005 (z := z) (σ := (x_MareNamed_22 B sp tn i2 (uR σ 20000 (rowN 6))))).get _) (pk_in i73 _ (by omega)) (by rw [nI_clamp (by omega)]; exact (congrArg Value.int (congrFun (hP22.2.2 _ (by omega)) i73))) ?_
              refine sw_iconst (x := (-1)) O (xx_dt dd_X14_areNamed 49 rfl) (by decide) ?_
              refine sw_icmp_ne (tgt := 100) O (xx_dt dd_X14_areNamed 50 rfl) (by decide) (fun q5 => ?_) (fun q5 => ?_)
              · have hc93 := (kept_nat (hkp _ (by omega)) q5 (by have := (hpk i73 (by omega)).2; omega))
                have hd93 := hc93.2
                refine sw_aload_n O (xx_dt dd_X14_areNamed 53 rfl) rfl ?_
                refine sw_get (v := .ref 5002) O (xx_dt dd_X14_areNamed 54 rfl) cl_X14 fl_X14_27 (lm_mod (σ := (x_MareNamed_22 B sp tn i2 (uR σ 20000 (rowN 6))))) (by decide) rfl ?_
                refine sw_iload O (xx_dt dd_X14_areNamed 55 rfl) rfl ?_
                refine sw_callVL (ci := 6) (as := [.int (nI i73)]) (st := []) (st2 := [.ref (5020 + i73)]) O (ct_get hl hbs (lm_5002 (σ := (x_MareNamed_22 B sp tn i2 (uR σ 20000 (rowN 6)))) (B := B) ((congrFun (hP22.2.2 _ (by omega)) 900).trans hB) (by omega)) (by omega) (i := i73) (x := 5020 + i73) (by omega) (by omega) rfl) ce_Jx4a65c_get_915e3 ml_X14_61 iv_Jx4a65c_get_915e3 cl_Jx4a65c rfl (lm_5002 (σ := (x_MareNamed_22 B sp tn i2 (uR σ 20000 (rowN 6)))) (B := B) ((congrFun (hP22.2.2 _ (by omega)) 900).trans hB) (by omega)) (xx_dt dd_X14_areNamed 56 rfl) (by decide) rfl rfl (Nat.le_of_ble_eq_true rfl) rfl ?_
                refine sw_castO O (xx_dt dd_X14_areNamed 57 rfl) cl_X9 (lm_bid (σ := (x_MareNamed_22 B sp tn i2 (uR σ 20000 (rowN 6)))) (B := B) ((congrFun (hP22.2.2 _ (by omega)) 900).trans hB) (by omega) (j := i73) (by omega)) cw_X14_118 ?_
                refine sw_aload_n O (xx_dt dd_X14_areNamed 58 rfl) rfl ?_
                refine sw_get (v := .ref 5005) O (xx_dt dd_X14_areNamed 59 rfl) cl_X14 fl_X14_36 (lm_mod (σ := (x_MareNamed_22 B sp tn i2 (uR σ 20000 (rowN 6))))) (by decide) rfl ?_
                refine sw_iload O (xx_dt dd_X14_areNamed 60 rfl) rfl ?_
                refine sw_iaload (v := .int (nI (cn (σ 5005 i73)))) O (xx_dt dd_X14_areNamed 61 rfl) ((im_5005 (z := z) (σ := (x_MareNamed_22 B sp tn i2 (uR σ 20000 (rowN 6))))).get _) (pk_in i73 _ (by omega)) (by rw [nI_clamp (by omega)]; exact (congrArg Value.int ((congrFun (hP22.2.2 _ (by omega)) i73).trans hc93.1))) ?_
                refine sw_callVx (as := [.int (nI (cn (σ 5005 i73)))]) (st := []) (st2 := [.int (f_Bcode (x_MareNamed_22 B sp tn i2 (uR σ 20000 (rowN 6))) i73 (cn (σ 5005 i73)))]) O (ct_X9_code hl (z := z) (σ := (x_MareNamed_22 B sp tn i2 (uR σ 20000 (rowN 6)))) hbs (B := B) ((congrFun (hP22.2.2 _ (by omega)) 900).trans hB) (by omega) (j := i73) (by omega) (p := pk i73) (((congrFun (hP22.2.2 _ (by omega)) 900).trans (congrFun (uR_ne (by omega)) 900)).trans (hpk i73 (by omega)).1) (by have h9 := (hpk i73 (by omega)).2; omega) (k := cn (σ 5005 i73)) (by first | omega | (have h9 := (hpk i73 (by omega)).2; omega))) ce_X9_code ml_X14_240 iv_X9_code cl_X9 rfl (lm_bid (σ := (x_MareNamed_22 B sp tn i2 (uR σ 20000 (rowN 6)))) (B := B) ((congrFun (hP22.2.2 _ (by omega)) 900).trans hB) (by omega) (j := i73) (by omega)) (xx_dt dd_X14_areNamed 62 rfl) (by decide) rfl rfl (Nat.le_of_ble_eq_true rfl) rfl ?_
                refine sw_iload_n O (xx_dt dd_X14_areNamed 63 rfl) rfl ?_
                refine sw_callSx (as := [.int (f_Bcode (x_MareNamed_22 B sp tn i2 (uR σ 20000 (rowN 6))) i73 (cn (σ 5005 i73))), .int (nI i2)]) (st := []) (st2 := [.int (f_of (f_Bcode (x_MareNamed_22 B sp tn i2 (uR σ 20000 (rowN 6))) i73 (cn (σ 5005 i73))) i2)]) O (ct_X14_of hl (c := f_Bcode (x_MareNamed_22 B sp tn i2 (uR σ 20000 (rowN 6))) i73 (cn (σ 5005 i73))) (r := i2) (by omega)) ce_X14_of ml_X14_53 st_X14_of (xx_dt dd_X14_areNamed 64 rfl) (by decide) rfl rfl (Nat.le_of_ble_eq_true rfl) rfl ?_
                refine sw_istore (ls2 := [.ref 5000, .int (nI i2), .ref 20000, .int s73, .int (nI i73), .int (f_of (f_Bcode (x_MareNamed_22 B sp tn i2 (uR σ 20000 (rowN 6))) i73 (cn (σ 5005 i73))) i2)]) O (xx_dt dd_X14_areNamed 65 rfl) (by decide) rfl ?_
                refine sw_iload_n O (xx_dt dd_X14_areNamed 66 rfl) rfl ?_
                refine sw_iload O (xx_dt dd_X14_areNamed 67 rfl) rfl ?_
                refine sw_iadd O (xx_dt dd_X14_areNamed 68 rfl) ?_
                refine sw_istore_n (ls2 := [.ref 5000, .int (nI i2), .ref 20000, .int (s73 + (f_of (f_Bcode (x_MareNamed_22 B sp tn i2 (uR σ 20000 (rowN 6))) i73 (cn (σ 5005 i73))) i2)), .int (nI i73), .int (f_of (f_Bcode (x_MareNamed_22 B sp tn i2 (uR σ 20000 (rowN 6))) i73 (cn (σ 5005 i73))) i2)]) O (xx_dt dd_X14_areNamed 69 rfl) (by decide) rfl ?_
                refine sw_aload_n O (xx_dt dd_X14_areNamed 70 rfl) rfl ?_
                refine sw_iload O (xx_dt dd_X14_areNamed 71 rfl) rfl ?_
                refine sw_iaload (v := .int ((x_MareNamed_22 B sp tn i2 (uR σ 20000 (rowN 6))) 20000 i73)) O (xx_dt dd_X14_areNamed 72 rfl) ((lm_tmp (z := z) (σ := (x_MareNamed_22 B sp tn i2 (uR σ 20000 (rowN 6)))) (h := h) (q := 20000) (by omega) (fl1 hP22.1) hP22.2.1 (by omega)).get _) (pk_in i73 _ (by omega)) (by rw [nI_clamp (by omega)]; try exact rfl) ?_
                refine sw_iload O (xx_dt dd_X14_areNamed 73 rfl) rfl ?_
                refine sw_icmp_eq (tgt := 144) O (xx_dt dd_X14_areNamed 74 rfl) (by decide) (fun q6 => ?_) (fun q6 => ?_)
                · refine sw_iinc (y := nI (i73 + 1)) (ls2 := [.ref 5000, .int (nI i2), .ref 20000, .int (s73 + (f_of (f_Bcode (x_MareNamed_22 B sp tn i2 (uR σ 20000 (rowN 6))) i73 (cn (σ 5005 i73))) i2)), .int (nI (i73 + 1)), .int (f_of (f_Bcode (x_MareNamed_22 B sp tn i2 (uR σ 20000 (rowN 6))) i73 (cn (σ 5005 i73))) i2)]) O (xx_dt dd_X14_areNamed 77 rfl) rfl (nI_1 _) (by decide) rfl ?_
                  refine sw_goto (tgt := 73) O (xx_dt dd_X14_areNamed 78 rfl) (by decide) ?_
                  refine sw_dum (ls2 := [.ref 5000, .int (nI i2), .ref 20000, .int (s73 + (f_of (f_Bcode (x_MareNamed_22 B sp tn i2 (uR σ 20000 (rowN 6))) i73 (cn (σ 5005 i73))) i2)), .int (nI (i73 + 1)), xx_d]) ⟨.inr rfl, .inr rfl, .inr rfl, .inr rfl, .inr rfl, .inl rfl, trivial⟩ ?_
                  exact kk73 (s73 + (f_of (f_Bcode (x_MareNamed_22 B sp tn i2 (uR σ 20000 (rowN 6))) i73 (cn (σ 5005 i73))) i2)) (by simp only [if_neg q5, if_pos q6])
                · refine sw_iconst (x := 0) O (xx_dt dd_X14_areNamed 75 rfl) (by decide) ?_
                  exact sw_iretD (h' := setM z σ h) O (xx_dt dd_X14_areNamed 76 rfl) rfl rfl (subT (σ := σ) (τ := (x_MareNamed_22 B sp tn i2 (uR σ 20000 (rowN 6)))) (q := 20000) (by omega) (hme.2.2 20000 (by omega) (by omega)).2 (fun q9 hq9 => by rw [fx_named hq9, uR_ne hq9]) hfr) hcl (by rw [hh]; exact fun r hr => hr) (by rw [hQ]; exact ⟨by rw [kr73 0 (by simp only [if_neg q5, if_neg q6])], rfl⟩)
              · refine sw_iconst (x := 0) O (xx_dt dd_X14_areNamed 51 rfl) (by decide) ?_
                refine sw_goto (tgt := 126) O (xx_dt dd_X14_areNamed 52 rfl) (by decide) ?_
                refine sw_istore (ls2 := [.ref 5000, .int (nI i2), .ref 20000, .int s73, .int (nI i73), .int 0]) O (xx_dt dd_X14_areNamed 65 rfl) (by decide) rfl ?_
                refine sw_iload_n O (xx_dt dd_X14_areNamed 66 rfl) rfl ?_
                refine sw_iload O (xx_dt dd_X14_areNamed 67 rfl) rfl ?_
                refine sw_iadd O (xx_dt dd_X14_areNamed 68 rfl) ?_
                refine sw_istore_n (ls2 := [.ref 5000, .int (nI i2), .ref 20000, .int (s73 + 0), .int (nI i73), .int 0]) O (xx_dt dd_X14_areNamed 69 rfl) (by decide) rfl ?_
                refine sw_aload_n O (xx_dt dd_X14_areNamed 70 rfl) rfl ?_
                refine sw_iload O (xx_dt dd_X14_areNamed 71 rfl) rfl ?_
                refine sw_iaload (v := .int ((x_MareNamed_22 B sp tn i2 (uR σ 20000 (rowN 6))) 20000 i73)) O (xx_dt dd_X14_areNamed 72 rfl) ((lm_tmp (z := z) (σ := (x_MareNamed_22 B sp tn i2 (uR σ 20000 (rowN 6)))) (h := h) (q := 20000) (by omega) (fl1 hP22.1) hP22.2.1 (by omega)).get _) (pk_in i73 _ (by omega)) (by rw [nI_clamp (by omega)]; try exact rfl) ?_
                refine sw_iload O (xx_dt dd_X14_areNamed 73 rfl) rfl ?_
                refine sw_icmp_eq (tgt := 144) O (xx_dt dd_X14_areNamed 74 rfl) (by decide) (fun q7 => ?_) (fun q7 => ?_)
                · refine sw_iinc (y := nI (i73 + 1)) (ls2 := [.ref 5000, .int (nI i2), .ref 20000, .int (s73 + 0), .int (nI (i73 + 1)), .int 0]) O (xx_dt dd_X14_areNamed 77 rfl) rfl (nI_1 _) (by decide) rfl ?_
                  refine sw_goto (tgt := 73) O (xx_dt dd_X14_areNamed 78 rfl) (by decide) ?_
                  refine sw_dum (ls2 := [.ref 5000, .int (nI i2), .ref 20000, .int (s73 + 0), .int (nI (i73 + 1)), xx_d]) ⟨.inr rfl, .inr rfl, .inr rfl, .inr rfl, .inr rfl, .inl rfl, trivial⟩ ?_
                  exact kk73 (s73 + 0) (by simp only [if_pos q5, if_pos q7])
                · refine sw_iconst (x := 0) O (xx_dt dd_X14_areNamed 75 rfl) (by decide) ?_
                  exact sw_iretD (h' := setM z σ h) O (xx_dt dd_X14_areNamed 76 rfl) rfl rfl (subT (σ := σ) (τ := (x_MareNamed_22 B sp tn i2 (uR σ 20000 (rowN 6)))) (q := 20000) (by omega) (hme.2.2 20000 (by omega) (by omega)).2 (fun q9 hq9 => by rw [fx_named hq9, uR_ne hq9]) hfr) hcl (by rw [hh]; exact fun r hr => hr) (by rw [hQ]; exact ⟨by rw [kr73 0 (by simp only [if_pos q5, if_neg q7])], rfl⟩)
          · show SW Y _ _ (setM z (x_MareNamed_22 B sp tn i2 (uR σ 20000 (rowN 6))) h) 73 [.ref 5000, .int (nI i2), .ref 20000, .int sN73, .int (nI B), xx_d] []
            refine sw_iload O (xx_dt dd_X14_areNamed 40 rfl) rfl ?_
            refine sw_aload_n O (xx_dt dd_X14_areNamed 41 rfl) rfl ?_
            refine sw_get (v := .ref 5002) O (xx_dt dd_X14_areNamed 42 rfl) cl_X14 fl_X14_27 (lm_mod (σ := (x_MareNamed_22 B sp tn i2 (uR σ 20000 (rowN 6))))) (by decide) rfl ?_
            refine sw_callVL (ci := 6) (as := []) (st := [.int (nI B)]) (st2 := [.int (nI B), .int (nI B)]) O (ct_AL_size hl (lm_5002 (σ := (x_MareNamed_22 B sp tn i2 (uR σ 20000 (rowN 6)))) (B := B) ((congrFun (hP22.2.2 _ (by omega)) 900).trans hB) (by omega))) ce_Jx4a65c_size_8abf5 ml_X14_57 iv_Jx4a65c_size_8abf5 cl_Jx4a65c rfl (lm_5002 (σ := (x_MareNamed_22 B sp tn i2 (uR σ 20000 (rowN 6)))) (B := B) ((congrFun (hP22.2.2 _ (by omega)) 900).trans hB) (by omega)) (xx_dt dd_X14_areNamed 43 rfl) (by decide) rfl rfl (Nat.le_of_ble_eq_true rfl) rfl ?_
            refine sw_icmp_ge (tgt := 150) O (xx_dt dd_X14_areNamed 44 rfl) (by decide) (fun q4 => ?_) (fun q4 => ?_)
            · refine sw_iload_n O (xx_dt dd_X14_areNamed 79 rfl) rfl ?_
              refine sw_aload_n O (xx_dt dd_X14_areNamed 80 rfl) rfl ?_
              refine sw_get (v := .ref 5001) O (xx_dt dd_X14_areNamed 81 rfl) cl_X14 fl_X14_23 (lm_mod (σ := (x_MareNamed_22 B sp tn i2 (uR σ 20000 (rowN 6))))) (by decide) rfl ?_
              refine sw_iload_n O (xx_dt dd_X14_areNamed 82 rfl) rfl ?_
              refine sw_callVL (ci := 6) (as := [.int (nI i2)]) (st := [.int sN73]) (st2 := [.ref (5010 + i2), .int sN73]) O (ct_get hl hbs (lm_5001 (σ := (x_MareNamed_22 B sp tn i2 (uR σ 20000 (rowN 6)))) (R := R) ((congrFun (hP22.2.2 _ (by omega)) 900).trans hR) (by omega)) (by omega) (i := i2) (x := 5010 + i2) (by omega) (by omega) rfl) ce_Jx4a65c_get_915e3 ml_X14_61 iv_Jx4a65c_get_915e3 cl_Jx4a65c rfl (lm_5001 (σ := (x_MareNamed_22 B sp tn i2 (uR σ 20000 (rowN 6)))) (R := R) ((congrFun (hP22.2.2 _ (by omega)) 900).trans hR) (by omega)) (xx_dt dd_X14_areNamed 83 rfl) (by decide) rfl rfl (Nat.le_of_ble_eq_true rfl) rfl ?_
              refine sw_castO O (xx_dt dd_X14_areNamed 84 rfl) cl_X12 (lm_reg (σ := (x_MareNamed_22 B sp tn i2 (uR σ 20000 (rowN 6)))) (R := R) ((congrFun (hP22.2.2 _ (by omega)) 900).trans hR) (by omega) (j := i2) (by omega)) cw_X14_65 ?_
              have hz162 := (hsp i2 (by omega)).2
              refine sw_get (v := .int (nI (sp i2))) O (xx_dt dd_X14_areNamed 85 rfl) cl_X12 fl_X14_81 (lm_reg (σ := (x_MareNamed_22 B sp tn i2 (uR σ 20000 (rowN 6)))) (R := R) ((congrFun (hP22.2.2 _ (by omega)) 900).trans hR) (by omega) (j := i2) (by omega)) (by decide) (congrArg Value.int (((congrFun (hP22.2.2 _ (by omega)) 0).trans (congrFun (uR_ne (by omega)) 0)).trans (hsp i2 (by omega)).1)) ?_
              refine sw_icmp_le (tgt := 170) O (xx_dt dd_X14_areNamed 86 rfl) (by decide) (fun q8 => ?_) (fun q8 => ?_)
              · refine sw_iinc (y := nI (i2 + 1)) (ls2 := [.ref 5000, .int (nI (i2 + 1)), .ref 20000, .int sN73, .int (nI B), xx_d]) O (xx_dt dd_X14_areNamed 89 rfl) rfl (nI_1 _) (by decide) rfl ?_
                refine sw_goto (tgt := 2) O (xx_dt dd_X14_areNamed 90 rfl) (by decide) ?_
                refine sw_dum (ls2 := [.ref 5000, .int (nI (i2 + 1)), xx_d, xx_d, xx_d, xx_d]) ⟨.inr rfl, .inr rfl, .inl rfl, .inl rfl, .inl rfl, .inr rfl, trivial⟩ ?_
                refine sw_drop (h2 := setM z σ h) (subT (σ := σ) (τ := (x_MareNamed_22 B sp tn i2 (uR σ 20000 (rowN 6)))) (q := 20000) (by omega) (hme.2.2 20000 (by omega) (by omega)).2 (fun q9 hq9 => by rw [fx_named hq9, uR_ne hq9]) hfr) hcl (by rw [hh]; exact fun r hr => hr) (by intro v9 hv9; simp only [List.mem_cons, List.not_mem_nil, or_false] at hv9; rcases hv9 with rfl | rfl | rfl | rfl | rfl | rfl <;> first | exact in_mod | trivial) (by intro v9 hv9; cases hv9) ?_
                refine xx_wid (k' := 0 + 1 * (R - (i2 + 1))) (n' := 0 + 6 * (R - (i2 + 1))) (by omega) (by omega) ?_
                exact kk2 () (by simp only [if_pos q8, x_MareNamed_73, eN73])
              · refine sw_iconst (x := 0) O (xx_dt dd_X14_areNamed 87 rfl) (by decide) ?_
                exact sw_iretD (h' := setM z σ h) O (xx_dt dd_X14_areNamed 88 rfl) rfl rfl (subT (σ := σ) (τ := (x_MareNamed_22 B sp tn i2 (uR σ 20000 (rowN 6)))) (q := 20000) (by omega) (hme.2.2 20000 (by omega) (by omega)).2 (fun q9 hq9 => by rw [fx_named hq9, uR_ne hq9]) hfr) hcl (by rw [hh]; exact fun r hr => hr) (by rw [hQ]; exact ⟨by rw [kr2 0 (by simp only [if_neg q8, x_MareNamed_73, eN73])], rfl⟩)
            · exact absurd (Int32.le_refl _) q4
          · exact kr2 r73 (by simp only [x_MareNamed_73, eN73])
        · exact absurd (Int32.le_refl _) q2
  · show SW Y _ _ (setM z σ h) 2 [.ref 5000, .int (nI R), xx_d, xx_d, xx_d, xx_d] []
    refine xx_wid (k' := 0) (n' := 0) (by show _ ≤ 0 + 1 * (R - R); omega) (by show _ ≤ 0 + 6 * (R - R); omega) ?_
    refine sw_iload_n O (xx_dt dd_X14_areNamed 2 rfl) rfl ?_
    refine sw_aload_n O (xx_dt dd_X14_areNamed 3 rfl) rfl ?_
    refine sw_get (v := .ref 5001) O (xx_dt dd_X14_areNamed 4 rfl) cl_X14 fl_X14_23 (lm_mod (σ := σ)) (by decide) rfl ?_
    refine sw_callVL (ci := 6) (as := []) (st := [.int (nI R)]) (st2 := [.int (nI R), .int (nI R)]) O (ct_AL_size hl (lm_5001 (σ := σ) (R := R) hR (by omega))) ce_Jx4a65c_size_8abf5 ml_X14_57 iv_Jx4a65c_size_8abf5 cl_Jx4a65c rfl (lm_5001 (σ := σ) (R := R) hR (by omega)) (xx_dt dd_X14_areNamed 5 rfl) (by decide) rfl rfl (Nat.le_of_ble_eq_true rfl) rfl ?_
    refine sw_icmp_ge (tgt := 176) O (xx_dt dd_X14_areNamed 6 rfl) (by decide) (fun q1 => ?_) (fun q1 => ?_)
    · refine sw_iconst (x := 1) O (xx_dt dd_X14_areNamed 91 rfl) (by decide) ?_
      exact sw_iret O (xx_dt dd_X14_areNamed 92 rfl) rfl rfl (by rw [hQ]; exact ⟨by unfold f_MareNamed; simp only [x_MareNamed_2, eN2], rfl⟩)
    · exact absurd (Int32.le_refl _) q1
  · unfold f_MareNamed; simp only [x_MareNamed_2, eN2]
end
section
/-! ===== the reference: isSound ===== -/
def x_MisSound_c_26 (σ : XS9) (R B K C : Nat) (pk : Nat → Nat) (g : Nat) (tn sp : Nat → Nat) (i2 : Nat) (s0 : Unit) : Unit ⊕ Int32 := xitR (fun i26 s26 => (if (f_of (f_MheldCode_c σ i2 g) i26) ≤ (nI (sp i26)) then .inl () else .inr 0)) R 0 s0
def x_MisSound_c_2 (σ : XS9) (R B K C : Nat) (pk : Nat → Nat) (g : Nat) (tn sp : Nat → Nat) (s0 : Unit) : Unit ⊕ Int32 := xitR (fun i2 s2 => (if 0 ≤ (f_MofBidderNow σ i2 R B pk g 1) then (match (x_MisSound_c_26 σ R B K C pk g tn sp i2 ()) with | .inl s26 => (if (σ 5000 1) = 3 then (if (σ 5005 i2) = (-1) then .inl () else (if (σ 5006 i2) ≤ (f_Bamount σ i2 (cn (σ 5005 i2))) then .inl () else .inr 0)) else .inl ()) | .inr r26 => .inr r26) else .inr 0)) B 0 s0
def x_MisSound_c_128 (σ : XS9) (R B K C : Nat) (pk : Nat → Nat) (g : Nat) (tn sp : Nat → Nat) (s0 : Unit) : Unit ⊕ Int32 := xitR (fun i128 s128 => (if (σ (5010 + i128) 2) ≤ (f_MofRegionNow σ i128 R B C g 3) then .inl () else .inr 0)) R 0 s0
def f_MisSound_c (σ : XS9) (R B K C : Nat) (pk : Nat → Nat) (g : Nat) (tn sp : Nat → Nat) : Int32 := (match (x_MisSound_c_2 σ R B K C pk g tn sp ()) with | .inl s2 => (match (x_MisSound_c_128 σ R B K C pk g tn sp ()) with | .inl s128 => (if (σ 5000 1) = 3 then (if (f_MareNamed σ R B sp tn pk) = 0 then 0 else (if (f_MisLogged σ R B K) = 0 then 0 else 1)) else (if (f_MisLogged σ R B K) = 0 then 0 else 1)) | .inr r128 => r128) | .inr r2 => r2)
theorem ct_MisSound_c {l : Launch} {h : XH} (hl : l.stackTraces = false) {z : Int64} {σ : XS9} (hbs : xx_bs h) (hfr : ∀ r, 5000 ≤ r → r < 20010 → h r = none) (hme : mem_eq σ σ) {R : Nat} (hR : σ 5001 900 = nI R) (hR5 : R ≤ 5) {B : Nat} (hB : σ 5002 900 = nI B) (hB6 : B ≤ 6) {K : Nat} (hK : σ 5003 900 = nI K) (hK60 : K ≤ 60) {C : Nat} (hS : σ 5004 900 = nI (2 * C)) (hC10 : C ≤ 10) {pk : Nat → Nat} (hpk : ∀ j, j < B → σ (5030 + j) 900 = nI (2 * pk j) ∧ pk j ≤ 6) (hkp : σ 5000 1 = 3 → ∀ j, j < B → σ 5005 j = -1 ∨ ∃ n, n < pk j ∧ σ 5005 j = nI n) {tn : Nat → Nat} (htn : ∀ r, r < 5 → σ 5007 r = nI (tn r) ∧ tn r < 6) {sp : Nat → Nat} (hsp : ∀ r, r < R → σ (5010 + r) 0 = nI (sp r) ∧ sp r ≤ 5) (hho : ∀ (s : XS9) i j, (∀ q, q ≠ 20000 → s q = σ q) → i < R → j < sp i → f_MholderNow s i (nI j) B tn = -1 ∨ n_lt (f_MholderNow s i (nI j) B tn) 6) {g : Nat} (hg : σ 7000 23 = nI g) (hg1 : g < 200) {w : Nat} (hw : σ 7000 24 = nI w) (hw1 : w < 200) (hf : σ 7000 20 = nI 1) (hf5 : σ 7000 25 = nI 1) {GA : Nat → XS9 → Prop} (ha : AH GA σ (-1) 0 0 0 R B K)  : XEx l m_X14_isSoundNow 12 495 8668 [.ref 5000] (setM z σ h) (some (.int (f_MisSound_c σ R B K C pk g tn sp))) (setM z σ h) := by
  refine XMet.of hl rfl rfl (Nat.le_of_ble_eq_true rfl) (fun Y O hh hQ => ?_)
  have hfl : σ 7000 25 = nI 0 ∨ (σ 7000 25 = nI 1 ∧ σ 7000 20 = nI 1) := .inr ⟨hf5, hf⟩
  show SW Y 495 8668 (setM z σ h) 0 [.ref 5000, xx_d, xx_d] []
  refine sw_iconst (x := 0) O (xx_dt dd_X14_isSoundNow 0 rfl) (by decide) ?_
  refine sw_istore_n (ls2 := [.ref 5000, .int 0, xx_d]) O (xx_dt dd_X14_isSoundNow 1 rfl) (by decide) rfl ?_
  refine sw_forR (S := Unit) (R := Int32) (fun i2 s2 => (if 0 ≤ (f_MofBidderNow σ i2 R B pk g 1) then (match (x_MisSound_c_26 σ R B K C pk g tn sp i2 ()) with | .inl s26 => (if (σ 5000 1) = 3 then (if (σ 5005 i2) = (-1) then .inl () else (if (σ 5006 i2) ≤ (f_Bamount σ i2 (cn (σ 5005 i2))) then .inl () else .inr 0)) else .inl ()) | .inr r26 => .inr r26) else .inr 0)) (fun _ _ => True) (FR := fun r9 => f_MisSound_c σ R B K C pk g tn sp = r9) (hp := fun _ => setM z σ h) (hd := 2) (lc := fun i2 s2 => [.ref 5000, .int (nI i2), xx_d]) (N := B) (fun i2 s2 hi2 hP2 => ⟨fun _ _ => trivial, fun kk2 kr2 => ?_⟩) B 0 () (by omega) (trivial) (fun sN2 eN2 hP2 => ?_) (fun r2 eN2 => ?_)
  · refine sw_iload_n O (xx_dt dd_X14_isSoundNow 2 rfl) rfl ?_
    refine sw_aload_n O (xx_dt dd_X14_isSoundNow 3 rfl) rfl ?_
    refine sw_get (v := .ref 5002) O (xx_dt dd_X14_isSoundNow 4 rfl) cl_X14 fl_X14_27 (lm_modC (σ := σ) (fl1 hf5)) (by decide) rfl ?_
    refine sw_callVL (ci := 6) (as := []) (st := [.int (nI i2)]) (st2 := [.int (nI B), .int (nI i2)]) O (ct_AL_size hl (lm_5002 (σ := σ) (B := B) hB (by omega))) ce_Jx4a65c_size_8abf5 ml_X14_57 iv_Jx4a65c_size_8abf5 cl_Jx4a65c rfl (lm_5002 (σ := σ) (B := B) hB (by omega)) (xx_dt dd_X14_isSoundNow 5 rfl) (by decide) rfl rfl (Nat.le_of_ble_eq_true rfl) rfl ?_
    refine sw_icmp_ge (tgt := 126) O (xx_dt dd_X14_isSoundNow 6 rfl) (by decide) (fun q1 => ?_) (fun q1 => ?_)
    · exact absurd q1 (nI_ge (b := B) hi2 (by omega))
    · refine sw_aload_n O (xx_dt dd_X14_isSoundNow 7 rfl) rfl ?_
      refine sw_iload_n O (xx_dt dd_X14_isSoundNow 8 rfl) rfl ?_
      refine sw_iconst (x := 1) O (xx_dt dd_X14_isSoundNow 9 rfl) (by decide) ?_
      refine sw_callVx (as := [.int (nI i2), .int 1]) (st := []) (st2 := [.int (f_MofBidderNow σ i2 R B pk g 1)]) O ((show XEx _ _ _ _ _ [_, _, .int 1] _ _ _ from ct_X14_ofBidderNow hl (z := z) (σ := σ) hbs (R := R) hR (by omega) (B := B) hB (by omega) (pk := pk) hpk (i := i2) (by omega) hfl (g := g) hg (by omega) (w := w) hw (by omega) (v := 1) (by omega))) ce_X14_ofBidderNow ml_X14_311 iv_X14_ofBidderNow cl_X14 rfl (lm_modC (σ := σ) (fl1 hf5)) (xx_dt dd_X14_isSoundNow 10 rfl) (by decide) rfl rfl (Nat.le_of_ble_eq_true rfl) rfl ?_
      refine sw_if_ge (tgt := 24) O (xx_dt dd_X14_isSoundNow 11 rfl) (by decide) (fun q2 => ?_) (fun q2 => ?_)
      · refine sw_iconst (x := 0) O (xx_dt dd_X14_isSoundNow 14 rfl) (by decide) ?_
        refine sw_istore_n (ls2 := [.ref 5000, .int (nI i2), .int 0]) O (xx_dt dd_X14_isSoundNow 15 rfl) (by decide) rfl ?_
        refine sw_forR (S := Unit) (R := Int32) (fun i26 s26 => (if (f_of (f_MheldCode_c σ i2 g) i26) ≤ (nI (sp i26)) then .inl () else .inr 0)) (fun _ _ => True) (FR := fun r9 => f_MisSound_c σ R B K C pk g tn sp = r9) (hp := fun _ => setM z σ h) (hd := 26) (lc := fun i26 s26 => [.ref 5000, .int (nI i2), .int (nI i26)]) (N := R) (fun i26 s26 hi26 hP26 => ⟨fun _ _ => trivial, fun kk26 kr26 => ?_⟩) R 0 () (by omega) (trivial) (fun sN26 eN26 hP26 => ?_) (fun r26 eN26 => ?_)
        · refine sw_iload_n O (xx_dt dd_X14_isSoundNow 16 rfl) rfl ?_
          refine sw_aload_n O (xx_dt dd_X14_isSoundNow 17 rfl) rfl ?_
          refine sw_get (v := .ref 5001) O (xx_dt dd_X14_isSoundNow 18 rfl) cl_X14 fl_X14_23 (lm_modC (σ := σ) (fl1 hf5)) (by decide) rfl ?_
          refine sw_callVL (ci := 6) (as := []) (st := [.int (nI i26)]) (st2 := [.int (nI R), .int (nI i26)]) O (ct_AL_size hl (lm_5001 (σ := σ) (R := R) hR (by omega))) ce_Jx4a65c_size_8abf5 ml_X14_57 iv_Jx4a65c_size_8abf5 cl_Jx4a65c rfl (lm_5001 (σ := σ) (R := R) hR (by omega)) (xx_dt dd_X14_isSoundNow 19 rfl) (by decide) rfl rfl (Nat.le_of_ble_eq_true rfl) rfl ?_
          refine sw_icmp_ge (tgt := 71) O (xx_dt dd_X14_isSoundNow 20 rfl) (by decide) (fun q3 => ?_) (fun q3 => ?_)
          · exact absurd q3 (nI_ge (b := R) hi26 (by omega))
          · refine sw_aload_n O (xx_dt dd_X14_isSoundNow 21 rfl) rfl ?_
            refine sw_iload_n O (xx_dt dd_X14_isSoundNow 22 rfl) rfl ?_
            refine sw_callVx (as := [.int (nI i2)]) (st := []) (st2 := [.int (f_MheldCode_c σ i2 g)]) O (ct_MheldCode_c hl (z := z) (σ := σ) hbs (i := i2) (by omega) hf hf5 (g := g) hg (by omega) (w := w) hw (by omega)) ce_X14_heldCode ml_X14_302 iv_X14_heldCode cl_X14 rfl (lm_modC (σ := σ) (fl1 hf5)) (xx_dt dd_X14_isSoundNow 23 rfl) (by decide) rfl rfl (Nat.le_of_ble_eq_true rfl) rfl ?_
            refine sw_iload_n O (xx_dt dd_X14_isSoundNow 24 rfl) rfl ?_
            refine sw_callSx (as := [.int (f_MheldCode_c σ i2 g), .int (nI i26)]) (st := []) (st2 := [.int (f_of (f_MheldCode_c σ i2 g) i26)]) O (ct_X14_of hl (c := f_MheldCode_c σ i2 g) (r := i26) (by omega)) ce_X14_of ml_X14_53 st_X14_of (xx_dt dd_X14_isSoundNow 25 rfl) (by decide) rfl rfl (Nat.le_of_ble_eq_true rfl) rfl ?_
            refine sw_aload_n O (xx_dt dd_X14_isSoundNow 26 rfl) rfl ?_
            refine sw_get (v := .ref 5001) O (xx_dt dd_X14_isSoundNow 27 rfl) cl_X14 fl_X14_23 (lm_modC (σ := σ) (fl1 hf5)) (by decide) rfl ?_
            refine sw_iload_n O (xx_dt dd_X14_isSoundNow 28 rfl) rfl ?_
            refine sw_callVL (ci := 6) (as := [.int (nI i26)]) (st := [.int (f_of (f_MheldCode_c σ i2 g) i26)]) (st2 := [.ref (5010 + i26), .int (f_of (f_MheldCode_c σ i2 g) i26)]) O (ct_get hl hbs (lm_5001 (σ := σ) (R := R) hR (by omega)) (by omega) (i := i26) (x := 5010 + i26) (by omega) (by omega) rfl) ce_Jx4a65c_get_915e3 ml_X14_61 iv_Jx4a65c_get_915e3 cl_Jx4a65c rfl (lm_5001 (σ := σ) (R := R) hR (by omega)) (xx_dt dd_X14_isSoundNow 29 rfl) (by decide) rfl rfl (Nat.le_of_ble_eq_true rfl) rfl ?_
            refine sw_castO O (xx_dt dd_X14_isSoundNow 30 rfl) cl_X12 (lm_reg (σ := σ) (R := R) hR (by omega) (j := i26) (by omega)) cw_X14_65 ?_
            have hz57 := (hsp i26 (by omega)).2
            refine sw_get (v := .int (nI (sp i26))) O (xx_dt dd_X14_isSoundNow 31 rfl) cl_X12 fl_X14_81 (lm_reg (σ := σ) (R := R) hR (by omega) (j := i26) (by omega)) (by decide) (congrArg Value.int (hsp i26 (by omega)).1) ?_
            refine sw_icmp_le (tgt := 65) O (xx_dt dd_X14_isSoundNow 32 rfl) (by decide) (fun q4 => ?_) (fun q4 => ?_)
            · refine sw_iinc (y := nI (i26 + 1)) (ls2 := [.ref 5000, .int (nI i2), .int (nI (i26 + 1))]) O (xx_dt dd_X14_isSoundNow 35 rfl) rfl (nI_1 _) (by decide) rfl ?_
              refine sw_goto (tgt := 26) O (xx_dt dd_X14_isSoundNow 36 rfl) (by decide) ?_
              exact kk26 () (by simp only [if_pos q4])
            · refine sw_iconst (x := 0) O (xx_dt dd_X14_isSoundNow 33 rfl) (by decide) ?_
              exact sw_iret O (xx_dt dd_X14_isSoundNow 34 rfl) rfl rfl (by rw [hQ, kr26 0 (by simp only [if_neg q4])]; exact ⟨rfl, rfl⟩)
        · show SW Y _ _ (setM z σ h) 26 [.ref 5000, .int (nI i2), .int (nI R)] []
          refine sw_iload_n O (xx_dt dd_X14_isSoundNow 16 rfl) rfl ?_
          refine sw_aload_n O (xx_dt dd_X14_isSoundNow 17 rfl) rfl ?_
          refine sw_get (v := .ref 5001) O (xx_dt dd_X14_isSoundNow 18 rfl) cl_X14 fl_X14_23 (lm_modC (σ := σ) (fl1 hf5)) (by decide) rfl ?_
          refine sw_callVL (ci := 6) (as := []) (st := [.int (nI R)]) (st2 := [.int (nI R), .int (nI R)]) O (ct_AL_size hl (lm_5001 (σ := σ) (R := R) hR (by omega))) ce_Jx4a65c_size_8abf5 ml_X14_57 iv_Jx4a65c_size_8abf5 cl_Jx4a65c rfl (lm_5001 (σ := σ) (R := R) hR (by omega)) (xx_dt dd_X14_isSoundNow 19 rfl) (by decide) rfl rfl (Nat.le_of_ble_eq_true rfl) rfl ?_
          refine sw_icmp_ge (tgt := 71) O (xx_dt dd_X14_isSoundNow 20 rfl) (by decide) (fun q3 => ?_) (fun q3 => ?_)
          · refine sw_aload_n O (xx_dt dd_X14_isSoundNow 37 rfl) rfl ?_
            refine sw_get (v := .int (σ 5000 1)) O (xx_dt dd_X14_isSoundNow 38 rfl) cl_X14 fl_X14_77 (lm_modC (σ := σ) (fl1 hf5)) (by decide) rfl ?_
            refine sw_iconst (x := 3) O (xx_dt dd_X14_isSoundNow 39 rfl) (by decide) ?_
            refine sw_icmp_ne (tgt := 120) O (xx_dt dd_X14_isSoundNow 40 rfl) (by decide) (fun q5 => ?_) (fun q5 => ?_)
            · refine sw_iinc (y := nI (i2 + 1)) (ls2 := [.ref 5000, .int (nI (i2 + 1)), .int (nI R)]) O (xx_dt dd_X14_isSoundNow 64 rfl) rfl (nI_1 _) (by decide) rfl ?_
              refine sw_goto (tgt := 2) O (xx_dt dd_X14_isSoundNow 65 rfl) (by decide) ?_
              refine sw_dum (ls2 := [.ref 5000, .int (nI (i2 + 1)), xx_d]) ⟨.inr rfl, .inr rfl, .inl rfl, trivial⟩ ?_
              exact kk2 () (by simp only [if_pos q2, if_neg q5, x_MisSound_c_26, eN26])
            · refine sw_aload_n O (xx_dt dd_X14_isSoundNow 41 rfl) rfl ?_
              refine sw_get (v := .ref 5005) O (xx_dt dd_X14_isSoundNow 42 rfl) cl_X14 fl_X14_36 (lm_modC (σ := σ) (fl1 hf5)) (by decide) rfl ?_
              refine sw_iload_n O (xx_dt dd_X14_isSoundNow 43 rfl) rfl ?_
              refine sw_iaload (v := .int (σ 5005 i2)) O (xx_dt dd_X14_isSoundNow 44 rfl) ((im_5005 (z := z) (σ := σ)).get _) (pk_in i2 _ (by omega)) (by rw [nI_clamp (by omega)]; try exact rfl) ?_
              refine sw_iconst (x := (-1)) O (xx_dt dd_X14_isSoundNow 45 rfl) (by decide) ?_
              refine sw_icmp_eq (tgt := 120) O (xx_dt dd_X14_isSoundNow 46 rfl) (by decide) (fun q6 => ?_) (fun q6 => ?_)
              · refine sw_iinc (y := nI (i2 + 1)) (ls2 := [.ref 5000, .int (nI (i2 + 1)), .int (nI R)]) O (xx_dt dd_X14_isSoundNow 64 rfl) rfl (nI_1 _) (by decide) rfl ?_
                refine sw_goto (tgt := 2) O (xx_dt dd_X14_isSoundNow 65 rfl) (by decide) ?_
                refine sw_dum (ls2 := [.ref 5000, .int (nI (i2 + 1)), xx_d]) ⟨.inr rfl, .inr rfl, .inl rfl, trivial⟩ ?_
                exact kk2 () (by simp only [if_pos q2, if_pos q5, if_pos q6, x_MisSound_c_26, eN26])
              · have hc86 := (kept_nat (hkp q5 _ (by omega)) q6 (by have := (hpk i2 (by omega)).2; omega))
                have hd86 := hc86.2
                refine sw_aload_n O (xx_dt dd_X14_isSoundNow 47 rfl) rfl ?_
                refine sw_get (v := .ref 5006) O (xx_dt dd_X14_isSoundNow 48 rfl) cl_X14 fl_X14_40 (lm_modC (σ := σ) (fl1 hf5)) (by decide) rfl ?_
                refine sw_iload_n O (xx_dt dd_X14_isSoundNow 49 rfl) rfl ?_
                refine sw_iaload (v := .int (σ 5006 i2)) O (xx_dt dd_X14_isSoundNow 50 rfl) ((im_5006 (z := z) (σ := σ)).get _) (pk_in i2 _ (by omega)) (by rw [nI_clamp (by omega)]; try exact rfl) ?_
                refine sw_aload_n O (xx_dt dd_X14_isSoundNow 51 rfl) rfl ?_
                refine sw_get (v := .ref 5002) O (xx_dt dd_X14_isSoundNow 52 rfl) cl_X14 fl_X14_27 (lm_modC (σ := σ) (fl1 hf5)) (by decide) rfl ?_
                refine sw_iload_n O (xx_dt dd_X14_isSoundNow 53 rfl) rfl ?_
                refine sw_callVL (ci := 6) (as := [.int (nI i2)]) (st := [.int (σ 5006 i2)]) (st2 := [.ref (5020 + i2), .int (σ 5006 i2)]) O (ct_get hl hbs (lm_5002 (σ := σ) (B := B) hB (by omega)) (by omega) (i := i2) (x := 5020 + i2) (by omega) (by omega) rfl) ce_Jx4a65c_get_915e3 ml_X14_61 iv_Jx4a65c_get_915e3 cl_Jx4a65c rfl (lm_5002 (σ := σ) (B := B) hB (by omega)) (xx_dt dd_X14_isSoundNow 54 rfl) (by decide) rfl rfl (Nat.le_of_ble_eq_true rfl) rfl ?_
                refine sw_castO O (xx_dt dd_X14_isSoundNow 55 rfl) cl_X9 (lm_bid (σ := σ) (B := B) hB (by omega) (j := i2) (by omega)) cw_X14_118 ?_
                refine sw_aload_n O (xx_dt dd_X14_isSoundNow 56 rfl) rfl ?_
                refine sw_get (v := .ref 5005) O (xx_dt dd_X14_isSoundNow 57 rfl) cl_X14 fl_X14_36 (lm_modC (σ := σ) (fl1 hf5)) (by decide) rfl ?_
                refine sw_iload_n O (xx_dt dd_X14_isSoundNow 58 rfl) rfl ?_
                refine sw_iaload (v := .int (nI (cn (σ 5005 i2)))) O (xx_dt dd_X14_isSoundNow 59 rfl) ((im_5005 (z := z) (σ := σ)).get _) (pk_in i2 _ (by omega)) (by rw [nI_clamp (by omega)]; exact (congrArg Value.int hc86.1)) ?_
                refine sw_callVx (as := [.int (nI (cn (σ 5005 i2)))]) (st := [.int (σ 5006 i2)]) (st2 := [.int (f_Bamount σ i2 (cn (σ 5005 i2))), .int (σ 5006 i2)]) O (ct_X9_amount hl (z := z) (σ := σ) hbs (B := B) hB (by omega) (j := i2) (by omega) (p := pk i2) (hpk i2 (by omega)).1 (by have h9 := (hpk i2 (by omega)).2; omega) (k := cn (σ 5005 i2)) (by first | omega | (have h9 := (hpk i2 (by omega)).2; omega))) ce_X9_amount ml_X14_252 iv_X9_amount cl_X9 rfl (lm_bid (σ := σ) (B := B) hB (by omega) (j := i2) (by omega)) (xx_dt dd_X14_isSoundNow 60 rfl) (by decide) rfl rfl (Nat.le_of_ble_eq_true rfl) rfl ?_
                refine sw_icmp_le (tgt := 120) O (xx_dt dd_X14_isSoundNow 61 rfl) (by decide) (fun q7 => ?_) (fun q7 => ?_)
                · refine sw_iinc (y := nI (i2 + 1)) (ls2 := [.ref 5000, .int (nI (i2 + 1)), .int (nI R)]) O (xx_dt dd_X14_isSoundNow 64 rfl) rfl (nI_1 _) (by decide) rfl ?_
                  refine sw_goto (tgt := 2) O (xx_dt dd_X14_isSoundNow 65 rfl) (by decide) ?_
                  refine sw_dum (ls2 := [.ref 5000, .int (nI (i2 + 1)), xx_d]) ⟨.inr rfl, .inr rfl, .inl rfl, trivial⟩ ?_
                  exact kk2 () (by simp only [if_pos q2, if_pos q5, if_neg q6, if_pos q7, x_MisSound_c_26, eN26])
                · refine sw_iconst (x := 0) O (xx_dt dd_X14_isSoundNow 62 rfl) (by decide) ?_
                  exact sw_iret O (xx_dt dd_X14_isSoundNow 63 rfl) rfl rfl (by rw [hQ, kr2 0 (by simp only [if_pos q2, if_pos q5, if_neg q6, if_neg q7, x_MisSound_c_26, eN26])]; exact ⟨rfl, rfl⟩)
          · exact absurd (Int32.le_refl _) q3
        · exact kr2 r26 (by simp only [if_pos q2, x_MisSound_c_26, eN26])
      · refine sw_iconst (x := 0) O (xx_dt dd_X14_isSoundNow 12 rfl) (by decide) ?_
        exact sw_iret O (xx_dt dd_X14_isSoundNow 13 rfl) rfl rfl (by rw [hQ, kr2 0 (by simp only [if_neg q2])]; exact ⟨rfl, rfl⟩)
  · show SW Y _ _ (setM z σ h) 2 [.ref 5000, .int (nI B), xx_d] []
    refine sw_iload_n O (xx_dt dd_X14_isSoundNow 2 rfl) rfl ?_
    refine sw_aload_n O (xx_dt dd_X14_isSoundNow 3 rfl) rfl ?_
    refine sw_get (v := .ref 5002) O (xx_dt dd_X14_isSoundNow 4 rfl) cl_X14 fl_X14_27 (lm_modC (σ := σ) (fl1 hf5)) (by decide) rfl ?_
    refine sw_callVL (ci := 6) (as := []) (st := [.int (nI B)]) (st2 := [.int (nI B), .int (nI B)]) O (ct_AL_size hl (lm_5002 (σ := σ) (B := B) hB (by omega))) ce_Jx4a65c_size_8abf5 ml_X14_57 iv_Jx4a65c_size_8abf5 cl_Jx4a65c rfl (lm_5002 (σ := σ) (B := B) hB (by omega)) (xx_dt dd_X14_isSoundNow 5 rfl) (by decide) rfl rfl (Nat.le_of_ble_eq_true rfl) rfl ?_
    refine sw_icmp_ge (tgt := 126) O (xx_dt dd_X14_isSoundNow 6 rfl) (by decide) (fun q1 => ?_) (fun q1 => ?_)
    · refine sw_iconst (x := 0) O (xx_dt dd_X14_isSoundNow 66 rfl) (by decide) ?_
      refine sw_istore_n (ls2 := [.ref 5000, .int 0, xx_d]) O (xx_dt dd_X14_isSoundNow 67 rfl) (by decide) rfl ?_
      refine sw_forR (S := Unit) (R := Int32) (fun i128 s128 => (if (σ (5010 + i128) 2) ≤ (f_MofRegionNow σ i128 R B C g 3) then .inl () else .inr 0)) (fun _ _ => True) (FR := fun r9 => f_MisSound_c σ R B K C pk g tn sp = r9) (hp := fun _ => setM z σ h) (hd := 128) (lc := fun i128 s128 => [.ref 5000, .int (nI i128), xx_d]) (N := R) (fun i128 s128 hi128 hP128 => ⟨fun _ _ => trivial, fun kk128 kr128 => ?_⟩) R 0 () (by omega) (trivial) (fun sN128 eN128 hP128 => ?_) (fun r128 eN128 => ?_)
      · refine sw_iload_n O (xx_dt dd_X14_isSoundNow 68 rfl) rfl ?_
        refine sw_aload_n O (xx_dt dd_X14_isSoundNow 69 rfl) rfl ?_
        refine sw_get (v := .ref 5001) O (xx_dt dd_X14_isSoundNow 70 rfl) cl_X14 fl_X14_23 (lm_modC (σ := σ) (fl1 hf5)) (by decide) rfl ?_
        refine sw_callVL (ci := 6) (as := []) (st := [.int (nI i128)]) (st2 := [.int (nI R), .int (nI i128)]) O (ct_AL_size hl (lm_5001 (σ := σ) (R := R) hR (by omega))) ce_Jx4a65c_size_8abf5 ml_X14_57 iv_Jx4a65c_size_8abf5 cl_Jx4a65c rfl (lm_5001 (σ := σ) (R := R) hR (by omega)) (xx_dt dd_X14_isSoundNow 71 rfl) (by decide) rfl rfl (Nat.le_of_ble_eq_true rfl) rfl ?_
        refine sw_icmp_ge (tgt := 170) O (xx_dt dd_X14_isSoundNow 72 rfl) (by decide) (fun q8 => ?_) (fun q8 => ?_)
        · exact absurd q8 (nI_ge (b := R) hi128 (by omega))
        · refine sw_aload_n O (xx_dt dd_X14_isSoundNow 73 rfl) rfl ?_
          refine sw_iload_n O (xx_dt dd_X14_isSoundNow 74 rfl) rfl ?_
          refine sw_iconst (x := 3) O (xx_dt dd_X14_isSoundNow 75 rfl) (by decide) ?_
          refine sw_callVx (as := [.int (nI i128), .int 3]) (st := []) (st2 := [.int (f_MofRegionNow σ i128 R B C g 3)]) O ((show XEx _ _ _ _ _ [_, _, .int 3] _ _ _ from ct_X14_ofRegionNow hl (z := z) (σ := σ) hbs (R := R) hR (by omega) (B := B) hB (by omega) (C := C) hS (by omega) (r := i128) (by omega) hfl (g := g) hg (by omega) (w := w) hw (by omega) (v := 3) (by omega))) ce_X14_ofRegionNow ml_X14_299 iv_X14_ofRegionNow cl_X14 rfl (lm_modC (σ := σ) (fl1 hf5)) (xx_dt dd_X14_isSoundNow 76 rfl) (by decide) rfl rfl (Nat.le_of_ble_eq_true rfl) rfl ?_
          refine sw_aload_n O (xx_dt dd_X14_isSoundNow 77 rfl) rfl ?_
          refine sw_get (v := .ref 5001) O (xx_dt dd_X14_isSoundNow 78 rfl) cl_X14 fl_X14_23 (lm_modC (σ := σ) (fl1 hf5)) (by decide) rfl ?_
          refine sw_iload_n O (xx_dt dd_X14_isSoundNow 79 rfl) rfl ?_
          refine sw_callVL (ci := 6) (as := [.int (nI i128)]) (st := [.int (f_MofRegionNow σ i128 R B C g 3)]) (st2 := [.ref (5010 + i128), .int (f_MofRegionNow σ i128 R B C g 3)]) O (ct_get hl hbs (lm_5001 (σ := σ) (R := R) hR (by omega)) (by omega) (i := i128) (x := 5010 + i128) (by omega) (by omega) rfl) ce_Jx4a65c_get_915e3 ml_X14_61 iv_Jx4a65c_get_915e3 cl_Jx4a65c rfl (lm_5001 (σ := σ) (R := R) hR (by omega)) (xx_dt dd_X14_isSoundNow 80 rfl) (by decide) rfl rfl (Nat.le_of_ble_eq_true rfl) rfl ?_
          refine sw_castO O (xx_dt dd_X14_isSoundNow 81 rfl) cl_X12 (lm_reg (σ := σ) (R := R) hR (by omega) (j := i128) (by omega)) cw_X14_65 ?_
          refine sw_get (v := .int (σ (5010 + i128) 2)) O (xx_dt dd_X14_isSoundNow 82 rfl) cl_X12 fl_X14_84 (lm_reg (σ := σ) (R := R) hR (by omega) (j := i128) (by omega)) (by decide) rfl ?_
          refine sw_icmp_ge (tgt := 164) O (xx_dt dd_X14_isSoundNow 83 rfl) (by decide) (fun q9 => ?_) (fun q9 => ?_)
          · refine sw_iinc (y := nI (i128 + 1)) (ls2 := [.ref 5000, .int (nI (i128 + 1)), xx_d]) O (xx_dt dd_X14_isSoundNow 86 rfl) rfl (nI_1 _) (by decide) rfl ?_
            refine sw_goto (tgt := 128) O (xx_dt dd_X14_isSoundNow 87 rfl) (by decide) ?_
            exact kk128 () (by simp only [if_pos q9])
          · refine sw_iconst (x := 0) O (xx_dt dd_X14_isSoundNow 84 rfl) (by decide) ?_
            exact sw_iret O (xx_dt dd_X14_isSoundNow 85 rfl) rfl rfl (by rw [hQ, kr128 0 (by simp only [if_neg q9])]; exact ⟨rfl, rfl⟩)
      · show SW Y _ _ (setM z σ h) 128 [.ref 5000, .int (nI R), xx_d] []
        refine sw_iload_n O (xx_dt dd_X14_isSoundNow 68 rfl) rfl ?_
        refine sw_aload_n O (xx_dt dd_X14_isSoundNow 69 rfl) rfl ?_
        refine sw_get (v := .ref 5001) O (xx_dt dd_X14_isSoundNow 70 rfl) cl_X14 fl_X14_23 (lm_modC (σ := σ) (fl1 hf5)) (by decide) rfl ?_
        refine sw_callVL (ci := 6) (as := []) (st := [.int (nI R)]) (st2 := [.int (nI R), .int (nI R)]) O (ct_AL_size hl (lm_5001 (σ := σ) (R := R) hR (by omega))) ce_Jx4a65c_size_8abf5 ml_X14_57 iv_Jx4a65c_size_8abf5 cl_Jx4a65c rfl (lm_5001 (σ := σ) (R := R) hR (by omega)) (xx_dt dd_X14_isSoundNow 71 rfl) (by decide) rfl rfl (Nat.le_of_ble_eq_true rfl) rfl ?_
        refine sw_icmp_ge (tgt := 170) O (xx_dt dd_X14_isSoundNow 72 rfl) (by decide) (fun q8 => ?_) (fun q8 => ?_)
        · refine sw_aload_n O (xx_dt dd_X14_isSoundNow 88 rfl) rfl ?_
          refine sw_get (v := .int (σ 5000 1)) O (xx_dt dd_X14_isSoundNow 89 rfl) cl_X14 fl_X14_77 (lm_modC (σ := σ) (fl1 hf5)) (by decide) rfl ?_
          refine sw_iconst (x := 3) O (xx_dt dd_X14_isSoundNow 90 rfl) (by decide) ?_
          refine sw_icmp_ne (tgt := 187) O (xx_dt dd_X14_isSoundNow 91 rfl) (by decide) (fun q10 => ?_) (fun q10 => ?_)
          · refine sw_aload_n O (xx_dt dd_X14_isSoundNow 97 rfl) rfl ?_
            refine sw_get (v := .ref 7000) O (xx_dt dd_X14_isSoundNow 98 rfl) cl_X14 fl_X14_141 (lm_modC (σ := σ) (fl1 hf5)) (by decide) rfl ?_
            refine sw_ifnull O (xx_dt dd_X14_isSoundNow 99 rfl) ?_
            refine sw_aload_n O (xx_dt dd_X14_isSoundNow 100 rfl) rfl ?_
            refine sw_callVx (as := []) (st := []) (st2 := [.int (f_MisLogged σ R B K)]) O (ct_isLogged hl (z := z) (σ := σ) hbs hfr hme hR hR5 hB hB6 hK hK60 hf hf5 hg hg1 hw hw1 ha) ce_X14_isLogged ml_X14_397 iv_X14_isLogged cl_X14 rfl (lm_modC (σ := σ) (fl1 hf5)) (xx_dt dd_X14_isSoundNow 101 rfl) (by decide) rfl rfl (Nat.le_of_ble_eq_true rfl) rfl ?_
            refine sw_if_eq (tgt := 205) O (xx_dt dd_X14_isSoundNow 102 rfl) (by decide) (fun q11 => ?_) (fun q11 => ?_)
            · refine sw_iconst (x := 0) O (xx_dt dd_X14_isSoundNow 105 rfl) (by decide) ?_
              exact sw_iret O (xx_dt dd_X14_isSoundNow 106 rfl) rfl rfl (by rw [hQ]; exact ⟨by unfold f_MisSound_c; simp only [if_neg q10, if_pos q11, show x_MisSound_c_2 σ R B K C pk g tn sp () = .inl sN2 from eN2, show x_MisSound_c_128 σ R B K C pk g tn sp () = .inl sN128 from eN128], rfl⟩)
            · refine sw_iconst (x := 1) O (xx_dt dd_X14_isSoundNow 103 rfl) (by decide) ?_
              refine sw_goto (tgt := 206) O (xx_dt dd_X14_isSoundNow 104 rfl) (by decide) ?_
              exact sw_iret O (xx_dt dd_X14_isSoundNow 106 rfl) rfl rfl (by rw [hQ]; exact ⟨by unfold f_MisSound_c; simp only [if_neg q10, if_neg q11, show x_MisSound_c_2 σ R B K C pk g tn sp () = .inl sN2 from eN2, show x_MisSound_c_128 σ R B K C pk g tn sp () = .inl sN128 from eN128], rfl⟩)
          · refine sw_aload_n O (xx_dt dd_X14_isSoundNow 92 rfl) rfl ?_
            refine sw_callVx (as := []) (st := []) (st2 := [.int (f_MareNamed σ R B sp tn pk)]) O (ct_X14_areNamed hl (z := z) (σ := σ) hbs hfr hme hR hR5 hB hB6 hpk (hkp q10) htn hsp hho) ce_X14_areNamed ml_X14_394 iv_X14_areNamed cl_X14 rfl (lm_modC (σ := σ) (fl1 hf5)) (xx_dt dd_X14_isSoundNow 93 rfl) (by decide) rfl rfl (Nat.le_of_ble_eq_true rfl) rfl ?_
            refine sw_if_ne (tgt := 187) O (xx_dt dd_X14_isSoundNow 94 rfl) (by decide) (fun q12 => ?_) (fun q12 => ?_)
            · refine sw_aload_n O (xx_dt dd_X14_isSoundNow 97 rfl) rfl ?_
              refine sw_get (v := .ref 7000) O (xx_dt dd_X14_isSoundNow 98 rfl) cl_X14 fl_X14_141 (lm_modC (σ := σ) (fl1 hf5)) (by decide) rfl ?_
              refine sw_ifnull O (xx_dt dd_X14_isSoundNow 99 rfl) ?_
              refine sw_aload_n O (xx_dt dd_X14_isSoundNow 100 rfl) rfl ?_
              refine sw_callVx (as := []) (st := []) (st2 := [.int (f_MisLogged σ R B K)]) O (ct_isLogged hl (z := z) (σ := σ) hbs hfr hme hR hR5 hB hB6 hK hK60 hf hf5 hg hg1 hw hw1 ha) ce_X14_isLogged ml_X14_397 iv_X14_isLogged cl_X14 rfl (lm_modC (σ := σ) (fl1 hf5)) (xx_dt dd_X14_isSoundNow 101 rfl) (by decide) rfl rfl (Nat.le_of_ble_eq_true rfl) rfl ?_
              refine sw_if_eq (tgt := 205) O (xx_dt dd_X14_isSoundNow 102 rfl) (by decide) (fun q13 => ?_) (fun q13 => ?_)
              · refine sw_iconst (x := 0) O (xx_dt dd_X14_isSoundNow 105 rfl) (by decide) ?_
                exact sw_iret O (xx_dt dd_X14_isSoundNow 106 rfl) rfl rfl (by rw [hQ]; exact ⟨by unfold f_MisSound_c; simp only [if_pos q10, if_neg q12, if_pos q13, show x_MisSound_c_2 σ R B K C pk g tn sp () = .inl sN2 from eN2, show x_MisSound_c_128 σ R B K C pk g tn sp () = .inl sN128 from eN128], rfl⟩)
              · refine sw_iconst (x := 1) O (xx_dt dd_X14_isSoundNow 103 rfl) (by decide) ?_
                refine sw_goto (tgt := 206) O (xx_dt dd_X14_isSoundNow 104 rfl) (by decide) ?_
                exact sw_iret O (xx_dt dd_X14_isSoundNow 106 rfl) rfl rfl (by rw [hQ]; exact ⟨by unfold f_MisSound_c; simp only [if_pos q10, if_neg q12, if_neg q13, show x_MisSound_c_2 σ R B K C pk g tn sp () = .inl sN2 from eN2, show x_MisSound_c_128 σ R B K C pk g tn sp () = .inl sN128 from eN128], rfl⟩)
            · refine sw_iconst (x := 0) O (xx_dt dd_X14_isSoundNow 95 rfl) (by decide) ?_
              exact sw_iret O (xx_dt dd_X14_isSoundNow 96 rfl) rfl rfl (by rw [hQ]; exact ⟨by unfold f_MisSound_c; simp only [if_pos q10, if_pos q12, show x_MisSound_c_2 σ R B K C pk g tn sp () = .inl sN2 from eN2, show x_MisSound_c_128 σ R B K C pk g tn sp () = .inl sN128 from eN128], rfl⟩)
        · exact absurd (Int32.le_refl _) q8
      · unfold f_MisSound_c; simp only [x_MisSound_c_128, show x_MisSound_c_2 σ R B K C pk g tn sp () = .inl sN2 from eN2, eN128]
    · exact absurd (Int32.le_refl _) q1
  · unfold f_MisSound_c; simp only [x_MisSound_c_2, eN2]
def x_MisSound_n_26 (σ : XS9) (R B K C : Nat) (pk : Nat → Nat) (g : Nat) (tn sp : Nat → Nat) (i2 : Nat) (s0 : Unit) : Unit ⊕ Int32 := xitR (fun i26 s26 => (if (f_of (f_MheldCode_n σ i2) i26) ≤ (nI (sp i26)) then .inl () else .inr 0)) R 0 s0
def x_MisSound_n_2 (σ : XS9) (R B K C : Nat) (pk : Nat → Nat) (g : Nat) (tn sp : Nat → Nat) (s0 : Unit) : Unit ⊕ Int32 := xitR (fun i2 s2 => (if 0 ≤ (f_MofBidderNow σ i2 R B pk g 1) then (match (x_MisSound_n_26 σ R B K C pk g tn sp i2 ()) with | .inl s26 => (if (σ 5000 1) = 3 then (if (σ 5005 i2) = (-1) then .inl () else (if (σ 5006 i2) ≤ (f_Bamount σ i2 (cn (σ 5005 i2))) then .inl () else .inr 0)) else .inl ()) | .inr r26 => .inr r26) else .inr 0)) B 0 s0
def x_MisSound_n_128 (σ : XS9) (R B K C : Nat) (pk : Nat → Nat) (g : Nat) (tn sp : Nat → Nat) (s0 : Unit) : Unit ⊕ Int32 := xitR (fun i128 s128 => (if (σ (5010 + i128) 2) ≤ (f_MofRegionNow σ i128 R B C g 3) then .inl () else .inr 0)) R 0 s0
def f_MisSound_n (σ : XS9) (R B K C : Nat) (pk : Nat → Nat) (g : Nat) (tn sp : Nat → Nat) : Int32 := (match (x_MisSound_n_2 σ R B K C pk g tn sp ()) with | .inl s2 => (match (x_MisSound_n_128 σ R B K C pk g tn sp ()) with | .inl s128 => (if (σ 5000 1) = 3 then (if (f_MareNamed σ R B sp tn pk) = 0 then 0 else 1) else 1) | .inr r128 => r128) | .inr r2 => r2)
theorem ct_MisSound_n {l : Launch} {h : XH} (hl : l.stackTraces = false) {z : Int64} {σ : XS9} (hbs : xx_bs h) (hfr : ∀ r, 5000 ≤ r → r < 20010 → h r = none) (hme : mem_eq σ σ) {R : Nat} (hR : σ 5001 900 = nI R) (hR5 : R ≤ 5) {B : Nat} (hB : σ 5002 900 = nI B) (hB6 : B ≤ 6) {K : Nat} (hK : σ 5003 900 = nI K) (hK60 : K ≤ 60) {C : Nat} (hS : σ 5004 900 = nI (2 * C)) (hC10 : C ≤ 10) {pk : Nat → Nat} (hpk : ∀ j, j < B → σ (5030 + j) 900 = nI (2 * pk j) ∧ pk j ≤ 6) (hkp : σ 5000 1 = 3 → ∀ j, j < B → σ 5005 j = -1 ∨ ∃ n, n < pk j ∧ σ 5005 j = nI n) {tn : Nat → Nat} (htn : ∀ r, r < 5 → σ 5007 r = nI (tn r) ∧ tn r < 6) {sp : Nat → Nat} (hsp : ∀ r, r < R → σ (5010 + r) 0 = nI (sp r) ∧ sp r ≤ 5) (hho : ∀ (s : XS9) i j, (∀ q, q ≠ 20000 → s q = σ q) → i < R → j < sp i → f_MholderNow s i (nI j) B tn = -1 ∨ n_lt (f_MholderNow s i (nI j) B tn) 6) {g : Nat} (hg : σ 7000 23 = nI g) (hg1 : g < 200) {w : Nat} (hw : σ 7000 24 = nI w) (hw1 : w < 200) (hf5 : σ 7000 25 = nI 0)  : XEx l m_X14_isSoundNow 12 495 8668 [.ref 5000] (setM z σ h) (some (.int (f_MisSound_n σ R B K C pk g tn sp))) (setM z σ h) := by
  refine XMet.of hl rfl rfl (Nat.le_of_ble_eq_true rfl) (fun Y O hh hQ => ?_)
  have hfl : σ 7000 25 = nI 0 ∨ (σ 7000 25 = nI 1 ∧ σ 7000 20 = nI 1) := .inl hf5
  show SW Y 495 8668 (setM z σ h) 0 [.ref 5000, xx_d, xx_d] []
  refine sw_iconst (x := 0) O (xx_dt dd_X14_isSoundNow 0 rfl) (by decide) ?_
  refine sw_istore_n (ls2 := [.ref 5000, .int 0, xx_d]) O (xx_dt dd_X14_isSoundNow 1 rfl) (by decide) rfl ?_
  refine sw_forR (S := Unit) (R := Int32) (fun i2 s2 => (if 0 ≤ (f_MofBidderNow σ i2 R B pk g 1) then (match (x_MisSound_n_26 σ R B K C pk g tn sp i2 ()) with | .inl s26 => (if (σ 5000 1) = 3 then (if (σ 5005 i2) = (-1) then .inl () else (if (σ 5006 i2) ≤ (f_Bamount σ i2 (cn (σ 5005 i2))) then .inl () else .inr 0)) else .inl ()) | .inr r26 => .inr r26) else .inr 0)) (fun _ _ => True) (FR := fun r9 => f_MisSound_n σ R B K C pk g tn sp = r9) (hp := fun _ => setM z σ h) (hd := 2) (lc := fun i2 s2 => [.ref 5000, .int (nI i2), xx_d]) (N := B) (fun i2 s2 hi2 hP2 => ⟨fun _ _ => trivial, fun kk2 kr2 => ?_⟩) B 0 () (by omega) (trivial) (fun sN2 eN2 hP2 => ?_) (fun r2 eN2 => ?_)
  · refine sw_iload_n O (xx_dt dd_X14_isSoundNow 2 rfl) rfl ?_
    refine sw_aload_n O (xx_dt dd_X14_isSoundNow 3 rfl) rfl ?_
    refine sw_get (v := .ref 5002) O (xx_dt dd_X14_isSoundNow 4 rfl) cl_X14 fl_X14_27 (lm_modN (σ := σ) hf5) (by decide) rfl ?_
    refine sw_callVL (ci := 6) (as := []) (st := [.int (nI i2)]) (st2 := [.int (nI B), .int (nI i2)]) O (ct_AL_size hl (lm_5002 (σ := σ) (B := B) hB (by omega))) ce_Jx4a65c_size_8abf5 ml_X14_57 iv_Jx4a65c_size_8abf5 cl_Jx4a65c rfl (lm_5002 (σ := σ) (B := B) hB (by omega)) (xx_dt dd_X14_isSoundNow 5 rfl) (by decide) rfl rfl (Nat.le_of_ble_eq_true rfl) rfl ?_
    refine sw_icmp_ge (tgt := 126) O (xx_dt dd_X14_isSoundNow 6 rfl) (by decide) (fun q1 => ?_) (fun q1 => ?_)
    · exact absurd q1 (nI_ge (b := B) hi2 (by omega))
    · refine sw_aload_n O (xx_dt dd_X14_isSoundNow 7 rfl) rfl ?_
      refine sw_iload_n O (xx_dt dd_X14_isSoundNow 8 rfl) rfl ?_
      refine sw_iconst (x := 1) O (xx_dt dd_X14_isSoundNow 9 rfl) (by decide) ?_
      refine sw_callVx (as := [.int (nI i2), .int 1]) (st := []) (st2 := [.int (f_MofBidderNow σ i2 R B pk g 1)]) O ((show XEx _ _ _ _ _ [_, _, .int 1] _ _ _ from ct_X14_ofBidderNow hl (z := z) (σ := σ) hbs (R := R) hR (by omega) (B := B) hB (by omega) (pk := pk) hpk (i := i2) (by omega) hfl (g := g) hg (by omega) (w := w) hw (by omega) (v := 1) (by omega))) ce_X14_ofBidderNow ml_X14_311 iv_X14_ofBidderNow cl_X14 rfl (lm_modN (σ := σ) hf5) (xx_dt dd_X14_isSoundNow 10 rfl) (by decide) rfl rfl (Nat.le_of_ble_eq_true rfl) rfl ?_
      refine sw_if_ge (tgt := 24) O (xx_dt dd_X14_isSoundNow 11 rfl) (by decide) (fun q2 => ?_) (fun q2 => ?_)
      · refine sw_iconst (x := 0) O (xx_dt dd_X14_isSoundNow 14 rfl) (by decide) ?_
        refine sw_istore_n (ls2 := [.ref 5000, .int (nI i2), .int 0]) O (xx_dt dd_X14_isSoundNow 15 rfl) (by decide) rfl ?_
        refine sw_forR (S := Unit) (R := Int32) (fun i26 s26 => (if (f_of (f_MheldCode_n σ i2) i26) ≤ (nI (sp i26)) then .inl () else .inr 0)) (fun _ _ => True) (FR := fun r9 => f_MisSound_n σ R B K C pk g tn sp = r9) (hp := fun _ => setM z σ h) (hd := 26) (lc := fun i26 s26 => [.ref 5000, .int (nI i2), .int (nI i26)]) (N := R) (fun i26 s26 hi26 hP26 => ⟨fun _ _ => trivial, fun kk26 kr26 => ?_⟩) R 0 () (by omega) (trivial) (fun sN26 eN26 hP26 => ?_) (fun r26 eN26 => ?_)
        · refine sw_iload_n O (xx_dt dd_X14_isSoundNow 16 rfl) rfl ?_
          refine sw_aload_n O (xx_dt dd_X14_isSoundNow 17 rfl) rfl ?_
          refine sw_get (v := .ref 5001) O (xx_dt dd_X14_isSoundNow 18 rfl) cl_X14 fl_X14_23 (lm_modN (σ := σ) hf5) (by decide) rfl ?_
          refine sw_callVL (ci := 6) (as := []) (st := [.int (nI i26)]) (st2 := [.int (nI R), .int (nI i26)]) O (ct_AL_size hl (lm_5001 (σ := σ) (R := R) hR (by omega))) ce_Jx4a65c_size_8abf5 ml_X14_57 iv_Jx4a65c_size_8abf5 cl_Jx4a65c rfl (lm_5001 (σ := σ) (R := R) hR (by omega)) (xx_dt dd_X14_isSoundNow 19 rfl) (by decide) rfl rfl (Nat.le_of_ble_eq_true rfl) rfl ?_
          refine sw_icmp_ge (tgt := 71) O (xx_dt dd_X14_isSoundNow 20 rfl) (by decide) (fun q3 => ?_) (fun q3 => ?_)
          · exact absurd q3 (nI_ge (b := R) hi26 (by omega))
          · refine sw_aload_n O (xx_dt dd_X14_isSoundNow 21 rfl) rfl ?_
            refine sw_iload_n O (xx_dt dd_X14_isSoundNow 22 rfl) rfl ?_
            refine sw_callVx (as := [.int (nI i2)]) (st := []) (st2 := [.int (f_MheldCode_n σ i2)]) O (ct_MheldCode_n hl (z := z) (σ := σ) hbs (i := i2) (by omega) hf5) ce_X14_heldCode ml_X14_302 iv_X14_heldCode cl_X14 rfl (lm_modN (σ := σ) hf5) (xx_dt dd_X14_isSoundNow 23 rfl) (by decide) rfl rfl (Nat.le_of_ble_eq_true rfl) rfl ?_
            refine sw_iload_n O (xx_dt dd_X14_isSoundNow 24 rfl) rfl ?_
            refine sw_callSx (as := [.int (f_MheldCode_n σ i2), .int (nI i26)]) (st := []) (st2 := [.int (f_of (f_MheldCode_n σ i2) i26)]) O (ct_X14_of hl (c := f_MheldCode_n σ i2) (r := i26) (by omega)) ce_X14_of ml_X14_53 st_X14_of (xx_dt dd_X14_isSoundNow 25 rfl) (by decide) rfl rfl (Nat.le_of_ble_eq_true rfl) rfl ?_
            refine sw_aload_n O (xx_dt dd_X14_isSoundNow 26 rfl) rfl ?_
            refine sw_get (v := .ref 5001) O (xx_dt dd_X14_isSoundNow 27 rfl) cl_X14 fl_X14_23 (lm_modN (σ := σ) hf5) (by decide) rfl ?_
            refine sw_iload_n O (xx_dt dd_X14_isSoundNow 28 rfl) rfl ?_
            refine sw_callVL (ci := 6) (as := [.int (nI i26)]) (st := [.int (f_of (f_MheldCode_n σ i2) i26)]) (st2 := [.ref (5010 + i26), .int (f_of (f_MheldCode_n σ i2) i26)]) O (ct_get hl hbs (lm_5001 (σ := σ) (R := R) hR (by omega)) (by omega) (i := i26) (x := 5010 + i26) (by omega) (by omega) rfl) ce_Jx4a65c_get_915e3 ml_X14_61 iv_Jx4a65c_get_915e3 cl_Jx4a65c rfl (lm_5001 (σ := σ) (R := R) hR (by omega)) (xx_dt dd_X14_isSoundNow 29 rfl) (by decide) rfl rfl (Nat.le_of_ble_eq_true rfl) rfl ?_
            refine sw_castO O (xx_dt dd_X14_isSoundNow 30 rfl) cl_X12 (lm_reg (σ := σ) (R := R) hR (by omega) (j := i26) (by omega)) cw_X14_65 ?_
            have hz57 := (hsp i26 (by omega)).2
            refine sw_get (v := .int (nI (sp i26))) O (xx_dt dd_X14_isSoundNow 31 rfl) cl_X12 fl_X14_81 (lm_reg (σ := σ) (R := R) hR (by omega) (j := i26) (by omega)) (by decide) (congrArg Value.int (hsp i26 (by omega)).1) ?_
            refine sw_icmp_le (tgt := 65) O (xx_dt dd_X14_isSoundNow 32 rfl) (by decide) (fun q4 => ?_) (fun q4 => ?_)
            · refine sw_iinc (y := nI (i26 + 1)) (ls2 := [.ref 5000, .int (nI i2), .int (nI (i26 + 1))]) O (xx_dt dd_X14_isSoundNow 35 rfl) rfl (nI_1 _) (by decide) rfl ?_
              refine sw_goto (tgt := 26) O (xx_dt dd_X14_isSoundNow 36 rfl) (by decide) ?_
              exact kk26 () (by simp only [if_pos q4])
            · refine sw_iconst (x := 0) O (xx_dt dd_X14_isSoundNow 33 rfl) (by decide) ?_
              exact sw_iret O (xx_dt dd_X14_isSoundNow 34 rfl) rfl rfl (by rw [hQ, kr26 0 (by simp only [if_neg q4])]; exact ⟨rfl, rfl⟩)
        · show SW Y _ _ (setM z σ h) 26 [.ref 5000, .int (nI i2), .int (nI R)] []
          refine sw_iload_n O (xx_dt dd_X14_isSoundNow 16 rfl) rfl ?_
          refine sw_aload_n O (xx_dt dd_X14_isSoundNow 17 rfl) rfl ?_
          refine sw_get (v := .ref 5001) O (xx_dt dd_X14_isSoundNow 18 rfl) cl_X14 fl_X14_23 (lm_modN (σ := σ) hf5) (by decide) rfl ?_
          refine sw_callVL (ci := 6) (as := []) (st := [.int (nI R)]) (st2 := [.int (nI R), .int (nI R)]) O (ct_AL_size hl (lm_5001 (σ := σ) (R := R) hR (by omega))) ce_Jx4a65c_size_8abf5 ml_X14_57 iv_Jx4a65c_size_8abf5 cl_Jx4a65c rfl (lm_5001 (σ := σ) (R := R) hR (by omega)) (xx_dt dd_X14_isSoundNow 19 rfl) (by decide) rfl rfl (Nat.le_of_ble_eq_true rfl) rfl ?_
          refine sw_icmp_ge (tgt := 71) O (xx_dt dd_X14_isSoundNow 20 rfl) (by decide) (fun q3 => ?_) (fun q3 => ?_)
          · refine sw_aload_n O (xx_dt dd_X14_isSoundNow 37 rfl) rfl ?_
            refine sw_get (v := .int (σ 5000 1)) O (xx_dt dd_X14_isSoundNow 38 rfl) cl_X14 fl_X14_77 (lm_modN (σ := σ) hf5) (by decide) rfl ?_
            refine sw_iconst (x := 3) O (xx_dt dd_X14_isSoundNow 39 rfl) (by decide) ?_
            refine sw_icmp_ne (tgt := 120) O (xx_dt dd_X14_isSoundNow 40 rfl) (by decide) (fun q5 => ?_) (fun q5 => ?_)
            · refine sw_iinc (y := nI (i2 + 1)) (ls2 := [.ref 5000, .int (nI (i2 + 1)), .int (nI R)]) O (xx_dt dd_X14_isSoundNow 64 rfl) rfl (nI_1 _) (by decide) rfl ?_
              refine sw_goto (tgt := 2) O (xx_dt dd_X14_isSoundNow 65 rfl) (by decide) ?_
              refine sw_dum (ls2 := [.ref 5000, .int (nI (i2 + 1)), xx_d]) ⟨.inr rfl, .inr rfl, .inl rfl, trivial⟩ ?_
              exact kk2 () (by simp only [if_pos q2, if_neg q5, x_MisSound_n_26, eN26])
            · refine sw_aload_n O (xx_dt dd_X14_isSoundNow 41 rfl) rfl ?_
              refine sw_get (v := .ref 5005) O (xx_dt dd_X14_isSoundNow 42 rfl) cl_X14 fl_X14_36 (lm_modN (σ := σ) hf5) (by decide) rfl ?_
              refine sw_iload_n O (xx_dt dd_X14_isSoundNow 43 rfl) rfl ?_
              refine sw_iaload (v := .int (σ 5005 i2)) O (xx_dt dd_X14_isSoundNow 44 rfl) ((im_5005 (z := z) (σ := σ)).get _) (pk_in i2 _ (by omega)) (by rw [nI_clamp (by omega)]; try exact rfl) ?_
              refine sw_iconst (x := (-1)) O (xx_dt dd_X14_isSoundNow 45 rfl) (by decide) ?_
              refine sw_icmp_eq (tgt := 120) O (xx_dt dd_X14_isSoundNow 46 rfl) (by decide) (fun q6 => ?_) (fun q6 => ?_)
              · refine sw_iinc (y := nI (i2 + 1)) (ls2 := [.ref 5000, .int (nI (i2 + 1)), .int (nI R)]) O (xx_dt dd_X14_isSoundNow 64 rfl) rfl (nI_1 _) (by decide) rfl ?_
                refine sw_goto (tgt := 2) O (xx_dt dd_X14_isSoundNow 65 rfl) (by decide) ?_
                refine sw_dum (ls2 := [.ref 5000, .int (nI (i2 + 1)), xx_d]) ⟨.inr rfl, .inr rfl, .inl rfl, trivial⟩ ?_
                exact kk2 () (by simp only [if_pos q2, if_pos q5, if_pos q6, x_MisSound_n_26, eN26])
              · have hc86 := (kept_nat (hkp q5 _ (by omega)) q6 (by have := (hpk i2 (by omega)).2; omega))
                have hd86 := hc86.2
                refine sw_aload_n O (xx_dt dd_X14_isSoundNow 47 rfl) rfl ?_
                refine sw_get (v := .ref 5006) O (xx_dt dd_X14_isSoundNow 48 rfl) cl_X14 fl_X14_40 (lm_modN (σ := σ) hf5) (by decide) rfl ?_
                refine sw_iload_n O (xx_dt dd_X14_isSoundNow 49 rfl) rfl ?_
                refine sw_iaload (v := .int (σ 5006 i2)) O (xx_dt dd_X14_isSoundNow 50 rfl) ((im_5006 (z := z) (σ := σ)).get _) (pk_in i2 _ (by omega)) (by rw [nI_clamp (by omega)]; try exact rfl) ?_
                refine sw_aload_n O (xx_dt dd_X14_isSoundNow 51 rfl) rfl ?_
                refine sw_get (v := .ref 5002) O (xx_dt dd_X14_isSoundNow 52 rfl) cl_X14 fl_X14_27 (lm_modN (σ := σ) hf5) (by decide) rfl ?_
                refine sw_iload_n O (xx_dt dd_X14_isSoundNow 53 rfl) rfl ?_
                refine sw_callVL (ci := 6) (as := [.int (nI i2)]) (st := [.int (σ 5006 i2)]) (st2 := [.ref (5020 + i2), .int (σ 5006 i2)]) O (ct_get hl hbs (lm_5002 (σ := σ) (B := B) hB (by omega)) (by omega) (i := i2) (x := 5020 + i2) (by omega) (by omega) rfl) ce_Jx4a65c_get_915e3 ml_X14_61 iv_Jx4a65c_get_915e3 cl_Jx4a65c rfl (lm_5002 (σ := σ) (B := B) hB (by omega)) (xx_dt dd_X14_isSoundNow 54 rfl) (by decide) rfl rfl (Nat.le_of_ble_eq_true rfl) rfl ?_
                refine sw_castO O (xx_dt dd_X14_isSoundNow 55 rfl) cl_X9 (lm_bid (σ := σ) (B := B) hB (by omega) (j := i2) (by omega)) cw_X14_118 ?_
                refine sw_aload_n O (xx_dt dd_X14_isSoundNow 56 rfl) rfl ?_
                refine sw_get (v := .ref 5005) O (xx_dt dd_X14_isSoundNow 57 rfl) cl_X14 fl_X14_36 (lm_modN (σ := σ) hf5) (by decide) rfl ?_
                refine sw_iload_n O (xx_dt dd_X14_isSoundNow 58 rfl) rfl ?_
                refine sw_iaload (v := .int (nI (cn (σ 5005 i2)))) O (xx_dt dd_X14_isSoundNow 59 rfl) ((im_5005 (z := z) (σ := σ)).get _) (pk_in i2 _ (by omega)) (by rw [nI_clamp (by omega)]; exact (congrArg Value.int hc86.1)) ?_
                refine sw_callVx (as := [.int (nI (cn (σ 5005 i2)))]) (st := [.int (σ 5006 i2)]) (st2 := [.int (f_Bamount σ i2 (cn (σ 5005 i2))), .int (σ 5006 i2)]) O (ct_X9_amount hl (z := z) (σ := σ) hbs (B := B) hB (by omega) (j := i2) (by omega) (p := pk i2) (hpk i2 (by omega)).1 (by have h9 := (hpk i2 (by omega)).2; omega) (k := cn (σ 5005 i2)) (by first | omega | (have h9 := (hpk i2 (by omega)).2; omega))) ce_X9_amount ml_X14_252 iv_X9_amount cl_X9 rfl (lm_bid (σ := σ) (B := B) hB (by omega) (j := i2) (by omega)) (xx_dt dd_X14_isSoundNow 60 rfl) (by decide) rfl rfl (Nat.le_of_ble_eq_true rfl) rfl ?_
                refine sw_icmp_le (tgt := 120) O (xx_dt dd_X14_isSoundNow 61 rfl) (by decide) (fun q7 => ?_) (fun q7 => ?_)
                · refine sw_iinc (y := nI (i2 + 1)) (ls2 := [.ref 5000, .int (nI (i2 + 1)), .int (nI R)]) O (xx_dt dd_X14_isSoundNow 64 rfl) rfl (nI_1 _) (by decide) rfl ?_
                  refine sw_goto (tgt := 2) O (xx_dt dd_X14_isSoundNow 65 rfl) (by decide) ?_
                  refine sw_dum (ls2 := [.ref 5000, .int (nI (i2 + 1)), xx_d]) ⟨.inr rfl, .inr rfl, .inl rfl, trivial⟩ ?_
                  exact kk2 () (by simp only [if_pos q2, if_pos q5, if_neg q6, if_pos q7, x_MisSound_n_26, eN26])
                · refine sw_iconst (x := 0) O (xx_dt dd_X14_isSoundNow 62 rfl) (by decide) ?_
                  exact sw_iret O (xx_dt dd_X14_isSoundNow 63 rfl) rfl rfl (by rw [hQ, kr2 0 (by simp only [if_pos q2, if_pos q5, if_neg q6, if_neg q7, x_MisSound_n_26, eN26])]; exact ⟨rfl, rfl⟩)
          · exact absurd (Int32.le_refl _) q3
        · exact kr2 r26 (by simp only [if_pos q2, x_MisSound_n_26, eN26])
      · refine sw_iconst (x := 0) O (xx_dt dd_X14_isSoundNow 12 rfl) (by decide) ?_
        exact sw_iret O (xx_dt dd_X14_isSoundNow 13 rfl) rfl rfl (by rw [hQ, kr2 0 (by simp only [if_neg q2])]; exact ⟨rfl, rfl⟩)
  · show SW Y _ _ (setM z σ h) 2 [.ref 5000, .int (nI B), xx_d] []
    refine sw_iload_n O (xx_dt dd_X14_isSoundNow 2 rfl) rfl ?_
    refine sw_aload_n O (xx_dt dd_X14_isSoundNow 3 rfl) rfl ?_
    refine sw_get (v := .ref 5002) O (xx_dt dd_X14_isSoundNow 4 rfl) cl_X14 fl_X14_27 (lm_modN (σ := σ) hf5) (by decide) rfl ?_
    refine sw_callVL (ci := 6) (as := []) (st := [.int (nI B)]) (st2 := [.int (nI B), .int (nI B)]) O (ct_AL_size hl (lm_5002 (σ := σ) (B := B) hB (by omega))) ce_Jx4a65c_size_8abf5 ml_X14_57 iv_Jx4a65c_size_8abf5 cl_Jx4a65c rfl (lm_5002 (σ := σ) (B := B) hB (by omega)) (xx_dt dd_X14_isSoundNow 5 rfl) (by decide) rfl rfl (Nat.le_of_ble_eq_true rfl) rfl ?_
    refine sw_icmp_ge (tgt := 126) O (xx_dt dd_X14_isSoundNow 6 rfl) (by decide) (fun q1 => ?_) (fun q1 => ?_)
    · refine sw_iconst (x := 0) O (xx_dt dd_X14_isSoundNow 66 rfl) (by decide) ?_
      refine sw_istore_n (ls2 := [.ref 5000, .int 0, xx_d]) O (xx_dt dd_X14_isSoundNow 67 rfl) (by decide) rfl ?_
      refine sw_forR (S := Unit) (R := Int32) (fun i128 s128 => (if (σ (5010 + i128) 2) ≤ (f_MofRegionNow σ i128 R B C g 3) then .inl () else .inr 0)) (fun _ _ => True) (FR := fun r9 => f_MisSound_n σ R B K C pk g tn sp = r9) (hp := fun _ => setM z σ h) (hd := 128) (lc := fun i128 s128 => [.ref 5000, .int (nI i128), xx_d]) (N := R) (fun i128 s128 hi128 hP128 => ⟨fun _ _ => trivial, fun kk128 kr128 => ?_⟩) R 0 () (by omega) (trivial) (fun sN128 eN128 hP128 => ?_) (fun r128 eN128 => ?_)
      · refine sw_iload_n O (xx_dt dd_X14_isSoundNow 68 rfl) rfl ?_
        refine sw_aload_n O (xx_dt dd_X14_isSoundNow 69 rfl) rfl ?_
        refine sw_get (v := .ref 5001) O (xx_dt dd_X14_isSoundNow 70 rfl) cl_X14 fl_X14_23 (lm_modN (σ := σ) hf5) (by decide) rfl ?_
        refine sw_callVL (ci := 6) (as := []) (st := [.int (nI i128)]) (st2 := [.int (nI R), .int (nI i128)]) O (ct_AL_size hl (lm_5001 (σ := σ) (R := R) hR (by omega))) ce_Jx4a65c_size_8abf5 ml_X14_57 iv_Jx4a65c_size_8abf5 cl_Jx4a65c rfl (lm_5001 (σ := σ) (R := R) hR (by omega)) (xx_dt dd_X14_isSoundNow 71 rfl) (by decide) rfl rfl (Nat.le_of_ble_eq_true rfl) rfl ?_
        refine sw_icmp_ge (tgt := 170) O (xx_dt dd_X14_isSoundNow 72 rfl) (by decide) (fun q8 => ?_) (fun q8 => ?_)
        · exact absurd q8 (nI_ge (b := R) hi128 (by omega))
        · refine sw_aload_n O (xx_dt dd_X14_isSoundNow 73 rfl) rfl ?_
          refine sw_iload_n O (xx_dt dd_X14_isSoundNow 74 rfl) rfl ?_
          refine sw_iconst (x := 3) O (xx_dt dd_X14_isSoundNow 75 rfl) (by decide) ?_
          refine sw_callVx (as := [.int (nI i128), .int 3]) (st := []) (st2 := [.int (f_MofRegionNow σ i128 R B C g 3)]) O ((show XEx _ _ _ _ _ [_, _, .int 3] _ _ _ from ct_X14_ofRegionNow hl (z := z) (σ := σ) hbs (R := R) hR (by omega) (B := B) hB (by omega) (C := C) hS (by omega) (r := i128) (by omega) hfl (g := g) hg (by omega) (w := w) hw (by omega) (v := 3) (by omega))) ce_X14_ofRegionNow ml_X14_299 iv_X14_ofRegionNow cl_X14 rfl (lm_modN (σ := σ) hf5) (xx_dt dd_X14_isSoundNow 76 rfl) (by decide) rfl rfl (Nat.le_of_ble_eq_true rfl) rfl ?_
          refine sw_aload_n O (xx_dt dd_X14_isSoundNow 77 rfl) rfl ?_
          refine sw_get (v := .ref 5001) O (xx_dt dd_X14_isSoundNow 78 rfl) cl_X14 fl_X14_23 (lm_modN (σ := σ) hf5) (by decide) rfl ?_
          refine sw_iload_n O (xx_dt dd_X14_isSoundNow 79 rfl) rfl ?_
          refine sw_callVL (ci := 6) (as := [.int (nI i128)]) (st := [.int (f_MofRegionNow σ i128 R B C g 3)]) (st2 := [.ref (5010 + i128), .int (f_MofRegionNow σ i128 R B C g 3)]) O (ct_get hl hbs (lm_5001 (σ := σ) (R := R) hR (by omega)) (by omega) (i := i128) (x := 5010 + i128) (by omega) (by omega) rfl) ce_Jx4a65c_get_915e3 ml_X14_61 iv_Jx4a65c_get_915e3 cl_Jx4a65c rfl (lm_5001 (σ := σ) (R := R) hR (by omega)) (xx_dt dd_X14_isSoundNow 80 rfl) (by decide) rfl rfl (Nat.le_of_ble_eq_true rfl) rfl ?_
          refine sw_castO O (xx_dt dd_X14_isSoundNow 81 rfl) cl_X12 (lm_reg (σ := σ) (R := R) hR (by omega) (j := i128) (by omega)) cw_X14_65 ?_
          refine sw_get (v := .int (σ (5010 + i128) 2)) O (xx_dt dd_X14_isSoundNow 82 rfl) cl_X12 fl_X14_84 (lm_reg (σ := σ) (R := R) hR (by omega) (j := i128) (by omega)) (by decide) rfl ?_
          refine sw_icmp_ge (tgt := 164) O (xx_dt dd_X14_isSoundNow 83 rfl) (by decide) (fun q9 => ?_) (fun q9 => ?_)
          · refine sw_iinc (y := nI (i128 + 1)) (ls2 := [.ref 5000, .int (nI (i128 + 1)), xx_d]) O (xx_dt dd_X14_isSoundNow 86 rfl) rfl (nI_1 _) (by decide) rfl ?_
            refine sw_goto (tgt := 128) O (xx_dt dd_X14_isSoundNow 87 rfl) (by decide) ?_
            exact kk128 () (by simp only [if_pos q9])
          · refine sw_iconst (x := 0) O (xx_dt dd_X14_isSoundNow 84 rfl) (by decide) ?_
            exact sw_iret O (xx_dt dd_X14_isSoundNow 85 rfl) rfl rfl (by rw [hQ, kr128 0 (by simp only [if_neg q9])]; exact ⟨rfl, rfl⟩)
      · show SW Y _ _ (setM z σ h) 128 [.ref 5000, .int (nI R), xx_d] []
        refine sw_iload_n O (xx_dt dd_X14_isSoundNow 68 rfl) rfl ?_
        refine sw_aload_n O (xx_dt dd_X14_isSoundNow 69 rfl) rfl ?_
        refine sw_get (v := .ref 5001) O (xx_dt dd_X14_isSoundNow 70 rfl) cl_X14 fl_X14_23 (lm_modN (σ := σ) hf5) (by decide) rfl ?_
        refine sw_callVL (ci := 6) (as := []) (st := [.int (nI R)]) (st2 := [.int (nI R), .int (nI R)]) O (ct_AL_size hl (lm_5001 (σ := σ) (R := R) hR (by omega))) ce_Jx4a65c_size_8abf5 ml_X14_57 iv_Jx4a65c_size_8abf5 cl_Jx4a65c rfl (lm_5001 (σ := σ) (R := R) hR (by omega)) (xx_dt dd_X14_isSoundNow 71 rfl) (by decide) rfl rfl (Nat.le_of_ble_eq_true rfl) rfl ?_
        refine sw_icmp_ge (tgt := 170) O (xx_dt dd_X14_isSoundNow 72 rfl) (by decide) (fun q8 => ?_) (fun q8 => ?_)
        · refine sw_aload_n O (xx_dt dd_X14_isSoundNow 88 rfl) rfl ?_
          refine sw_get (v := .int (σ 5000 1)) O (xx_dt dd_X14_isSoundNow 89 rfl) cl_X14 fl_X14_77 (lm_modN (σ := σ) hf5) (by decide) rfl ?_
          refine sw_iconst (x := 3) O (xx_dt dd_X14_isSoundNow 90 rfl) (by decide) ?_
          refine sw_icmp_ne (tgt := 187) O (xx_dt dd_X14_isSoundNow 91 rfl) (by decide) (fun q10 => ?_) (fun q10 => ?_)
          · refine sw_aload_n O (xx_dt dd_X14_isSoundNow 97 rfl) rfl ?_
            refine sw_get (v := .null) O (xx_dt dd_X14_isSoundNow 98 rfl) cl_X14 fl_X14_141 (lm_modN (σ := σ) hf5) (by decide) rfl ?_
            refine sw_ifnullN (tgt := 201) O (xx_dt dd_X14_isSoundNow 99 rfl) (by decide) ?_
            refine sw_iconst (x := 1) O (xx_dt dd_X14_isSoundNow 103 rfl) (by decide) ?_
            refine sw_goto (tgt := 206) O (xx_dt dd_X14_isSoundNow 104 rfl) (by decide) ?_
            exact sw_iret O (xx_dt dd_X14_isSoundNow 106 rfl) rfl rfl (by rw [hQ]; exact ⟨by unfold f_MisSound_n; simp only [if_neg q10, show x_MisSound_n_2 σ R B K C pk g tn sp () = .inl sN2 from eN2, show x_MisSound_n_128 σ R B K C pk g tn sp () = .inl sN128 from eN128], rfl⟩)
          · refine sw_aload_n O (xx_dt dd_X14_isSoundNow 92 rfl) rfl ?_
            refine sw_callVx (as := []) (st := []) (st2 := [.int (f_MareNamed σ R B sp tn pk)]) O (ct_X14_areNamed hl (z := z) (σ := σ) hbs hfr hme hR hR5 hB hB6 hpk (hkp q10) htn hsp hho) ce_X14_areNamed ml_X14_394 iv_X14_areNamed cl_X14 rfl (lm_modN (σ := σ) hf5) (xx_dt dd_X14_isSoundNow 93 rfl) (by decide) rfl rfl (Nat.le_of_ble_eq_true rfl) rfl ?_
            refine sw_if_ne (tgt := 187) O (xx_dt dd_X14_isSoundNow 94 rfl) (by decide) (fun q11 => ?_) (fun q11 => ?_)
            · refine sw_aload_n O (xx_dt dd_X14_isSoundNow 97 rfl) rfl ?_
              refine sw_get (v := .null) O (xx_dt dd_X14_isSoundNow 98 rfl) cl_X14 fl_X14_141 (lm_modN (σ := σ) hf5) (by decide) rfl ?_
              refine sw_ifnullN (tgt := 201) O (xx_dt dd_X14_isSoundNow 99 rfl) (by decide) ?_
              refine sw_iconst (x := 1) O (xx_dt dd_X14_isSoundNow 103 rfl) (by decide) ?_
              refine sw_goto (tgt := 206) O (xx_dt dd_X14_isSoundNow 104 rfl) (by decide) ?_
              exact sw_iret O (xx_dt dd_X14_isSoundNow 106 rfl) rfl rfl (by rw [hQ]; exact ⟨by unfold f_MisSound_n; simp only [if_pos q10, if_neg q11, show x_MisSound_n_2 σ R B K C pk g tn sp () = .inl sN2 from eN2, show x_MisSound_n_128 σ R B K C pk g tn sp () = .inl sN128 from eN128], rfl⟩)
            · refine sw_iconst (x := 0) O (xx_dt dd_X14_isSoundNow 95 rfl) (by decide) ?_
              exact sw_iret O (xx_dt dd_X14_isSoundNow 96 rfl) rfl rfl (by rw [hQ]; exact ⟨by unfold f_MisSound_n; simp only [if_pos q10, if_pos q11, show x_MisSound_n_2 σ R B K C pk g tn sp () = .inl sN2 from eN2, show x_MisSound_n_128 σ R B K C pk g tn sp () = .inl sN128 from eN128], rfl⟩)
        · exact absurd (Int32.le_refl _) q8
      · unfold f_MisSound_n; simp only [x_MisSound_n_128, show x_MisSound_n_2 σ R B K C pk g tn sp () = .inl sN2 from eN2, eN128]
    · exact absurd (Int32.le_refl _) q1
  · unfold f_MisSound_n; simp only [x_MisSound_n_2, eN2]
end
section
/-! ===== the reference: isSound, over what isSoundNow says ===== -/
def f_MisSound (σ : XS9) (v : Int32) : Int32 := v
def g_MisSound (σ : XS9) (v : Int32) : XS9 := u2 σ 5000 0 0
theorem ct_X14_isSound {l : Launch} {h : XH} (hl : l.stackTraces = false) {z : Int64} {σ : XS9} (hbs : xx_bs h) {v : Int32} (hv : v = 0 ∨ v = 1) (hs : XEx l m_X14_isSoundNow 12 495 8668 [.ref 5000] (setM z (u2 σ 5000 0 0) h) (some (.int v)) (setM z (u2 σ 5000 0 0) h))  : XEx l m_X14_isSound 13 495 8668 [.ref 5000] (setM z σ h) (some (.int (f_MisSound σ v))) (setM z (g_MisSound σ v) h) := by
  refine XMet.of hl rfl rfl (Nat.le_of_ble_eq_true rfl) (fun Y O hh hQ => ?_)
  show SW Y 495 8668 (setM z σ h) 0 [.ref 5000] []
  refine sw_aload_n O (xx_dt dd_X14_isSound 0 rfl) rfl ?_
  refine sw_iconst (x := 0) O (xx_dt dd_X14_isSound 1 rfl) (by decide) ?_
  refine sw_put (h2 := setM z (u2 σ 5000 0 0) h) O (xx_dt dd_X14_isSound 2 rfl) cl_X14 fl_X14_46 (lm_mod (σ := σ)) (by decide) (by omega) rfl (fun _ => ⟨rfl, rfl⟩) (pm_mod (σ := σ) (by omega)) ?_
  refine sw_aload_n O (xx_dt dd_X14_isSound 3 rfl) rfl ?_
  refine sw_callVx (as := []) (st := []) (st2 := [.int v]) O (hs) ce_X14_isSoundNow ml_X14_404 iv_X14_isSoundNow cl_X14 rfl (lm_mod (σ := u2 σ 5000 0 0)) (xx_dt dd_X14_isSound 4 rfl) (by decide) rfl rfl (Nat.le_of_ble_eq_true rfl) rfl ?_
  exact sw_iret O (xx_dt dd_X14_isSound 5 rfl) rfl (xx_bool hv) (by rw [hQ]; exact ⟨by unfold f_MisSound; rfl, by unfold g_MisSound; rfl⟩)
end
section
/-! ===== the reference: ask ===== -/
def nmT (σ : XS9) (k : Nat) : Nat := 10200 + 2 * k + (if σ 5004 (100 + k) = 0 then 1 else 0)
def g_setS (σ : XS9) (k : Nat) (v : Int32) : XS9 := u2 (u2 σ 5004 k v) 5004 (100 + k) (if σ 5004 (100 + k) = 0 then 1 else 0)
def boxK (h : XH) (v : Int32) (e : Nat) : XH := if xx_small v then h else xx_up h e (2, 1, fun _ => .int v)
theorem setS_ne {σ : XS9} {k q : Nat} {v : Int32} (h : q ≠ 5004) : g_setS σ k v q = σ q := by unfold g_setS; rw [u2_ne h, u2_ne h]
theorem setS_v {σ : XS9} {k : Nat} {v : Int32} : g_setS σ k v 5004 k = v := by unfold g_setS; rw [u2_oi (by omega), u2_at]
theorem setS_t {σ : XS9} {k : Nat} {v : Int32} : g_setS σ k v 5004 (100 + k) = if σ 5004 (100 + k) = 0 then 1 else 0 := u2_at
theorem setS_o {σ : XS9} {k j : Nat} {v : Int32} (h : j ≠ k) (h2 : j ≠ 100 + k) : g_setS σ k v 5004 j = σ 5004 j := by unfold g_setS; rw [u2_oi h2, u2_oi h]
theorem nmT_e {σ : XS9} {k : Nat} {v : Int32} : nmS (g_setS σ k v) k = nmT σ k := by
  unfold nmS nmT
  rw [setS_t]
  by_cases h : σ 5004 (100 + k) = 0
  · rw [if_pos h, if_pos h]; rfl
  · rw [if_neg h, if_neg h, if_pos rfl]
theorem nmT_o {σ : XS9} {k j : Nat} {v : Int32} (hk : k < 20) (hj : j < 20) (h : j ≠ k) : nmS (g_setS σ k v) j = nmS σ j := by
  unfold nmS
  rw [setS_o (by omega) (by omega)]
theorem nmT_r {σ : XS9} (k : Nat) : (nmT σ k - 10200) / 2 = k ∧ 10200 + 2 * k ≤ nmT σ k ∧ nmT σ k ≤ 10200 + 2 * k + 1 ∧ nmT σ k ≠ nmS σ k := by
  unfold nmT nmS
  split <;> omega
theorem noq_tint {z : Int64} {σ : XS9} {k : Nat} (hk : k < 20) (s : Nat → Int32) : lyQ z (ctl σ) (nmT σ k) s = none := by
  obtain ⟨q1, q2, q3, q4⟩ := nmT_r (σ := σ) k
  have q5 : nmS (ctl σ) k = nmS σ k := rfl
  unfold lyQ
  rw [if_neg (by omega), if_neg (by omega), if_neg (by omega), if_neg (by omega), if_neg (by omega), if_neg (by omega), if_neg (by omega), if_neg (by omega), if_neg (by omega), if_neg (by omega), if_neg (by omega), if_neg (by omega), if_neg (by omega), if_neg (by omega), if_neg (by omega), if_neg (by omega), if_neg (by omega), if_pos (by omega), q1, q5, if_neg (fun h => q4 h.2.1)]
theorem noq_uint {z : Int64} {σ : XS9} {k : Nat} {v : Int32} (hk : k < 20) (s : Nat → Int32) : lyQ z (ctl (g_setS σ k v)) (nmS σ k) s = none := by
  obtain ⟨q1, q2, q3⟩ := nmS_r (σ := σ) k
  have q5 : nmS (ctl (g_setS σ k v)) k = nmT σ k := nmT_e
  have q6 := (nmT_r (σ := σ) k).2.2.2
  unfold lyQ
  rw [if_neg (by omega), if_neg (by omega), if_neg (by omega), if_neg (by omega), if_neg (by omega), if_neg (by omega), if_neg (by omega), if_neg (by omega), if_neg (by omega), if_neg (by omega), if_neg (by omega), if_neg (by omega), if_neg (by omega), if_neg (by omega), if_neg (by omega), if_neg (by omega), if_neg (by omega), if_pos (by omega), q1, q5, if_neg (fun h => q6 h.2.1.symm)]
theorem lyQ_T {z : Int64} {C C' : XS9} {r k : Nat} {s : Nat → Int32} (h1 : ∀ q i, q ≠ 5004 → C q i = C' q i) (h3 : C 5004 900 = C' 5004 900) (h4 : ∀ j, j ≠ k → j ≠ 100 + k → j < 200 → C 5004 j = C' 5004 j) (hk : k < 20) (hr : r ≠ 5004 ∧ r ≠ 10200 + 2 * k ∧ r ≠ 10200 + 2 * k + 1) : lyQ z C r s = lyQ z C' r s := by
  have e1 : ∀ i, C 5001 i = C' 5001 i := fun i => h1 _ _ (by omega)
  have e2 : ∀ i, C 5002 i = C' 5002 i := fun i => h1 _ _ (by omega)
  have e3 : ∀ i, C 5003 i = C' 5003 i := fun i => h1 _ _ (by omega)
  have e7 : ∀ i, C 7000 i = C' 7000 i := fun i => h1 _ _ (by omega)
  have e8 : ∀ i, C 8000 i = C' 8000 i := fun i => h1 _ _ (by omega)
  have e9 : ∀ i, C 9000 i = C' 9000 i := fun i => h1 _ _ (by omega)
  have er : ∀ i, C r i = C' r i := fun i => h1 _ _ hr.1
  have ep : ∀ i, C (5030 + (r - 10000) / 20) i = C' (5030 + (r - 10000) / 20) i := fun i => h1 _ _ (by omega)
  unfold lyQ lyB
  by_cases u0 : r < 5010
  · rw [if_pos u0, if_pos u0]
    split <;> first | rfl | (exfalso; omega) | simp only [e1, e2, e3, e7]
  rw [if_neg u0, if_neg u0]
  by_cases u4 : r < 10200
  · simp only [e1, e2, e3, e7, e8, e9, er, ep, if_pos u4]
  by_cases u5 : r < 10300
  · simp only [if_neg (show ¬ r < 5020 by omega), if_neg (show ¬ r < 5030 by omega), if_neg (show ¬ r < 5040 by omega), if_neg (show ¬ r < 5200 by omega), if_neg (show ¬ r < 5300 by omega), if_neg (show ¬ r < 6000 by omega), if_neg (show ¬ r < 6100 by omega), if_neg (show ¬ r < 6200 by omega), if_neg (show ¬ r < 6300 by omega), if_neg (show ¬ r < 6400 by omega), if_neg (show ¬ r < 7000 by omega), if_neg (show ¬ r < 8000 by omega), if_neg (show ¬ r < 9000 by omega), if_neg (show ¬ r < 9010 by omega), if_neg (show ¬ r < 10000 by omega), if_neg u4, if_pos u5, h3]
    have n1 : nmS C ((r - 10200) / 2) = nmS C' ((r - 10200) / 2) := by unfold nmS; rw [h4 (100 + (r - 10200) / 2) (by omega) (by omega) (by omega)]
    rw [h4 _ (by omega) (by omega) (by omega), n1]
  simp only [e1, e2, e3, e7, e8, e9, er, if_neg u4, if_neg u5, if_neg (show ¬ r < 5200 by omega), if_neg (show ¬ r < 5300 by omega), if_neg (show ¬ r < 6000 by omega), if_neg (show ¬ r < 6100 by omega), if_neg (show ¬ r < 6200 by omega), if_neg (show ¬ r < 6300 by omega), if_neg (show ¬ r < 6400 by omega), if_neg (show ¬ r < 7000 by omega), if_neg (show ¬ r < 8000 by omega), if_neg (show ¬ r < 9000 by omega), if_neg (show ¬ r < 9010 by omega)]
theorem sw_boxT {Y : XY} {k9 n9 pc : Nat} {ls st : List Value} {z : Int64} {σ : XS9} {h : XH} {S k : Nat} {v : Int32} (hfr : ∀ r, 5000 ≤ r → r < 20010 → h r = none) (hS : σ 5004 900 = nI S) (hS20 : S ≤ 20) (hk : k < S) (kk : SW Y k9 n9 (setM z (g_setS σ k v) (boxK h (σ 5004 k) (nmS σ k))) pc ls st) : SW Y k9 n9 (xx_up (setM z σ (boxH h v (nmT σ k))) 5004 (206, S, updV (fun j => .ref (xx_box (σ 5004 j) (nmS σ j))) k (.ref (xx_box v (nmT σ k))))) pc ls st := by
  obtain ⟨q1, q2, q3⟩ := nmS_r (σ := σ) k
  obtain ⟨t1, t2, t3, t4⟩ := nmT_r (σ := σ) k
  have hS' : g_setS σ k v 5004 900 = nI S := by rw [setS_o (by omega) (by omega)]; exact hS
  have c1 : ∀ q i, q ≠ 5004 → ctl σ q i = ctl (g_setS σ k v) q i := fun q i hq => by unfold ctl; rw [setS_ne hq]
  have h3 : ctl σ 5004 900 = ctl (g_setS σ k v) 5004 900 := show σ 5004 900 = g_setS σ k v 5004 900 by rw [hS', hS]
  have h4 : ∀ j, j ≠ k → j ≠ 100 + k → j < 200 → ctl σ 5004 j = ctl (g_setS σ k v) 5004 j := fun j a b c => show σ 5004 j = g_setS σ k v 5004 j by rw [setS_o a b]
  have hs1 : ∀ q, q ≠ nmS σ k → boxK h (σ 5004 k) (nmS σ k) q = h q := fun q a => by
    unfold boxK
    split
    · rfl
    · exact xx_up_ne a
  have goal : ∀ F : Nat → Value, (¬ xx_small v → F = fun _ => .int v) → xx_up (if xx_small v then setM z σ h else xx_up (setM z σ h) (nmT σ k) (2, 1, F)) 5004 (206, S, fun j => .ref (xx_box (g_setS σ k v 5004 j) (nmS (g_setS σ k v) j))) = setM z (g_setS σ k v) (boxK h (σ 5004 k) (nmS σ k)) := fun F hF => by
    funext q
    by_cases a1 : q = 5004
    · rw [a1, xx_up_eq, lm_5004 hS' hS20]
    rw [xx_up_ne a1]
    by_cases a2 : q = nmT σ k
    · subst a2
      by_cases hs : xx_small v
      · rw [if_pos hs, setM_no (noq_tint (by omega) _), hfr _ (by omega) (by omega)]
        refine ((setM_no ?_).trans ((hs1 _ t4).trans (hfr _ (by omega) (by omega)))).symm
        have q5 : nmS (ctl (g_setS σ k v)) k = nmT σ k := nmT_e
        have q7 : ctl (g_setS σ k v) 5004 k = v := setS_v
        unfold lyQ
        rw [if_neg (by omega), if_neg (by omega), if_neg (by omega), if_neg (by omega), if_neg (by omega), if_neg (by omega), if_neg (by omega), if_neg (by omega), if_neg (by omega), if_neg (by omega), if_neg (by omega), if_neg (by omega), if_neg (by omega), if_neg (by omega), if_neg (by omega), if_neg (by omega), if_neg (by omega), if_pos (by omega), t1, q7, if_neg (fun h9 => h9.2.2 hs)]
      · rw [if_neg hs, xx_up_eq, hF hs]
        have t := lm_sint (z := z) (h := boxK h (σ 5004 k) (nmS σ k)) hS' hS20 (k := k) hk (by rw [setS_v]; exact hs)
        rw [nmT_e, setS_v] at t
        exact t.symm
    have a3 : (if xx_small v then setM z σ h else xx_up (setM z σ h) (nmT σ k) (2, 1, F)) q = setM z σ h q := by
      split
      · rfl
      · exact xx_up_ne a2
    rw [a3]
    by_cases a4 : q = nmS σ k
    · subst a4
      rw [setM_no (noq_uint (by omega) _)]
      unfold boxK
      by_cases ho : xx_small (σ 5004 k)
      · rw [if_pos ho, setM_no]
        unfold lyQ
        have q7 : ctl σ 5004 k = σ 5004 k := rfl
        rw [if_neg (by omega), if_neg (by omega), if_neg (by omega), if_neg (by omega), if_neg (by omega), if_neg (by omega), if_neg (by omega), if_neg (by omega), if_neg (by omega), if_neg (by omega), if_neg (by omega), if_neg (by omega), if_neg (by omega), if_neg (by omega), if_neg (by omega), if_neg (by omega), if_neg (by omega), if_pos (by omega), q1, q7, if_neg (fun h9 => h9.2.2 ho)]
      · rw [if_neg ho, xx_up_eq, lm_sint hS hS20 hk ho]
    · have hr : q ≠ 10200 + 2 * k ∧ q ≠ 10200 + 2 * k + 1 := by omega
      unfold setM
      rw [setS_ne a1, lyQ_T c1 h3 h4 (by omega) ⟨a1, hr⟩, hs1 q a4]
  refine sw_alter (r := 5004) (F2 := fun j => .ref (xx_box (g_setS σ k v 5004 j) (nmS (g_setS σ k v) j))) (xx_up_eq _ _ _) (fun j hj => ?_) ?_
  · unfold updV
    by_cases e : j = k
    · subst e
      rw [if_pos rfl, setS_v, nmT_e]
    · rw [if_neg e, setS_o e (by omega), nmT_o (by omega) (by omega) e]
  rw [xx_up_up]
  by_cases hs : xx_small v
  · have e : boxH h v (nmT σ k) = h := if_pos hs
    have g := goal (fun _ => .int v) (fun _ => rfl)
    rw [if_pos hs] at g
    rw [e, g]
    exact kk
  · have e : boxH h v (nmT σ k) = xx_up h (nmT σ k) (2, 1, vF v) := if_neg hs
    rw [e, setM_up (.inr (noq_tint (by omega) _))]
    refine sw_alter (r := nmT σ k) (F2 := fun _ => .int v) ((xx_up_ne (by omega)).trans (xx_up_eq _ _ _)) (fun j hj => by match j, hj with | 0, _ => rfl) ?_
    have g := goal (fun _ => .int v) (fun _ => rfl)
    rw [if_neg hs] at g
    rw [← xx_up_sw (by omega), xx_up_up, g]
    exact kk
theorem lm_old {z : Int64} {σ : XS9} {h : XH} (hbs : xx_bs h) {k : Nat} {v : Int32} (hk : k < 20) : setM z (g_setS σ k v) (boxK h (σ 5004 k) (nmS σ k)) (xx_box (σ 5004 k) (nmS σ k)) = some (2, 1, fun _ => .int (σ 5004 k)) := by
  unfold xx_box boxK
  by_cases hs : xx_small (σ 5004 k)
  · have := (small_nat hs).2
    rw [if_pos hs, if_pos hs, setM_out (by omega), hbs.2.2.2.1 _ this, small_eq hs]
  · rw [if_neg hs, if_neg hs, setM_no (noq_uint hk _), xx_up_eq]
def k_Mask (h : XH) (σ : XS9) (x y : Int32) (C : Nat) : XH := if n_bt x 0 ((nI C) - 1) then (if n_bt y 1 9999 then boxK h ((u2 σ 5000 0 0) 5004 (2 * (cn x) + 1)) (nmS (u2 σ 5000 0 0) (2 * (cn x) + 1)) else h) else h
def f_Mask (σ : XS9) (x y : Int32) (C : Nat) : Int32 := (if n_bt x 0 ((nI C) - 1) then (if n_bt y 1 9999 then (u2 σ 5000 0 0) 5004 (2 * (cn x) + 1) else 0) else 0)
def g_Mask (σ : XS9) (x y : Int32) (C : Nat) : XS9 := (if n_bt x 0 ((nI C) - 1) then (if n_bt y 1 9999 then g_setS (u2 σ 5000 0 0) (2 * (cn x) + 1) y else u2 (u2 σ 5000 0 0) 5000 0 2) else u2 (u2 σ 5000 0 0) 5000 0 1)
theorem ct_X14_ask {l : Launch} {h : XH} (hl : l.stackTraces = false) {z : Int64} {σ : XS9} (hbs : xx_bs h) (hfr : ∀ r, 5000 ≤ r → r < 20010 → h r = none) {C : Nat} (hS : σ 5004 900 = nI (2 * C)) (hC10 : C ≤ 10) {x y : Int32} : XEx l m_X14_ask 9 1 1 [.ref 5000, .int x, .int y] (setM z σ h) (some (.int (f_Mask σ x y C))) (setM z (g_Mask σ x y C) (k_Mask h σ x y C)) := by
  refine XMet.of hl rfl rfl (Nat.le_of_ble_eq_true rfl) (fun Y O hh hQ => ?_)
  show SW Y 1 1 (setM z σ h) 0 [.ref 5000, .int x, .int y] []
  refine sw_aload_n O (xx_dt dd_X14_ask 0 rfl) rfl ?_
  refine sw_iconst (x := 0) O (xx_dt dd_X14_ask 1 rfl) (by decide) ?_
  refine sw_put (h2 := setM z (u2 σ 5000 0 0) h) O (xx_dt dd_X14_ask 2 rfl) cl_X14 fl_X14_46 (lm_mod (σ := σ)) (by decide) (by omega) rfl (fun _ => ⟨rfl, rfl⟩) (pm_mod (σ := σ) (by omega)) ?_
  refine sw_iload_n O (xx_dt dd_X14_ask 3 rfl) rfl ?_
  refine sw_iconst (x := 0) O (xx_dt dd_X14_ask 4 rfl) (by decide) ?_
  refine sw_aload_n O (xx_dt dd_X14_ask 5 rfl) rfl ?_
  refine sw_get (v := .ref 5004) O (xx_dt dd_X14_ask 6 rfl) cl_X14 fl_X14_33 (lm_mod (σ := u2 σ 5000 0 0)) (by decide) rfl ?_
  refine sw_callVL (ci := 6) (as := []) (st := [.int 0, .int x]) (st2 := [.int (nI (2 * C)), .int 0, .int x]) O (ct_AL_size hl (lm_5004 (σ := u2 σ 5000 0 0) (S := 2 * C) hS (by omega))) ce_Jx4a65c_size_8abf5 ml_X14_57 iv_Jx4a65c_size_8abf5 cl_Jx4a65c rfl (lm_5004 (σ := u2 σ 5000 0 0) (S := 2 * C) hS (by omega)) (xx_dt dd_X14_ask 7 rfl) (by decide) rfl rfl (Nat.le_of_ble_eq_true rfl) rfl ?_
  refine sw_iconst (x := 2) O (xx_dt dd_X14_ask 8 rfl) (by decide) ?_
  refine sw_idiv O (xx_dt dd_X14_ask 9 rfl) (by first | decide | assumption) ?_
  have hx15 := trivial
  rw [nI_half (by omega)]
  refine sw_iconst (x := 1) O (xx_dt dd_X14_ask 10 rfl) (by decide) ?_
  refine sw_isub O (xx_dt dd_X14_ask 11 rfl) ?_
  refine sw_callSx (as := [.int x, .int 0, .int ((nI C) - 1)]) (st := []) (st2 := [.int (bZ (n_bt x 0 ((nI C) - 1)))]) O (ct_X14_is hl) ce_X14_is ml_X14_70 st_X14_is (xx_dt dd_X14_ask 12 rfl) (by decide) rfl rfl (Nat.le_of_ble_eq_true rfl) rfl ?_
  refine sw_if_neB (tgt := 30) O (xx_dt dd_X14_ask 13 rfl) (by decide) (fun q1 => ?_) (fun q1 => ?_)
  · have hc21 := ((sub1_lt (R := C) (by omega)).mp q1)
    refine sw_lsE (ls2 := [.ref 5000, .int (nI (cn x)), .int y]) (by rw [← hc21.1]) ?_
    have hd21 := hc21.2
    refine sw_iload_n O (xx_dt dd_X14_ask 18 rfl) rfl ?_
    refine sw_iconst (x := 1) O (xx_dt dd_X14_ask 19 rfl) (by decide) ?_
    refine sw_sipush (x := 9999) O (xx_dt dd_X14_ask 20 rfl) (by decide) ?_
    refine sw_callSx (as := [.int y, .int 1, .int 9999]) (st := []) (st2 := [.int (bZ (n_bt y 1 9999))]) O (ct_X14_is hl) ce_X14_is ml_X14_70 st_X14_is (xx_dt dd_X14_ask 21 rfl) (by decide) rfl rfl (Nat.le_of_ble_eq_true rfl) rfl ?_
    refine sw_if_neB (tgt := 47) O (xx_dt dd_X14_ask 22 rfl) (by decide) (fun q2 => ?_) (fun q2 => ?_)
    · have hx20 : cn x < C := by omega
      refine sw_aload_n O (xx_dt dd_X14_ask 27 rfl) rfl ?_
      refine sw_get (v := .ref 5004) O (xx_dt dd_X14_ask 28 rfl) cl_X14 fl_X14_33 (lm_mod (σ := u2 σ 5000 0 0)) (by decide) rfl ?_
      refine sw_iconst (x := 2) O (xx_dt dd_X14_ask 29 rfl) (by decide) ?_
      refine sw_iload_n O (xx_dt dd_X14_ask 30 rfl) rfl ?_
      refine sw_imul O (xx_dt dd_X14_ask 31 rfl) ?_
      have hx53 := trivial
      rw [nI_dbl]
      refine sw_iconst (x := 1) O (xx_dt dd_X14_ask 32 rfl) (by decide) ?_
      refine sw_iadd O (xx_dt dd_X14_ask 33 rfl) ?_
      rw [nI_a1 (2 * (cn x))]
      refine sw_iload_n O (xx_dt dd_X14_ask 34 rfl) rfl ?_
      refine sw_callSx (k := 0) (n := 0) (k' := 1) (n' := 1) (as := [.int y]) (st := [.int (nI (2 * (cn x) + 1)), .ref 5004]) (st2 := [.ref (xx_box y (nmT (u2 σ 5000 0 0) (2 * (cn x) + 1))), .int (nI (2 * (cn x) + 1)), .ref 5004]) O (ct_val hl (z := z) (σ := u2 σ 5000 0 0) hbs (v := y) (e := nmT (u2 σ 5000 0 0) (2 * (cn x) + 1)) (noq_tint (σ := u2 σ 5000 0 0) (k := 2 * (cn x) + 1) (by omega) _) (hfr (nmT (u2 σ 5000 0 0) (2 * (cn x) + 1)) (by have h9 := nmT_r (σ := u2 σ 5000 0 0) (2 * (cn x) + 1); omega) (by have h9 := nmT_r (σ := u2 σ 5000 0 0) (2 * (cn x) + 1); omega)) (by have h9 := nmT_r (σ := u2 σ 5000 0 0) (2 * (cn x) + 1); omega)) ce_J6_valueOf_2dffe ml_X14_206 st_J6_valueOf_2dffe (xx_dt dd_X14_ask 35 rfl) (by decide) rfl rfl (Nat.le_of_ble_eq_true rfl) rfl ?_
      have hbs0 := hbs
      have hbs := bs_box (v := y) (e := nmT (u2 σ 5000 0 0) (2 * (cn x) + 1)) hbs (by have h9 := nmT_r (σ := u2 σ 5000 0 0) (2 * (cn x) + 1); omega) (by have h9 := nmT_r (σ := u2 σ 5000 0 0) (2 * (cn x) + 1); omega) (by have h9 := nmT_r (σ := u2 σ 5000 0 0) (2 * (cn x) + 1); omega)
      obtain ⟨f0, hz0⟩ := hbs.1
      refine sw_callVL (k := 0) (n := 0) (k' := 0) (n' := 0) (ci := 6) (as := [.int (nI (2 * (cn x) + 1)), .ref (xx_box y (nmT (u2 σ 5000 0 0) (2 * (cn x) + 1)))]) (st := []) (st2 := [.ref (xx_box ((u2 σ 5000 0 0) 5004 (2 * (cn x) + 1)) (nmS (u2 σ 5000 0 0) (2 * (cn x) + 1)))]) O (ct_AL_set hl (lm_5004 (z := z) (σ := u2 σ 5000 0 0) (h := boxH h y (nmT (u2 σ 5000 0 0) (2 * (cn x) + 1))) (S := 2 * C) hS (by omega)) (e := 19990) ((setM_no2 hbs).1) (by omega) (by omega) (setM_out0 hz0) (i := 2 * (cn x) + 1) (x := xx_box ((u2 σ 5000 0 0) 5004 (2 * (cn x) + 1)) (nmS (u2 σ 5000 0 0) (2 * (cn x) + 1))) (by omega) (by omega) rfl (ob_box hbs0 (noq_tint (σ := u2 σ 5000 0 0) (k := 2 * (cn x) + 1) (by omega) _))) ce_Jx4a65c_set_bcc79 ml_X14_261 iv_Jx4a65c_set_bcc79 cl_Jx4a65c rfl (lm_5004 (z := z) (σ := u2 σ 5000 0 0) (h := boxH h y (nmT (u2 σ 5000 0 0) (2 * (cn x) + 1))) (S := 2 * C) hS (by omega)) (xx_dt dd_X14_ask 36 rfl) (by decide) rfl rfl (Nat.le_of_ble_eq_true rfl) rfl ?_
      refine sw_boxT (σ := u2 σ 5000 0 0) (k := 2 * (cn x) + 1) hfr hS (by omega) (by omega) ?_
      refine sw_castO O (xx_dt dd_X14_ask 37 rfl) cl_J6 (lm_old (z := z) (σ := u2 σ 5000 0 0) (k := 2 * (cn x) + 1) (v := y) hbs0 (by omega)) cw_X14_113 ?_
      refine sw_callVx (as := []) (st := []) (st2 := [.int ((u2 σ 5000 0 0) 5004 (2 * (cn x) + 1))]) O (ct_intValue hl (lm_old (z := z) (σ := u2 σ 5000 0 0) (k := 2 * (cn x) + 1) (v := y) hbs0 (by omega)) rfl) ce_J6_intValue_8abf5 ml_X14_265 iv_J6_intValue_8abf5 cl_J6 rfl (lm_old (z := z) (σ := u2 σ 5000 0 0) (k := 2 * (cn x) + 1) (v := y) hbs0 (by omega)) (xx_dt dd_X14_ask 38 rfl) (by decide) rfl rfl (Nat.le_of_ble_eq_true rfl) rfl ?_
      exact sw_iret O (xx_dt dd_X14_ask 39 rfl) rfl rfl (by rw [hQ]; exact ⟨by unfold f_Mask; simp only [if_pos q1, if_pos q2], by unfold g_Mask k_Mask; simp only [if_pos q1, if_pos q2]⟩)
    · refine sw_aload_n O (xx_dt dd_X14_ask 23 rfl) rfl ?_
      refine sw_iconst (x := 2) O (xx_dt dd_X14_ask 24 rfl) (by decide) ?_
      refine sw_callVx (as := [.int 2]) (st := []) (st2 := [.int 0]) O (ct_X14_refuse hl (z := z) (σ := u2 σ 5000 0 0) hbs (x := 2)) ce_X14_refuse ml_X14_74 iv_X14_refuse cl_X14 rfl (lm_mod (σ := u2 σ 5000 0 0)) (xx_dt dd_X14_ask 25 rfl) (by decide) rfl rfl (Nat.le_of_ble_eq_true rfl) rfl ?_
      exact sw_iret O (xx_dt dd_X14_ask 26 rfl) rfl rfl (by rw [hQ]; exact ⟨by unfold f_Mask; simp only [if_pos q1, if_neg q2], by unfold g_Mask k_Mask; simp only [if_pos q1, if_neg q2]⟩)
  · refine sw_aload_n O (xx_dt dd_X14_ask 14 rfl) rfl ?_
    refine sw_iconst (x := 1) O (xx_dt dd_X14_ask 15 rfl) (by decide) ?_
    refine sw_callVx (as := [.int 1]) (st := []) (st2 := [.int 0]) O (ct_X14_refuse hl (z := z) (σ := u2 σ 5000 0 0) hbs (x := 1)) ce_X14_refuse ml_X14_74 iv_X14_refuse cl_X14 rfl (lm_mod (σ := u2 σ 5000 0 0)) (xx_dt dd_X14_ask 16 rfl) (by decide) rfl rfl (Nat.le_of_ble_eq_true rfl) rfl ?_
    exact sw_iret O (xx_dt dd_X14_ask 17 rfl) rfl rfl (by rw [hQ]; exact ⟨by unfold f_Mask; simp only [if_neg q1], by unfold g_Mask k_Mask; simp only [if_neg q1]⟩)
end
section
/-! ===== the reference: channel ===== -/
theorem fr_MisFits {σ : XS9} {x : Int32} {j c C : Nat} {rg : Nat → Nat} {qa ch q : Nat} (h : q ≠ qa ∧ ch ≤ 6) : g_MisFits σ x j c C rg qa ch q = σ q := by
  unfold g_MisFits
  split
  · rfl
  · rw [u2_ne h.1, fr_Mcp h, u2_ne h.1]
theorem fl_MisFits {σ : XS9} {x : Int32} {j c C : Nat} {rg : Nat → Nat} {qa ch : Nat} (h : ch ≤ 6) (hc : c < 20) : g_MisFits σ x j c C rg qa ch qa 20 = σ qa 20 ∧ g_MisFits σ x j c C rg qa ch qa 21 = σ qa 21 := by
  unfold g_MisFits
  split
  · exact ⟨rfl, rfl⟩
  · exact ⟨by rw [u2_oi (by omega), (fl_Mcp h).1, u2_oi (by omega)], by rw [u2_oi (by omega), (fl_Mcp h).2, u2_oi (by omega)]⟩
theorem bt_pos {v hi : Int32} (h : n_bt v 1 hi) (e : v = nI (cn v)) (b : cn v < 1000) : 1 ≤ cn v := by
  have t := h.1
  rw [e] at t
  exact (nI_leI (a := 1) (b := cn v) (by omega) (by omega)).mp t
def x_Mchannel_104 (x y : Int32) (C : Nat) (rg : Nat → Nat) (i83 : Nat) (s0 : XS9 × Nat) : XS9 × Nat := xitB (fun i104 s104 => (if (f_MisFits s104.1 (nI (cn x)) i83 s104.2 C rg 20000 (cn y)) = 0 then .inl (g_MisFits s104.1 (nI (cn x)) i83 s104.2 C rg 20000 (cn y), s104.2 + 1) else .inr (g_MisFits s104.1 (nI (cn x)) i83 s104.2 C rg 20000 (cn y), s104.2))) (cn y) 0 s0
def x_Mchannel_83 (x y v : Int32) (C : Nat) (rg : Nat → Nat) (s0 : XS9) : XS9 ⊕ (XS9 × Int32) := xitR (fun i83 s83 => (if (((nI (cn x)) >>> ((nI i83) &&& 31)) &&& 1) = 0 then .inl s83 else (if (nI i83) = (nI (cn v)) then .inr (u2 (u2 ((x_Mchannel_104 x y C rg i83 (s83, 0)).1) 20000 ((x_Mchannel_104 x y C rg i83 (s83, 0)).2) ((((x_Mchannel_104 x y C rg i83 (s83, 0)).1) 20000 ((x_Mchannel_104 x y C rg i83 (s83, 0)).2)) ||| (1 <<< ((nI i83) &&& 31)))) 20000 20 0, nI ((x_Mchannel_104 x y C rg i83 (s83, 0)).2)) else .inl (u2 ((x_Mchannel_104 x y C rg i83 (s83, 0)).1) 20000 ((x_Mchannel_104 x y C rg i83 (s83, 0)).2) ((((x_Mchannel_104 x y C rg i83 (s83, 0)).1) 20000 ((x_Mchannel_104 x y C rg i83 (s83, 0)).2)) ||| (1 <<< ((nI i83) &&& 31))))))) (cn v + 1) 0 s0
theorem in_Mchan {x y : Int32} {C : Nat} {rg : Nat → Nat} {i83 : Nat} {s : XS9} (h1 : 1 ≤ cn y) (h6 : cn y ≤ 6) (f1 : s 20000 20 = nI 1) (f2 : s 20000 21 = nI (cn y)) : (x_Mchannel_104 x y C rg i83 (s, 0)).1 20000 20 = nI 1 ∧ (x_Mchannel_104 x y C rg i83 (s, 0)).1 20000 21 = nI (cn y) ∧ (∀ q, q ≠ 20000 → (x_Mchannel_104 x y C rg i83 (s, 0)).1 q = s q) ∧ (x_Mchannel_104 x y C rg i83 (s, 0)).2 ≤ cn y := by
  unfold x_Mchannel_104
  have H : ∀ f i (t : XS9 × Nat), i + f = cn y → t.1 20000 20 = nI 1 ∧ t.1 20000 21 = nI (cn y) ∧ (∀ q, q ≠ 20000 → t.1 q = s q) ∧ t.2 ≤ i → (xitB (fun i104 s104 => (if (f_MisFits s104.1 (nI (cn x)) i83 s104.2 C rg 20000 (cn y)) = 0 then .inl (g_MisFits s104.1 (nI (cn x)) i83 s104.2 C rg 20000 (cn y), s104.2 + 1) else .inr (g_MisFits s104.1 (nI (cn x)) i83 s104.2 C rg 20000 (cn y), s104.2)) : Nat → XS9 × Nat → (XS9 × Nat) ⊕ (XS9 × Nat)) f i t).1 20000 20 = nI 1 ∧ (xitB (fun i104 s104 => (if (f_MisFits s104.1 (nI (cn x)) i83 s104.2 C rg 20000 (cn y)) = 0 then .inl (g_MisFits s104.1 (nI (cn x)) i83 s104.2 C rg 20000 (cn y), s104.2 + 1) else .inr (g_MisFits s104.1 (nI (cn x)) i83 s104.2 C rg 20000 (cn y), s104.2)) : Nat → XS9 × Nat → (XS9 × Nat) ⊕ (XS9 × Nat)) f i t).1 20000 21 = nI (cn y) ∧ (∀ q, q ≠ 20000 → (xitB (fun i104 s104 => (if (f_MisFits s104.1 (nI (cn x)) i83 s104.2 C rg 20000 (cn y)) = 0 then .inl (g_MisFits s104.1 (nI (cn x)) i83 s104.2 C rg 20000 (cn y), s104.2 + 1) else .inr (g_MisFits s104.1 (nI (cn x)) i83 s104.2 C rg 20000 (cn y), s104.2)) : Nat → XS9 × Nat → (XS9 × Nat) ⊕ (XS9 × Nat)) f i t).1 q = s q) ∧ (xitB (fun i104 s104 => (if (f_MisFits s104.1 (nI (cn x)) i83 s104.2 C rg 20000 (cn y)) = 0 then .inl (g_MisFits s104.1 (nI (cn x)) i83 s104.2 C rg 20000 (cn y), s104.2 + 1) else .inr (g_MisFits s104.1 (nI (cn x)) i83 s104.2 C rg 20000 (cn y), s104.2)) : Nat → XS9 × Nat → (XS9 × Nat) ⊕ (XS9 × Nat)) f i t).2 ≤ cn y := by
    intro f
    induction f with
    | zero => exact fun i t e h => ⟨h.1, h.2.1, h.2.2.1, by have := h.2.2.2; show t.2 ≤ cn y; omega⟩
    | succ f ih =>
      intro i t e h
      have h9 := h.2.2.2
      unfold xitB
      by_cases q : f_MisFits t.1 (nI (cn x)) i83 t.2 C rg 20000 (cn y) = 0
      · (try simp only [if_pos q])
        exact ih (i + 1) _ (by omega) ⟨(fl_MisFits (by omega) (by omega)).1.trans h.1, (fl_MisFits (by omega) (by omega)).2.trans h.2.1, fun q hq => (fr_MisFits ⟨hq, by omega⟩).trans (h.2.2.1 q hq), by show t.2 + 1 ≤ i + 1; omega⟩
      · (try simp only [if_neg q])
        exact ⟨(fl_MisFits (by omega) (by omega)).1.trans h.1, (fl_MisFits (by omega) (by omega)).2.trans h.2.1, fun q hq => (fr_MisFits ⟨hq, by omega⟩).trans (h.2.2.1 q hq), by show t.2 ≤ cn y; omega⟩
  exact H (cn y) 0 (s, 0) (by omega) ⟨f1, f2, fun _ _ => rfl, by show 0 ≤ 0; omega⟩
def s_Mchan (x y v : Int32) (C : Nat) (rg : Nat → Nat) : Nat → XS9 → XS9 ⊕ (XS9 × Int32) := fun i83 s83 => (if (((nI (cn x)) >>> ((nI i83) &&& 31)) &&& 1) = 0 then .inl s83 else (if (nI i83) = (nI (cn v)) then .inr (u2 (u2 ((x_Mchannel_104 x y C rg i83 (s83, 0)).1) 20000 ((x_Mchannel_104 x y C rg i83 (s83, 0)).2) ((((x_Mchannel_104 x y C rg i83 (s83, 0)).1) 20000 ((x_Mchannel_104 x y C rg i83 (s83, 0)).2)) ||| (1 <<< ((nI i83) &&& 31)))) 20000 20 0, nI ((x_Mchannel_104 x y C rg i83 (s83, 0)).2)) else .inl (u2 ((x_Mchannel_104 x y C rg i83 (s83, 0)).1) 20000 ((x_Mchannel_104 x y C rg i83 (s83, 0)).2) ((((x_Mchannel_104 x y C rg i83 (s83, 0)).1) 20000 ((x_Mchannel_104 x y C rg i83 (s83, 0)).2)) ||| (1 <<< ((nI i83) &&& 31))))))
def f_Mchannel (σ : XS9) (x y v : Int32) (R C : Nat) (rg : Nat → Nat) : Int32 := (if n_bt v 0 ((nI C) - 1) then (if n_lt x (2 ^ C) then (if n_bt y 1 6 then (if (((nI (cn x)) >>> ((nI (cn v)) &&& 31)) &&& 1) = 0 then (-1) else (if (f_Mcp (uR (u2 σ 5000 0 0) 20000 (rowN (cn y))) (nI (cn x)) 0 C rg 20000 (cn y)) = 0 then (-1) else (match (x_Mchannel_83 x y v C rg (g_Mcp (uR (u2 σ 5000 0 0) 20000 (rowN (cn y))) (nI (cn x)) 0 C rg 20000 (cn y))) with | .inl s83 => (-1) | .inr r83 => r83.2))) else 0) else 0) else 0)
def g_Mchannel (σ : XS9) (x y v : Int32) (R C : Nat) (rg : Nat → Nat) : XS9 := (if n_bt v 0 ((nI C) - 1) then (if n_lt x (2 ^ C) then (if n_bt y 1 6 then (if (((nI (cn x)) >>> ((nI (cn v)) &&& 31)) &&& 1) = 0 then u2 (uR (u2 σ 5000 0 0) 20000 (rowN (cn y))) 20000 20 0 else (if (f_Mcp (uR (u2 σ 5000 0 0) 20000 (rowN (cn y))) (nI (cn x)) 0 C rg 20000 (cn y)) = 0 then u2 (g_Mcp (uR (u2 σ 5000 0 0) 20000 (rowN (cn y))) (nI (cn x)) 0 C rg 20000 (cn y)) 20000 20 0 else (match (x_Mchannel_83 x y v C rg (g_Mcp (uR (u2 σ 5000 0 0) 20000 (rowN (cn y))) (nI (cn x)) 0 C rg 20000 (cn y))) with | .inl s83 => u2 s83 20000 20 0 | .inr r83 => r83.1))) else u2 (u2 σ 5000 0 0) 5000 0 2) else u2 (u2 σ 5000 0 0) 5000 0 2) else u2 (u2 σ 5000 0 0) 5000 0 1)
theorem ct_X14_channel {l : Launch} {h : XH} (hl : l.stackTraces = false) {z : Int64} {σ : XS9} (hbs : xx_bs h) (hfr : ∀ r, 5000 ≤ r → r < 20010 → h r = none) (hme : mem_eq σ σ) {R : Nat} (hR : σ 5001 900 = nI R) (hR5 : R ≤ 5) {C : Nat} (hS : σ 5004 900 = nI (2 * C)) (hC10 : C ≤ 10) {rg : Nat → Nat} (hrg : ∀ q, q < C → σ 5004 (2 * q) = nI (rg q) ∧ rg q < R) {x y v : Int32} {PI : Nat → XS9 → Prop} {PJ : Nat → Nat → XS9 → Prop} (hPI0 : n_bt v 0 ((nI C) - 1) → n_lt x (2 ^ C) → n_bt y 1 6 → ¬ f_Mcp (uR (u2 σ 5000 0 0) 20000 (rowN (cn y))) (nI (cn x)) 0 C rg 20000 (cn y) = 0 → ¬ ((nI (cn x)) >>> ((nI (cn v)) &&& 31)) &&& 1 = 0 → PI 0 (g_Mcp (uR (u2 σ 5000 0 0) 20000 (rowN (cn y))) (nI (cn x)) 0 C rg 20000 (cn y))) (hPI : ∀ i s s', i < cn v + 1 → PI i s → s_Mchan x y v C rg i s = .inl s' → PI (i + 1) s') (hPJ0 : ∀ i s, i < cn v + 1 → PI i s → ¬ ((nI (cn x)) >>> ((nI i) &&& 31)) &&& 1 = 0 → PJ i 0 s) (hPJ1 : ∀ i c s, PJ i c s → c < cn y → f_MisFits s (nI (cn x)) i c C rg 20000 (cn y) = 0 → PJ i (c + 1) (g_MisFits s (nI (cn x)) i c C rg 20000 (cn y))) (hPJe : ∀ i s, ¬ PJ i (cn y) s)  : XEx l m_X14_channel 19 1 6 [.ref 5000, .int x, .int y, .int v] (setM z σ h) (some (.int (f_Mchannel σ x y v R C rg))) (setM z (g_Mchannel σ x y v R C rg) h) := by
  refine XMet.of hl rfl rfl (Nat.le_of_ble_eq_true rfl) (fun Y O hh hQ => ?_)
  refine sw_cls (fun hcl => ?_)
  show SW Y 1 6 (setM z σ h) 0 [.ref 5000, .int x, .int y, .int v, xx_d, xx_d, xx_d] []
  refine sw_aload_n O (xx_dt dd_X14_channel 0 rfl) rfl ?_
  refine sw_iconst (x := 0) O (xx_dt dd_X14_channel 1 rfl) (by decide) ?_
  refine sw_put (h2 := setM z (u2 σ 5000 0 0) h) O (xx_dt dd_X14_channel 2 rfl) cl_X14 fl_X14_46 (lm_mod (σ := σ)) (by decide) (by omega) rfl (fun _ => ⟨rfl, rfl⟩) (pm_mod (σ := σ) (by omega)) ?_
  refine sw_iload_n O (xx_dt dd_X14_channel 3 rfl) rfl ?_
  refine sw_iconst (x := 0) O (xx_dt dd_X14_channel 4 rfl) (by decide) ?_
  refine sw_aload_n O (xx_dt dd_X14_channel 5 rfl) rfl ?_
  refine sw_get (v := .ref 5004) O (xx_dt dd_X14_channel 6 rfl) cl_X14 fl_X14_33 (lm_mod (σ := u2 σ 5000 0 0)) (by decide) rfl ?_
  refine sw_callVL (ci := 6) (as := []) (st := [.int 0, .int v]) (st2 := [.int (nI (2 * C)), .int 0, .int v]) O (ct_AL_size hl (lm_5004 (σ := u2 σ 5000 0 0) (S := 2 * C) hS (by omega))) ce_Jx4a65c_size_8abf5 ml_X14_57 iv_Jx4a65c_size_8abf5 cl_Jx4a65c rfl (lm_5004 (σ := u2 σ 5000 0 0) (S := 2 * C) hS (by omega)) (xx_dt dd_X14_channel 7 rfl) (by omega) rfl rfl (Nat.le_of_ble_eq_true rfl) rfl ?_
  refine sw_iconst (x := 2) O (xx_dt dd_X14_channel 8 rfl) (by decide) ?_
  refine sw_idiv O (xx_dt dd_X14_channel 9 rfl) (by first | decide | assumption) ?_
  have hx15 := trivial
  rw [nI_half (by omega)]
  refine sw_iconst (x := 1) O (xx_dt dd_X14_channel 10 rfl) (by decide) ?_
  refine sw_isub O (xx_dt dd_X14_channel 11 rfl) ?_
  refine sw_callSx (as := [.int v, .int 0, .int ((nI C) - 1)]) (st := []) (st2 := [.int (bZ (n_bt v 0 ((nI C) - 1)))]) O (ct_X14_is hl) ce_X14_is ml_X14_70 st_X14_is (xx_dt dd_X14_channel 12 rfl) (by omega) rfl rfl (Nat.le_of_ble_eq_true rfl) rfl ?_
  refine sw_if_neB (tgt := 30) O (xx_dt dd_X14_channel 13 rfl) (by decide) (fun q1 => ?_) (fun q1 => ?_)
  · have hc21 := ((sub1_lt (R := C) (by omega)).mp q1)
    refine sw_lsE (ls2 := [.ref 5000, .int x, .int y, .int (nI (cn v)), xx_d, xx_d, xx_d]) (by rw [← hc21.1]) ?_
    have hd21 := hc21.2
    refine sw_aload_n O (xx_dt dd_X14_channel 18 rfl) rfl ?_
    refine sw_iload_n O (xx_dt dd_X14_channel 19 rfl) rfl ?_
    refine sw_callVx (as := [.int x]) (st := []) (st2 := [.int (bZ (n_lt x (2 ^ C)))]) O (ct_X14_areStations hl (z := z) (σ := u2 σ 5000 0 0) hbs (C := C) hS hC10 (x := x)) ce_X14_areStations ml_X14_279 iv_X14_areStations cl_X14 rfl (lm_mod (σ := u2 σ 5000 0 0)) (xx_dt dd_X14_channel 20 rfl) (by omega) rfl rfl (Nat.le_of_ble_eq_true rfl) rfl ?_
    refine sw_if_eqB (tgt := 48) O (xx_dt dd_X14_channel 21 rfl) (by decide) (fun q2 => ?_) (fun q2 => ?_)
    · refine sw_aload_n O (xx_dt dd_X14_channel 27 rfl) rfl ?_
      refine sw_iconst (x := 2) O (xx_dt dd_X14_channel 28 rfl) (by decide) ?_
      refine sw_callVx (as := [.int 2]) (st := []) (st2 := [.int 0]) O (ct_X14_refuse hl (z := z) (σ := u2 σ 5000 0 0) hbs (x := 2)) ce_X14_refuse ml_X14_74 iv_X14_refuse cl_X14 rfl (lm_mod (σ := u2 σ 5000 0 0)) (xx_dt dd_X14_channel 29 rfl) (by omega) rfl rfl (Nat.le_of_ble_eq_true rfl) rfl ?_
      exact sw_iret O (xx_dt dd_X14_channel 30 rfl) rfl rfl (by rw [hQ]; exact ⟨by unfold f_Mchannel; simp only [if_pos q1, if_neg q2], by unfold g_Mchannel; simp only [if_pos q1, if_neg q2]⟩)
    · have hc35 := q2
      refine sw_lsE (ls2 := [.ref 5000, .int (nI (cn x)), .int y, .int (nI (cn v)), xx_d, xx_d, xx_d]) (by rw [← hc35.1]) ?_
      have hd35 := hc35.2
      refine sw_iload_n O (xx_dt dd_X14_channel 22 rfl) rfl ?_
      refine sw_iconst (x := 1) O (xx_dt dd_X14_channel 23 rfl) (by decide) ?_
      refine sw_bipush (x := 6) O (xx_dt dd_X14_channel 24 rfl) (by decide) ?_
      refine sw_callSx (as := [.int y, .int 1, .int 6]) (st := []) (st2 := [.int (bZ (n_bt y 1 6))]) O (ct_X14_is hl) ce_X14_is ml_X14_70 st_X14_is (xx_dt dd_X14_channel 25 rfl) (by omega) rfl rfl (Nat.le_of_ble_eq_true rfl) rfl ?_
      refine sw_if_neB (tgt := 54) O (xx_dt dd_X14_channel 26 rfl) (by decide) (fun q3 => ?_) (fun q3 => ?_)
      · have hc45 := (bt_nat 6 q3 (by decide) rfl (by decide))
        refine sw_lsE (ls2 := [.ref 5000, .int (nI (cn x)), .int (nI (cn y)), .int (nI (cn v)), xx_d, xx_d, xx_d]) (by rw [← hc45.1]) ?_
        have hd45 := hc45.2
        have hy1 : 1 ≤ cn y := bt_pos q3 hc45.1 (by omega)
        refine sw_iload_n O (xx_dt dd_X14_channel 31 rfl) rfl ?_
        refine xx_wid (k' := 0 + 1) (n' := 0 + (cn y)) (by omega) (by omega) (sw_newarray (k := 0) (n := 0) (t := 100) (N := cn y) (r := 20000) O (xx_dt dd_X14_channel 32 rfl) ⟨⟨by omega, by omega⟩, rfl⟩ ac_int (by first | decide | (have h9 := xx_nlt0 (cn y) (by omega); exact h9)) (by first | rfl | exact nI_clamp (by omega)) (by show (cn y) * 4 ≤ _; omega) ((setM_tn (z := z) (σ := u2 σ 5000 0 0) (q := 20000) (by omega) (hme.2.2 20000 (by omega) (by omega)).2).trans (hfr 20000 (by omega) (by omega))) (by omega) ?_)
        rw [xx_blk_up]
        refine sw_alter (F2 := fun k => .int (rowN (cn y) k)) (xx_up_eq _ _ _) (fun j9 hj9 => (rowN_lt (by omega)).symm) ?_
        rw [xx_up_up]
        rw [new_tmp (σ := u2 σ 5000 0 0) (q := 20000) (n := cn y) (by omega) (by omega)]
        refine sw_astore (ls2 := [.ref 5000, .int (nI (cn x)), .int (nI (cn y)), .int (nI (cn v)), .ref 20000, xx_d, xx_d]) O (xx_dt dd_X14_channel 33 rfl) (by decide) rfl ?_
        refine sw_iload_n O (xx_dt dd_X14_channel 34 rfl) rfl ?_
        refine sw_iload_n O (xx_dt dd_X14_channel 35 rfl) rfl ?_
        refine sw_ishr O (xx_dt dd_X14_channel 36 rfl) ?_
        refine sw_iconst (x := 1) O (xx_dt dd_X14_channel 37 rfl) (by decide) ?_
        refine sw_iand O (xx_dt dd_X14_channel 38 rfl) ?_
        refine sw_if_eq (tgt := 78) O (xx_dt dd_X14_channel 39 rfl) (by decide) (fun q4 => ?_) (fun q4 => ?_)
        · refine sw_iconst (x := (-1)) O (xx_dt dd_X14_channel 46 rfl) (by decide) ?_
          have me9 : mem_eq σ (u2 (uR (u2 σ 5000 0 0) 20000 (rowN (cn y))) 20000 20 0) := (mem_eq.frame (τ0 := u2 σ 5000 0 0) (mem_eq.int (r := 5000) (i := 0) (x := 0) hme rfl) (fun q h1 h2 h3 => by simp (disch := omega) only [u2_ne, uR_ne, fr_Cinit, fr_Cpay1, fr_Cpay2, fr_Mcp]) (by (simp (disch := omega) only [u2_ne, uR_ne, fr_Cinit, fr_Cpay1, fr_Cpay2, fr_Mcp]); exact hme.2.1.1.1) (fun q h1 h2 => by by_cases e0 : q = 20000; (subst e0; rfl); ((simp (disch := omega) only [u2_ne, uR_ne, fr_Cinit, fr_Cpay1, fr_Cpay2, fr_Mcp]; exact (hme.2.2 q h1 h2).1))))
          exact sw_iretD (h' := setM z (u2 (uR (u2 σ 5000 0 0) 20000 (rowN (cn y))) 20000 20 0) h) O (xx_dt dd_X14_channel 47 rfl) rfl rfl (dropT (by omega) hfr) (me9.cls hcl) (by rw [hh]; exact fun r hr => me9.dom hr) (by rw [hQ]; exact ⟨by unfold f_Mchannel; simp only [if_pos q1, if_pos q2, if_pos q3, if_pos q4], by unfold g_Mchannel; simp only [if_pos q1, if_pos q2, if_pos q3, if_pos q4]⟩)
        · refine sw_aload_n O (xx_dt dd_X14_channel 40 rfl) rfl ?_
          refine sw_iload_n O (xx_dt dd_X14_channel 41 rfl) rfl ?_
          refine sw_iconst (x := 0) O (xx_dt dd_X14_channel 42 rfl) (by decide) ?_
          refine sw_aload O (xx_dt dd_X14_channel 43 rfl) rfl ?_
          refine sw_callVx (as := [.int (nI (cn x)), .int 0, .ref 20000]) (st := []) (st2 := [.int (f_Mcp (uR (u2 σ 5000 0 0) 20000 (rowN (cn y))) (nI (cn x)) 0 C rg 20000 (cn y))]) O (ct_X14_canPack hl (z := z) (σ := uR (u2 σ 5000 0 0) 20000 (rowN (cn y))) hbs (R := R) hR (by omega) (C := C) hS (by omega) (rg := rg) hrg (qa := 20000) (ch := cn y) (by omega) tmp20 tmp21 (by omega) (x := nI (cn x)) (fr := 0) (by omega)) ce_X14_canPack ml_X14_272 iv_X14_canPack cl_X14 rfl (lm_mod (σ := uR (u2 σ 5000 0 0) 20000 (rowN (cn y)))) (xx_dt dd_X14_channel 44 rfl) (by omega) rfl rfl (Nat.le_of_ble_eq_true rfl) rfl ?_
          refine sw_if_ne (tgt := 80) O (xx_dt dd_X14_channel 45 rfl) (by decide) (fun q5 => ?_) (fun q5 => ?_)
          · refine sw_iconst (x := 0) O (xx_dt dd_X14_channel 48 rfl) (by decide) ?_
            refine sw_istore (ls2 := [.ref 5000, .int (nI (cn x)), .int (nI (cn y)), .int (nI (cn v)), .ref 20000, .int 0, xx_d]) O (xx_dt dd_X14_channel 49 rfl) (by decide) rfl ?_
            refine sw_forR (S := XS9) (R := (XS9 × Int32)) (fun i83 s83 => (if (((nI (cn x)) >>> ((nI i83) &&& 31)) &&& 1) = 0 then .inl s83 else (if (nI i83) = (nI (cn v)) then .inr (u2 (u2 ((x_Mchannel_104 x y C rg i83 (s83, 0)).1) 20000 ((x_Mchannel_104 x y C rg i83 (s83, 0)).2) ((((x_Mchannel_104 x y C rg i83 (s83, 0)).1) 20000 ((x_Mchannel_104 x y C rg i83 (s83, 0)).2)) ||| (1 <<< ((nI i83) &&& 31)))) 20000 20 0, nI ((x_Mchannel_104 x y C rg i83 (s83, 0)).2)) else .inl (u2 ((x_Mchannel_104 x y C rg i83 (s83, 0)).1) 20000 ((x_Mchannel_104 x y C rg i83 (s83, 0)).2) ((((x_Mchannel_104 x y C rg i83 (s83, 0)).1) 20000 ((x_Mchannel_104 x y C rg i83 (s83, 0)).2)) ||| (1 <<< ((nI i83) &&& 31))))))) (fun i s => s 20000 20 = nI 1 ∧ s 20000 21 = nI (cn y) ∧ (∀ q, q ≠ 20000 → s q = (g_Mcp (uR (u2 σ 5000 0 0) 20000 (rowN (cn y))) (nI (cn x)) 0 C rg 20000 (cn y)) q) ∧ PI i s) (FR := fun r9 => f_Mchannel σ x y v R C rg = r9.2 ∧ g_Mchannel σ x y v R C rg = r9.1) (hp := fun s83 => setM z s83 h) (hd := 83) (lc := fun i83 s83 => [.ref 5000, .int (nI (cn x)), .int (nI (cn y)), .int (nI (cn v)), .ref 20000, .int (nI i83), xx_d]) (N := (cn v + 1)) (fun i83 s83 hi83 hP83 => ⟨(by intro s' e'; refine ⟨?_, ?_, ?_, hPI _ _ _ hi83 hP83.2.2.2 e'⟩ <;> (revert e'; (try dsimp only); (repeat' split) <;> intro e' <;> first | (cases e'; done) | (have e9 := Sum.inl.inj e'; subst e9; first | exact hP83.1 | exact hP83.2.1 | exact hP83.2.2.1 | (have hz := in_Mchan (i83 := i83) (x := x) (C := C) (rg := rg) (by omega) (by omega) hP83.1 hP83.2.1; first | (rw [u2_oi (by omega)]; first | exact hz.1 | exact hz.2.1) | (intro q hq; rw [u2_ne hq]; exact (hz.2.2.1 q hq).trans (hP83.2.2.1 q hq)))))), fun kk83 kr83 => ?_⟩) (cn v + 1) 0 (g_Mcp (uR (u2 σ 5000 0 0) 20000 (rowN (cn y))) (nI (cn x)) 0 C rg 20000 (cn y)) (by omega) (⟨(fl_Mcp (by omega)).1.trans tmp20, (fl_Mcp (by omega)).2.trans tmp21, fun _ _ => rfl, hPI0 q1 q2 q3 (by assumption) (by assumption)⟩) (fun sN83 eN83 hP83 => ?_) (fun r83 eN83 => ?_)
            · refine sw_iload O (xx_dt dd_X14_channel 50 rfl) rfl ?_
              refine sw_iload_n O (xx_dt dd_X14_channel 51 rfl) rfl ?_
              refine sw_icmp_gt (tgt := 151) O (xx_dt dd_X14_channel 52 rfl) (by decide) (fun q6 => ?_) (fun q6 => ?_)
              · exact absurd ((nI_ltI (a := (cn v)) (b := i83) (by omega) (by omega)).mp q6) (by omega)
              · refine sw_iload_n O (xx_dt dd_X14_channel 53 rfl) rfl ?_
                refine sw_iload O (xx_dt dd_X14_channel 54 rfl) rfl ?_
                refine sw_ishr O (xx_dt dd_X14_channel 55 rfl) ?_
                refine sw_iconst (x := 1) O (xx_dt dd_X14_channel 56 rfl) (by decide) ?_
                refine sw_iand O (xx_dt dd_X14_channel 57 rfl) ?_
                refine sw_if_ne (tgt := 101) O (xx_dt dd_X14_channel 58 rfl) (by decide) (fun q7 => ?_) (fun q7 => ?_)
                · refine sw_iconst (x := 0) O (xx_dt dd_X14_channel 60 rfl) (by decide) ?_
                  refine sw_istore (ls2 := [.ref 5000, .int (nI (cn x)), .int (nI (cn y)), .int (nI (cn v)), .ref 20000, .int (nI i83), .int 0]) O (xx_dt dd_X14_channel 61 rfl) (by decide) rfl ?_
                  refine sw_forB (S := XS9 × Nat) (fun i104 s104 => (if (f_MisFits s104.1 (nI (cn x)) i83 s104.2 C rg 20000 (cn y)) = 0 then .inl (g_MisFits s104.1 (nI (cn x)) i83 s104.2 C rg 20000 (cn y), s104.2 + 1) else .inr (g_MisFits s104.1 (nI (cn x)) i83 s104.2 C rg 20000 (cn y), s104.2))) (fun i s => s.1 20000 20 = nI 1 ∧ s.1 20000 21 = nI (cn y) ∧ (∀ q, q ≠ 20000 → s.1 q = s83 q) ∧ s.2 = i ∧ PJ i83 i s.1) (fun s => s.1 20000 20 = nI 1 ∧ s.1 20000 21 = nI (cn y) ∧ (∀ q, q ≠ 20000 → s.1 q = s83 q) ∧ s.2 < cn y) (hp := fun s104 => setM z s104.1 h) (hd := 104) (lc := fun i104 s104 => [.ref 5000, .int (nI (cn x)), .int (nI (cn y)), .int (nI (cn v)), .ref 20000, .int (nI i83), .int (nI (s104.2))]) (ex := 124) (lx := fun s104 => [.ref 5000, .int (nI (cn x)), .int (nI (cn y)), .int (nI (cn v)), .ref 20000, .int (nI i83), .int (nI (s104.2))]) (N := (cn y)) (fun i104 s104 hi104 hP104 => ⟨(have h9 : s104.2 = i104 := hP104.2.2.2.1; ⟨(by intro s' e'; revert e'; (try dsimp only); (repeat' split) <;> intro e' <;> first | (cases e'; done) | (have e9 := Sum.inl.inj e'; subst e9; refine ⟨(fl_MisFits (by omega) (by omega)).1.trans hP104.1, (fl_MisFits (by omega) (by omega)).2.trans hP104.2.1, fun q hq => (fr_MisFits ⟨hq, by omega⟩).trans (hP104.2.2.1 q hq), ?_, ?_⟩; (show s104.2 + 1 = i104 + 1; omega); (show PJ i83 (i104 + 1) (g_MisFits s104.1 (nI (cn x)) i83 s104.2 C rg 20000 (cn y)); rw [h9]; exact hPJ1 _ _ _ hP104.2.2.2.2 (by omega) (by rw [← h9]; assumption)))), (by intro s' e'; revert e'; (try dsimp only); (repeat' split) <;> intro e' <;> first | (cases e'; done) | (have e9 := Sum.inr.inj e'; subst e9; refine ⟨(fl_MisFits (by omega) (by omega)).1.trans hP104.1, (fl_MisFits (by omega) (by omega)).2.trans hP104.2.1, fun q hq => (fr_MisFits ⟨hq, by omega⟩).trans (hP104.2.2.1 q hq), ?_⟩; (show s104.2 < cn y; omega)))⟩), fun kk104 kb104 => ?_⟩) (fun s104 hP104 => ⟨absurd hP104.2.2.2.2 (hPJe _ _), fun kx104 => ?_⟩) (cn y) 0 (s83, 0) (by omega) (⟨hP83.1, hP83.2.1, fun _ _ => rfl, rfl, hPJ0 _ _ hi83 hP83.2.2.2 (by assumption)⟩) (fun hP104 => ?_)
                  · refine sw_aload_n O (xx_dt dd_X14_channel 62 rfl) rfl ?_
                    refine sw_iload_n O (xx_dt dd_X14_channel 63 rfl) rfl ?_
                    refine sw_iload O (xx_dt dd_X14_channel 64 rfl) rfl ?_
                    refine sw_iload O (xx_dt dd_X14_channel 65 rfl) rfl ?_
                    refine sw_aload O (xx_dt dd_X14_channel 66 rfl) rfl ?_
                    refine sw_callVx (as := [.int (nI (cn x)), .int (nI i83), .int (nI (s104.2)), .ref 20000]) (st := []) (st2 := [.int (f_MisFits s104.1 (nI (cn x)) i83 s104.2 C rg 20000 (cn y))]) O (ct_X14_isFits hl (z := z) (σ := s104.1) hbs (R := R) ((((congrFun (hP104.2.2.1 _ (by omega)) 900).trans (congrFun (hP83.2.2.1 _ (by omega)) 900)).trans (congrFun (fr_Mcp ⟨by omega, by omega⟩) 900)).trans hR) (by omega) (C := C) ((((congrFun (hP104.2.2.1 _ (by omega)) 900).trans (congrFun (hP83.2.2.1 _ (by omega)) 900)).trans (congrFun (fr_Mcp ⟨by omega, by omega⟩) 900)).trans hS) (by omega) (rg := rg) (fun j9 hj9 => by rw [show s104.1 5004 = σ 5004 from (((hP104.2.2.1 _ (by omega)).trans (hP83.2.2.1 _ (by omega))).trans (fr_Mcp ⟨by omega, by omega⟩))]; exact hrg j9 hj9) (qa := 20000) (ch := cn y) (by omega) hP104.1 hP104.2.1 (by omega) (x := nI (cn x)) (j := i83) (by omega) (c := s104.2) (by omega)) ce_X14_isFits ml_X14_282 iv_X14_isFits cl_X14 rfl (lm_mod (σ := s104.1)) (xx_dt dd_X14_channel 67 rfl) (by omega) rfl rfl (Nat.le_of_ble_eq_true rfl) rfl ?_
                    have h9 : s104.2 = i104 := hP104.2.2.2.1
                    refine sw_if_ne (tgt := 124) O (xx_dt dd_X14_channel 68 rfl) (by decide) (fun q9 => ?_) (fun q9 => ?_)
                    · exact kb104 (g_MisFits s104.1 (nI (cn x)) i83 s104.2 C rg 20000 (cn y), s104.2) (by simp only [if_neg q9])
                    · refine sw_iinc (y := nI (s104.2 + 1)) (ls2 := [.ref 5000, .int (nI (cn x)), .int (nI (cn y)), .int (nI (cn v)), .ref 20000, .int (nI i83), .int (nI (s104.2 + 1))]) O (xx_dt dd_X14_channel 69 rfl) rfl (nI_1 _) (by decide) rfl ?_
                      refine sw_goto (tgt := 104) O (xx_dt dd_X14_channel 70 rfl) (by decide) ?_
                      exact kk104 (g_MisFits s104.1 (nI (cn x)) i83 s104.2 C rg 20000 (cn y), s104.2 + 1) (by simp only [if_pos q9])
                  · exact absurd hP104.2.2.2.2 (hPJe _ _)
                  · show SW Y _ _ (setM z ((x_Mchannel_104 x y C rg i83 (s83, 0)).1) h) 124 [.ref 5000, .int (nI (cn x)), .int (nI (cn y)), .int (nI (cn v)), .ref 20000, .int (nI i83), .int (nI ((x_Mchannel_104 x y C rg i83 (s83, 0)).2))] []
                    have hP104 : ((x_Mchannel_104 x y C rg i83 (s83, 0)).1) 20000 20 = nI 1 ∧ ((x_Mchannel_104 x y C rg i83 (s83, 0)).1) 20000 21 = nI (cn y) ∧ (∀ q, q ≠ 20000 → (x_Mchannel_104 x y C rg i83 (s83, 0)).1 q = s83 q) ∧ (x_Mchannel_104 x y C rg i83 (s83, 0)).2 < cn y := hP104
                    refine sw_aload O (xx_dt dd_X14_channel 71 rfl) rfl ?_
                    refine sw_iload O (xx_dt dd_X14_channel 72 rfl) rfl ?_
                    refine sw_dup2 O (xx_dt dd_X14_channel 73 rfl) rfl rfl ?_
                    refine sw_iaload (v := .int (((x_Mchannel_104 x y C rg i83 (s83, 0)).1) 20000 ((x_Mchannel_104 x y C rg i83 (s83, 0)).2))) O (xx_dt dd_X14_channel 74 rfl) ((lm_tmp (z := z) (σ := (x_Mchannel_104 x y C rg i83 (s83, 0)).1) (h := h) (q := 20000) (by omega) (fl1 hP104.1) hP104.2.1 (by omega)).get _) (pk_in ((x_Mchannel_104 x y C rg i83 (s83, 0)).2) _ (by omega)) (by rw [nI_clamp (by omega)]; try exact rfl) ?_
                    refine sw_iconst (x := 1) O (xx_dt dd_X14_channel 75 rfl) (by decide) ?_
                    refine sw_iload O (xx_dt dd_X14_channel 76 rfl) rfl ?_
                    refine sw_ishl O (xx_dt dd_X14_channel 77 rfl) ?_
                    refine sw_ior O (xx_dt dd_X14_channel 78 rfl) ?_
                    refine sw_iastore (h2 := setM z (u2 ((x_Mchannel_104 x y C rg i83 (s83, 0)).1) 20000 ((x_Mchannel_104 x y C rg i83 (s83, 0)).2) ((((x_Mchannel_104 x y C rg i83 (s83, 0)).1) 20000 ((x_Mchannel_104 x y C rg i83 (s83, 0)).2)) ||| (1 <<< ((nI i83) &&& 31)))) h) O (xx_dt dd_X14_channel 79 rfl) ((lm_tmp (z := z) (σ := (x_Mchannel_104 x y C rg i83 (s83, 0)).1) (h := h) (q := 20000) (by omega) (fl1 hP104.1) hP104.2.1 (by omega)).get _) (pk_in ((x_Mchannel_104 x y C rg i83 (s83, 0)).2) _ (by omega)) (by omega) (by rw [nI_clamp (by omega)]; exact ((lm_tmp (z := z) (σ := (x_Mchannel_104 x y C rg i83 (s83, 0)).1) (h := h) (q := 20000) (by omega) (fl1 hP104.1) hP104.2.1 (by omega)).put (by omega))) ?_
                    refine sw_iload O (xx_dt dd_X14_channel 80 rfl) rfl ?_
                    refine sw_iload_n O (xx_dt dd_X14_channel 81 rfl) rfl ?_
                    refine sw_icmp_ne (tgt := 145) O (xx_dt dd_X14_channel 82 rfl) (by decide) (fun q10 => ?_) (fun q10 => ?_)
                    · refine sw_iinc (y := nI (i83 + 1)) (ls2 := [.ref 5000, .int (nI (cn x)), .int (nI (cn y)), .int (nI (cn v)), .ref 20000, .int (nI (i83 + 1)), .int (nI ((x_Mchannel_104 x y C rg i83 (s83, 0)).2))]) O (xx_dt dd_X14_channel 85 rfl) rfl (nI_1 _) (by decide) rfl ?_
                      refine sw_goto (tgt := 83) O (xx_dt dd_X14_channel 86 rfl) (by decide) ?_
                      refine sw_dum (ls2 := [.ref 5000, .int (nI (cn x)), .int (nI (cn y)), .int (nI (cn v)), .ref 20000, .int (nI (i83 + 1)), xx_d]) ⟨.inr rfl, .inr rfl, .inr rfl, .inr rfl, .inr rfl, .inr rfl, .inl rfl, trivial⟩ ?_
                      exact kk83 (u2 ((x_Mchannel_104 x y C rg i83 (s83, 0)).1) 20000 ((x_Mchannel_104 x y C rg i83 (s83, 0)).2) ((((x_Mchannel_104 x y C rg i83 (s83, 0)).1) 20000 ((x_Mchannel_104 x y C rg i83 (s83, 0)).2)) ||| (1 <<< ((nI i83) &&& 31)))) (by simp only [if_neg q7, if_neg q10])
                    · refine sw_iload O (xx_dt dd_X14_channel 83 rfl) rfl ?_
                      have kz := kr83 (u2 (u2 ((x_Mchannel_104 x y C rg i83 (s83, 0)).1) 20000 ((x_Mchannel_104 x y C rg i83 (s83, 0)).2) ((((x_Mchannel_104 x y C rg i83 (s83, 0)).1) 20000 ((x_Mchannel_104 x y C rg i83 (s83, 0)).2)) ||| (1 <<< ((nI i83) &&& 31)))) 20000 20 0, nI ((x_Mchannel_104 x y C rg i83 (s83, 0)).2)) (by simp only [if_neg q7, if_pos q10])
                      have me9 : mem_eq σ (u2 (u2 ((x_Mchannel_104 x y C rg i83 (s83, 0)).1) 20000 ((x_Mchannel_104 x y C rg i83 (s83, 0)).2) ((((x_Mchannel_104 x y C rg i83 (s83, 0)).1) 20000 ((x_Mchannel_104 x y C rg i83 (s83, 0)).2)) ||| (1 <<< ((nI i83) &&& 31)))) 20000 20 0) := (mem_eq.frame (τ0 := u2 σ 5000 0 0) (mem_eq.int (r := 5000) (i := 0) (x := 0) hme rfl) (fun q h1 h2 h3 => by simp (disch := omega) only [u2_ne, uR_ne, fr_Cinit, fr_Cpay1, fr_Cpay2, fr_Mcp, hP104.2.2.1, hP83.2.2.1]) (by (simp (disch := omega) only [u2_ne, uR_ne, fr_Cinit, fr_Cpay1, fr_Cpay2, fr_Mcp, hP104.2.2.1, hP83.2.2.1]); exact hme.2.1.1.1) (fun q h1 h2 => by by_cases e0 : q = 20000; (subst e0; rfl); ((simp (disch := omega) only [u2_ne, uR_ne, fr_Cinit, fr_Cpay1, fr_Cpay2, fr_Mcp, hP104.2.2.1, hP83.2.2.1]; exact (hme.2.2 q h1 h2).1))))
                      exact sw_iretD (h' := setM z (u2 (u2 ((x_Mchannel_104 x y C rg i83 (s83, 0)).1) 20000 ((x_Mchannel_104 x y C rg i83 (s83, 0)).2) ((((x_Mchannel_104 x y C rg i83 (s83, 0)).1) 20000 ((x_Mchannel_104 x y C rg i83 (s83, 0)).2)) ||| (1 <<< ((nI i83) &&& 31)))) 20000 20 0) h) O (xx_dt dd_X14_channel 84 rfl) rfl rfl (dropT (by omega) hfr) (me9.cls hcl) (by rw [hh]; exact fun r hr => me9.dom hr) (by rw [hQ]; exact ⟨by rw [kz.1], by rw [kz.2]⟩)
                · refine sw_goto (tgt := 145) O (xx_dt dd_X14_channel 59 rfl) (by decide) ?_
                  refine sw_iinc (y := nI (i83 + 1)) (ls2 := [.ref 5000, .int (nI (cn x)), .int (nI (cn y)), .int (nI (cn v)), .ref 20000, .int (nI (i83 + 1)), xx_d]) O (xx_dt dd_X14_channel 85 rfl) rfl (nI_1 _) (by decide) rfl ?_
                  refine sw_goto (tgt := 83) O (xx_dt dd_X14_channel 86 rfl) (by decide) ?_
                  exact kk83 s83 (by simp only [if_pos q7])
            · show SW Y _ _ (setM z sN83 h) 83 [.ref 5000, .int (nI (cn x)), .int (nI (cn y)), .int (nI (cn v)), .ref 20000, .int (nI ((cn v + 1))), xx_d] []
              refine sw_iload O (xx_dt dd_X14_channel 50 rfl) rfl ?_
              refine sw_iload_n O (xx_dt dd_X14_channel 51 rfl) rfl ?_
              refine sw_icmp_gt (tgt := 151) O (xx_dt dd_X14_channel 52 rfl) (by decide) (fun q6 => ?_) (fun q6 => ?_)
              · refine sw_iconst (x := (-1)) O (xx_dt dd_X14_channel 87 rfl) (by decide) ?_
                have me9 : mem_eq σ (u2 sN83 20000 20 0) := (mem_eq.frame (τ0 := u2 σ 5000 0 0) (mem_eq.int (r := 5000) (i := 0) (x := 0) hme rfl) (fun q h1 h2 h3 => by simp (disch := omega) only [u2_ne, uR_ne, fr_Cinit, fr_Cpay1, fr_Cpay2, fr_Mcp, hP83.2.2.1]) (by (simp (disch := omega) only [u2_ne, uR_ne, fr_Cinit, fr_Cpay1, fr_Cpay2, fr_Mcp, hP83.2.2.1]); exact hme.2.1.1.1) (fun q h1 h2 => by by_cases e0 : q = 20000; (subst e0; rfl); ((simp (disch := omega) only [u2_ne, uR_ne, fr_Cinit, fr_Cpay1, fr_Cpay2, fr_Mcp, hP83.2.2.1]; exact (hme.2.2 q h1 h2).1))))
                exact sw_iretD (h' := setM z (u2 sN83 20000 20 0) h) O (xx_dt dd_X14_channel 88 rfl) rfl rfl (dropT (by omega) hfr) (me9.cls hcl) (by rw [hh]; exact fun r hr => me9.dom hr) (by rw [hQ]; exact ⟨by unfold f_Mchannel; simp only [if_pos q1, if_pos q2, if_pos q3, if_neg q4, if_neg q5, x_Mchannel_83, eN83], by unfold g_Mchannel; simp only [if_pos q1, if_pos q2, if_pos q3, if_neg q4, if_neg q5, x_Mchannel_83, eN83]⟩)
              · exact absurd (nI_lt (a := (cn v)) (b := (cn v + 1)) (by omega) (by omega)) q6
            · exact ⟨by unfold f_Mchannel; simp only [if_pos q1, if_pos q2, if_pos q3, if_neg q4, if_neg q5, x_Mchannel_83, eN83], by unfold g_Mchannel; simp only [if_pos q1, if_pos q2, if_pos q3, if_neg q4, if_neg q5, x_Mchannel_83, eN83]⟩
          · refine sw_iconst (x := (-1)) O (xx_dt dd_X14_channel 46 rfl) (by decide) ?_
            have me9 : mem_eq σ (u2 (g_Mcp (uR (u2 σ 5000 0 0) 20000 (rowN (cn y))) (nI (cn x)) 0 C rg 20000 (cn y)) 20000 20 0) := (mem_eq.frame (τ0 := u2 σ 5000 0 0) (mem_eq.int (r := 5000) (i := 0) (x := 0) hme rfl) (fun q h1 h2 h3 => by simp (disch := omega) only [u2_ne, uR_ne, fr_Cinit, fr_Cpay1, fr_Cpay2, fr_Mcp]) (by (simp (disch := omega) only [u2_ne, uR_ne, fr_Cinit, fr_Cpay1, fr_Cpay2, fr_Mcp]); exact hme.2.1.1.1) (fun q h1 h2 => by by_cases e0 : q = 20000; (subst e0; rfl); ((simp (disch := omega) only [u2_ne, uR_ne, fr_Cinit, fr_Cpay1, fr_Cpay2, fr_Mcp]; exact (hme.2.2 q h1 h2).1))))
            exact sw_iretD (h' := setM z (u2 (g_Mcp (uR (u2 σ 5000 0 0) 20000 (rowN (cn y))) (nI (cn x)) 0 C rg 20000 (cn y)) 20000 20 0) h) O (xx_dt dd_X14_channel 47 rfl) rfl rfl (dropT (by omega) hfr) (me9.cls hcl) (by rw [hh]; exact fun r hr => me9.dom hr) (by rw [hQ]; exact ⟨by unfold f_Mchannel; simp only [if_pos q1, if_pos q2, if_pos q3, if_neg q4, if_pos q5], by unfold g_Mchannel; simp only [if_pos q1, if_pos q2, if_pos q3, if_neg q4, if_pos q5]⟩)
      · refine sw_aload_n O (xx_dt dd_X14_channel 27 rfl) rfl ?_
        refine sw_iconst (x := 2) O (xx_dt dd_X14_channel 28 rfl) (by decide) ?_
        refine sw_callVx (as := [.int 2]) (st := []) (st2 := [.int 0]) O (ct_X14_refuse hl (z := z) (σ := u2 σ 5000 0 0) hbs (x := 2)) ce_X14_refuse ml_X14_74 iv_X14_refuse cl_X14 rfl (lm_mod (σ := u2 σ 5000 0 0)) (xx_dt dd_X14_channel 29 rfl) (by omega) rfl rfl (Nat.le_of_ble_eq_true rfl) rfl ?_
        exact sw_iret O (xx_dt dd_X14_channel 30 rfl) rfl rfl (by rw [hQ]; exact ⟨by unfold f_Mchannel; simp only [if_pos q1, if_pos q2, if_neg q3], by unfold g_Mchannel; simp only [if_pos q1, if_pos q2, if_neg q3]⟩)
  · refine sw_aload_n O (xx_dt dd_X14_channel 14 rfl) rfl ?_
    refine sw_iconst (x := 1) O (xx_dt dd_X14_channel 15 rfl) (by decide) ?_
    refine sw_callVx (as := [.int 1]) (st := []) (st2 := [.int 0]) O (ct_X14_refuse hl (z := z) (σ := u2 σ 5000 0 0) hbs (x := 1)) ce_X14_refuse ml_X14_74 iv_X14_refuse cl_X14 rfl (lm_mod (σ := u2 σ 5000 0 0)) (xx_dt dd_X14_channel 16 rfl) (by omega) rfl rfl (Nat.le_of_ble_eq_true rfl) rfl ?_
    exact sw_iret O (xx_dt dd_X14_channel 17 rfl) rfl rfl (by rw [hQ]; exact ⟨by unfold f_Mchannel; simp only [if_neg q1], by unfold g_Mchannel; simp only [if_neg q1]⟩)
end
