/-! ===== the reference: areNamed ===== -/
def x_MareNamed_22 (B : Nat) (sp tn : Nat → Nat) (i2 : Nat) (s0 : XS9) : XS9 := xit (fun i22 s22 => (if (f_MholderNow s22 i2 (nI i22) B tn) = (-1) then s22 else u2 s22 20000 (cn (f_MholderNow s22 i2 (nI i22) B tn)) ((s22 20000 (cn (f_MholderNow s22 i2 (nI i22) B tn))) + 1))) (sp i2) 0 s0
def x_MareNamed_73 (σ : XS9) (B : Nat) (sp tn pk : Nat → Nat) (i2 : Nat) (s0 : Int32) : Int32 ⊕ Int32 := xitR (fun i73 s73 => (if (σ 5005 i73) = (-1) then (if ((x_MareNamed_22 B sp tn i2 (uR σ 20000 (rowN 6))) 20000 i73) = 0 then .inl (s73 + 0) else .inr 0) else (if ((x_MareNamed_22 B sp tn i2 (uR σ 20000 (rowN 6))) 20000 i73) = (f_of (f_Bcode (x_MareNamed_22 B sp tn i2 (uR σ 20000 (rowN 6))) i73 (cn (σ 5005 i73))) i2) then .inl (s73 + (f_of (f_Bcode (x_MareNamed_22 B sp tn i2 (uR σ 20000 (rowN 6))) i73 (cn (σ 5005 i73))) i2)) else .inr 0))) B 0 s0
def x_MareNamed_2 (σ : XS9) (R B : Nat) (sp tn pk : Nat → Nat) (s0 : Unit) : Unit ⊕ Int32 := xitR (fun i2 s2 => (match (x_MareNamed_73 σ B sp tn pk i2 0) with | .inl s73 => (if s73 ≤ (nI (sp i2)) then .inl () else .inr 0) | .inr r73 => .inr r73)) R 0 s0
theorem fx_named {B : Nat} {sp tn : Nat → Nat} {i2 : Nat} {s0 : XS9} {q : Nat} (h : q ≠ 20000) : x_MareNamed_22 B sp tn i2 s0 q = s0 q := xit_keep (fun s : XS9 => s q) (fun i s => by (try dsimp only); (repeat' split) <;> first | rfl | rw [u2_ne h]) _ _ _
def f_MareNamed (σ : XS9) (R B : Nat) (sp tn pk : Nat → Nat) : Int32 := (match (x_MareNamed_2 σ R B sp tn pk ()) with | .inl s2 => 1 | .inr r2 => r2)
theorem ct_X14_areNamed {l : Launch} {h : XH} (hl : l.stackTraces = false) {z : Int64} {σ : XS9} (hbs : xx_bs h) (hfr : ∀ r, 5000 ≤ r → r < 20010 → h r = none) (hme : mem_eq σ σ) {R : Nat} (hR : σ 5001 900 = nI R) (hR5 : R ≤ 5) {B : Nat} (hB : σ 5002 900 = nI B) (hB6 : B ≤ 6) {pk : Nat → Nat} (hpk : ∀ j, j < B → σ (5030 + j) 900 = nI (2 * pk j) ∧ pk j ≤ 6) (hkp : ∀ j, j < B → σ 5005 j = -1 ∨ ∃ n, n < pk j ∧ σ 5005 j = nI n) {tn : Nat → Nat} (htn : ∀ r, r < 5 → σ 5007 r = nI (tn r) ∧ tn r < 6) {sp : Nat → Nat} (hsp : ∀ r, r < R → σ (5010 + r) 0 = nI (sp r) ∧ sp r ≤ 5) (hho : ∀ (s : XS9) i j, (∀ q, q ≠ 20000 → s q = σ q) → i < R → j < sp i → f_MholderNow s i (nI j) B tn = -1 ∨ n_lt (f_MholderNow s i (nI j) B tn) 6)  : XEx l m_X14_areNamed 8 5 30 [.ref 5000] (setM z σ h) (some (.int (f_MareNamed σ R B sp tn pk))) (setM z σ h) := by
  refine XMet.of hl rfl rfl (Nat.le_of_ble_eq_true rfl) (fun Y O hh hQ => ?_)
  refine sw_cls (fun hcl => ?_)
  show SW Y 5 30 (setM z σ h) 0 [.ref 5000, xx_d, xx_d, xx_d, xx_d, xx_d] []
  refine sw_iconst (x := 0) O (xx_dt dd_X14_areNamed 0 rfl) (by decide) ?_
  refine sw_istore_n (ls2 := [.ref 5000, .int 0, xx_d, xx_d, xx_d, xx_d]) O (xx_dt dd_X14_areNamed 1 rfl) (by decide) rfl ?_
  refine xx_wid (k' := 0 + 1 * (R - 0)) (n' := 0 + 6 * (R - 0)) (by omega) (by omega) ?_
  refine sw_forRV (kf := fun i9 => 0 + 1 * (R - i9)) (nf := fun i9 => 0 + 6 * (R - i9)) (S := Unit) (R := Int32) (fun i2 s2 => (match (x_MareNamed_73 σ B sp tn pk i2 0) with | .inl s73 => (if s73 ≤ (nI (sp i2)) then .inl () else .inr 0) | .inr r73 => .inr r73)) (fun _ _ => True) (FR := fun r9 => f_MareNamed σ R B sp tn pk = r9) (hp := fun _ => setM z σ h) (hd := 2) (lc := fun i2 s2 => [.ref 5000, .int (nI i2), xx_d, xx_d, xx_d, xx_d]) (N := R) (fun i2 s2 hi2 hP2 => ⟨fun _ _ => trivial, fun kk2 kr2 => ?_⟩) R 0 () (by omega) (trivial) (fun sN2 eN2 hP2 => ?_) (fun r2 eN2 => ?_)
  · obtain ⟨kA, ekA⟩ : ∃ k, k = 0 + 1 * (R - (i2 + 1)) := ⟨_, rfl⟩
    obtain ⟨nA, enA⟩ : ∃ k, k = 0 + 6 * (R - (i2 + 1)) := ⟨_, rfl⟩
    obtain ⟨kB, ekB⟩ : ∃ k, k = kA + 1 := ⟨_, rfl⟩
    obtain ⟨nB, enB⟩ : ∃ k, k = nA + 6 := ⟨_, rfl⟩
    refine xx_wid (k' := kB) (n' := nB) (by show _ ≤ 0 + 1 * (R - i2); omega) (by show _ ≤ 0 + 6 * (R - i2); omega) ?_
    refine sw_iload_n O (xx_dt dd_X14_areNamed 2 rfl) rfl ?_
    refine sw_aload_n O (xx_dt dd_X14_areNamed 3 rfl) rfl ?_
    refine sw_get (v := .ref 5001) O (xx_dt dd_X14_areNamed 4 rfl) cl_X14 fl_X14_23 (lm_mod (σ := σ)) (by decide) rfl ?_
    refine sw_callVL (ci := 6) (as := []) (st := [.int (nI i2)]) (st2 := [.int (nI R), .int (nI i2)]) O (ct_AL_size hl (lm_5001 (σ := σ) (R := R) hR (by omega))) ce_Jx4a65c_size_8abf5 ml_X14_57 iv_Jx4a65c_size_8abf5 cl_Jx4a65c rfl (lm_5001 (σ := σ) (R := R) hR (by omega)) (xx_dt dd_X14_areNamed 5 rfl) (by decide) rfl rfl (Nat.le_of_ble_eq_true rfl) rfl ?_
    refine sw_icmp_ge (tgt := 176) O (xx_dt dd_X14_areNamed 6 rfl) (by decide) (fun q1 => ?_) (fun q1 => ?_)
    · exact absurd q1 (nI_ge (b := R) hi2 (by omega))
    · refine xx_wid (k' := kA + 1) (n' := nA + 6) (by omega) (by omega) (sw_callSx (k := kA) (n := nA) (k' := 1) (n' := 6) (as := []) (st := []) (st2 := [.ref 20000]) O (ct_codes hl (a := 20000) ((setM_tn (z := z) (σ := σ) (q := 20000) (by omega) (hme.2.2 20000 (by omega) (by omega)).2).trans (hfr 20000 (by omega) (by omega))) (by omega)) ce_X14_codes ml_X14_400 st_X14_codes (xx_dt dd_X14_areNamed 7 rfl) (by decide) rfl rfl (Nat.le_of_ble_eq_true rfl) rfl ?_)
      refine sw_alter (F2 := fun k => .int (rowN 6 k)) (xx_up_eq _ _ _) (fun j9 hj9 => (rowN_lt (by omega)).symm) ?_
      rw [xx_up_up]
      rw [new_tmp (σ := σ) (q := 20000) (n := 6) (by omega) (by omega)]
      refine sw_astore_n (ls2 := [.ref 5000, .int (nI i2), .ref 20000, xx_d, xx_d, xx_d]) O (xx_dt dd_X14_areNamed 8 rfl) (by decide) rfl ?_
      refine sw_iconst (x := 0) O (xx_dt dd_X14_areNamed 9 rfl) (by decide) ?_
      refine sw_istore_n (ls2 := [.ref 5000, .int (nI i2), .ref 20000, .int 0, xx_d, xx_d]) O (xx_dt dd_X14_areNamed 10 rfl) (by decide) rfl ?_
      refine sw_iconst (x := 0) O (xx_dt dd_X14_areNamed 11 rfl) (by decide) ?_
      refine sw_istore (ls2 := [.ref 5000, .int (nI i2), .ref 20000, .int 0, .int 0, xx_d]) O (xx_dt dd_X14_areNamed 12 rfl) (by decide) rfl ?_
      refine sw_for (S := XS9) (fun i22 s22 => (if (f_MholderNow s22 i2 (nI i22) B tn) = (-1) then s22 else u2 s22 20000 (cn (f_MholderNow s22 i2 (nI i22) B tn)) ((s22 20000 (cn (f_MholderNow s22 i2 (nI i22) B tn))) + 1))) (fun _ s22 => s22 20000 20 = nI 1 ∧ s22 20000 21 = nI 6 ∧ (∀ q, q ≠ 20000 → s22 q = (uR σ 20000 (rowN 6)) q)) (hp := fun s22 => setM z s22 h) (hd := 22) (lc := fun i22 s22 => [.ref 5000, .int (nI i2), .ref 20000, .int 0, .int (nI i22), xx_d]) (N := (sp i2)) (fun i22 s22 hi22 hP22 => ⟨(by (try dsimp only); split <;> first | exact hP22 | (have h9 := ((hho _ i2 i22 (fun q9 hq9 => (hP22.2.2 q9 hq9).trans (uR_ne hq9)) (by omega) (by omega)).resolve_left (by assumption)).2; exact ⟨by rw [u2_oi (by omega)]; exact hP22.1, by rw [u2_oi (by omega)]; exact hP22.2.1, fun q9 hq9 => by rw [u2_ne hq9]; exact hP22.2.2 q9 hq9⟩)), fun kk22 => ?_⟩) (sp i2) 0 (uR σ 20000 (rowN 6)) (by omega) (⟨(show (uR σ 20000 (rowN 6)) 20000 20 = nI 1 from tmp20), (show (uR σ 20000 (rowN 6)) 20000 21 = nI 6 from tmp21), (fun _ _ => rfl)⟩) (fun hP22 => ?_)
      · refine sw_iload O (xx_dt dd_X14_areNamed 13 rfl) rfl ?_
        refine sw_aload_n O (xx_dt dd_X14_areNamed 14 rfl) rfl ?_
        refine sw_get (v := .ref 5001) O (xx_dt dd_X14_areNamed 15 rfl) cl_X14 fl_X14_23 (lm_mod (σ := s22)) (by decide) rfl ?_
        refine sw_iload_n O (xx_dt dd_X14_areNamed 16 rfl) rfl ?_
        refine sw_callVL (ci := 6) (as := [.int (nI i2)]) (st := [.int (nI i22)]) (st2 := [.ref (5010 + i2), .int (nI i22)]) O (ct_get hl hbs (lm_5001 (σ := s22) (R := R) ((congrFun (hP22.2.2 _ (by omega)) 900).trans hR) (by omega)) (by omega) (i := i2) (x := 5010 + i2) (by omega) (by omega) rfl) ce_Jx4a65c_get_915e3 ml_X14_61 iv_Jx4a65c_get_915e3 cl_Jx4a65c rfl (lm_5001 (σ := s22) (R := R) ((congrFun (hP22.2.2 _ (by omega)) 900).trans hR) (by omega)) (xx_dt dd_X14_areNamed 17 rfl) (by decide) rfl rfl (Nat.le_of_ble_eq_true rfl) rfl ?_
        refine sw_castO O (xx_dt dd_X14_areNamed 18 rfl) cl_X12 (lm_reg (σ := s22) (R := R) ((congrFun (hP22.2.2 _ (by omega)) 900).trans hR) (by omega) (j := i2) (by omega)) cw_X14_65 ?_
        have hz35 := (hsp i2 (by omega)).2
        refine sw_get (v := .int (nI (sp i2))) O (xx_dt dd_X14_areNamed 19 rfl) cl_X12 fl_X14_81 (lm_reg (σ := s22) (R := R) ((congrFun (hP22.2.2 _ (by omega)) 900).trans hR) (by omega) (j := i2) (by omega)) (by decide) (congrArg Value.int (((congrFun (hP22.2.2 _ (by omega)) 0).trans (congrFun (uR_ne (by omega)) 0)).trans (hsp i2 (by omega)).1)) ?_
        refine sw_icmp_ge (tgt := 70) O (xx_dt dd_X14_areNamed 20 rfl) (by decide) (fun q2 => ?_) (fun q2 => ?_)
        · exact absurd q2 (nI_ge (b := (sp i2)) hi22 (by omega))
        · refine sw_aload_n O (xx_dt dd_X14_areNamed 21 rfl) rfl ?_
          refine sw_iload_n O (xx_dt dd_X14_areNamed 22 rfl) rfl ?_
          refine sw_iload O (xx_dt dd_X14_areNamed 23 rfl) rfl ?_
          refine sw_callVx (as := [.int (nI i2), .int (nI i22)]) (st := []) (st2 := [.int (f_MholderNow s22 i2 (nI i22) B tn)]) O (ct_X14_holderNow hl (z := z) (σ := s22) hbs (R := R) ((congrFun (hP22.2.2 _ (by omega)) 900).trans hR) (by omega) (B := B) ((congrFun (hP22.2.2 _ (by omega)) 900).trans hB) (by omega) (pk := pk) (fun j9 hj9 => by rw [show s22 (5030 + j9) 900 = σ (5030 + j9) 900 from ((congrFun (hP22.2.2 _ (by omega)) 900).trans (congrFun (uR_ne (by omega)) 900))]; exact hpk j9 hj9) (fun _ j9 hj9 => by rw [show s22 5005 = σ 5005 from (hP22.2.2 _ (by omega))]; exact hkp j9 hj9) (tn := tn) (fun j9 hj9 => by rw [show s22 5007 = σ 5007 from (hP22.2.2 _ (by omega))]; exact htn j9 hj9) (r := i2) (y := nI i22) (by omega)) ce_X14_holderNow ml_X14_329 iv_X14_holderNow cl_X14 rfl (lm_mod (σ := s22)) (xx_dt dd_X14_areNamed 24 rfl) (by decide) rfl rfl (Nat.le_of_ble_eq_true rfl) rfl ?_
          refine sw_istore (ls2 := [.ref 5000, .int (nI i2), .ref 20000, .int 0, .int (nI i22), .int (f_MholderNow s22 i2 (nI i22) B tn)]) O (xx_dt dd_X14_areNamed 25 rfl) (by decide) rfl ?_
          refine sw_iload O (xx_dt dd_X14_areNamed 26 rfl) rfl ?_
          refine sw_iconst (x := (-1)) O (xx_dt dd_X14_areNamed 27 rfl) (by decide) ?_
          refine sw_icmp_eq (tgt := 64) O (xx_dt dd_X14_areNamed 28 rfl) (by decide) (fun q3 => ?_) (fun q3 => ?_)
          · refine sw_iinc (y := nI (i22 + 1)) (ls2 := [.ref 5000, .int (nI i2), .ref 20000, .int 0, .int (nI (i22 + 1)), .int (f_MholderNow s22 i2 (nI i22) B tn)]) O (xx_dt dd_X14_areNamed 36 rfl) rfl (nI_1 _) (by decide) rfl ?_
            refine sw_goto (tgt := 22) O (xx_dt dd_X14_areNamed 37 rfl) (by decide) ?_
            refine sw_dum (ls2 := [.ref 5000, .int (nI i2), .ref 20000, .int 0, .int (nI (i22 + 1)), xx_d]) ⟨.inr rfl, .inr rfl, .inr rfl, .inr rfl, .inr rfl, .inl rfl, trivial⟩ ?_
            simp only [if_pos q3] at kk22
            exact kk22
          · have hc53 := ((hho _ i2 i22 (fun q9 hq9 => (hP22.2.2 q9 hq9).trans (uR_ne hq9)) (by omega) (by omega)).resolve_left q3)
            refine sw_lsE (ls2 := [.ref 5000, .int (nI i2), .ref 20000, .int 0, .int (nI i22), .int (nI (cn (f_MholderNow s22 i2 (nI i22) B tn)))]) (by rw [← hc53.1]) ?_
            have hd53 := hc53.2
            refine sw_aload_n O (xx_dt dd_X14_areNamed 29 rfl) rfl ?_
            refine sw_iload O (xx_dt dd_X14_areNamed 30 rfl) rfl ?_
            refine sw_dup2 O (xx_dt dd_X14_areNamed 31 rfl) rfl rfl ?_
            refine sw_iaload (v := .int (s22 20000 (cn (f_MholderNow s22 i2 (nI i22) B tn)))) O (xx_dt dd_X14_areNamed 32 rfl) ((lm_tmp (z := z) (σ := s22) (h := h) (q := 20000) (by omega) (fl1 hP22.1) hP22.2.1 (by omega)).get _) (pk_in (cn (f_MholderNow s22 i2 (nI i22) B tn)) _ (by omega)) (by rw [nI_clamp (by omega)]; try exact rfl) ?_
            refine sw_iconst (x := 1) O (xx_dt dd_X14_areNamed 33 rfl) (by decide) ?_
            refine sw_iadd O (xx_dt dd_X14_areNamed 34 rfl) ?_
            refine sw_iastore (h2 := setM z (u2 s22 20000 (cn (f_MholderNow s22 i2 (nI i22) B tn)) ((s22 20000 (cn (f_MholderNow s22 i2 (nI i22) B tn))) + 1)) h) O (xx_dt dd_X14_areNamed 35 rfl) ((lm_tmp (z := z) (σ := s22) (h := h) (q := 20000) (by omega) (fl1 hP22.1) hP22.2.1 (by omega)).get _) (pk_in (cn (f_MholderNow s22 i2 (nI i22) B tn)) _ (by omega)) (by omega) (by rw [nI_clamp (by omega)]; exact ((lm_tmp (z := z) (σ := s22) (h := h) (q := 20000) (by omega) (fl1 hP22.1) hP22.2.1 (by omega)).put (by omega))) ?_
            refine sw_iinc (y := nI (i22 + 1)) (ls2 := [.ref 5000, .int (nI i2), .ref 20000, .int 0, .int (nI (i22 + 1)), .int (nI (cn (f_MholderNow s22 i2 (nI i22) B tn)))]) O (xx_dt dd_X14_areNamed 36 rfl) rfl (nI_1 _) (by decide) rfl ?_
            refine sw_goto (tgt := 22) O (xx_dt dd_X14_areNamed 37 rfl) (by decide) ?_
            refine sw_dum (ls2 := [.ref 5000, .int (nI i2), .ref 20000, .int 0, .int (nI (i22 + 1)), xx_d]) ⟨.inr rfl, .inr rfl, .inr rfl, .inr rfl, .inr rfl, .inl rfl, trivial⟩ ?_
            simp only [if_neg q3] at kk22
            exact kk22
      · show SW Y _ _ (setM z (x_MareNamed_22 B sp tn i2 (uR σ 20000 (rowN 6))) h) 22 [.ref 5000, .int (nI i2), .ref 20000, .int 0, .int (nI ((sp i2))), xx_d] []
        have hP22 : (x_MareNamed_22 B sp tn i2 (uR σ 20000 (rowN 6))) 20000 20 = nI 1 ∧ (x_MareNamed_22 B sp tn i2 (uR σ 20000 (rowN 6))) 20000 21 = nI 6 ∧ (∀ q, q ≠ 20000 → (x_MareNamed_22 B sp tn i2 (uR σ 20000 (rowN 6))) q = (uR σ 20000 (rowN 6)) q) := hP22
        refine sw_iload O (xx_dt dd_X14_areNamed 13 rfl) rfl ?_
        refine sw_aload_n O (xx_dt dd_X14_areNamed 14 rfl) rfl ?_
        refine sw_get (v := .ref 5001) O (xx_dt dd_X14_areNamed 15 rfl) cl_X14 fl_X14_23 (lm_mod (σ := (x_MareNamed_22 B sp tn i2 (uR σ 20000 (rowN 6))))) (by decide) rfl ?_
        refine sw_iload_n O (xx_dt dd_X14_areNamed 16 rfl) rfl ?_
        refine sw_callVL (ci := 6) (as := [.int (nI i2)]) (st := [.int (nI ((sp i2)))]) (st2 := [.ref (5010 + i2), .int (nI ((sp i2)))]) O (ct_get hl hbs (lm_5001 (σ := (x_MareNamed_22 B sp tn i2 (uR σ 20000 (rowN 6)))) (R := R) ((congrFun (hP22.2.2 _ (by omega)) 900).trans hR) (by omega)) (by omega) (i := i2) (x := 5010 + i2) (by omega) (by omega) rfl) ce_Jx4a65c_get_915e3 ml_X14_61 iv_Jx4a65c_get_915e3 cl_Jx4a65c rfl (lm_5001 (σ := (x_MareNamed_22 B sp tn i2 (uR σ 20000 (rowN 6)))) (R := R) ((congrFun (hP22.2.2 _ (by omega)) 900).trans hR) (by omega)) (xx_dt dd_X14_areNamed 17 rfl) (by decide) rfl rfl (Nat.le_of_ble_eq_true rfl) rfl ?_
        refine sw_castO O (xx_dt dd_X14_areNamed 18 rfl) cl_X12 (lm_reg (σ := (x_MareNamed_22 B sp tn i2 (uR σ 20000 (rowN 6)))) (R := R) ((congrFun (hP22.2.2 _ (by omega)) 900).trans hR) (by omega) (j := i2) (by omega)) cw_X14_65 ?_
        have hz35 := (hsp i2 (by omega)).2
        refine sw_get (v := .int (nI (sp i2))) O (xx_dt dd_X14_areNamed 19 rfl) cl_X12 fl_X14_81 (lm_reg (σ := (x_MareNamed_22 B sp tn i2 (uR σ 20000 (rowN 6)))) (R := R) ((congrFun (hP22.2.2 _ (by omega)) 900).trans hR) (by omega) (j := i2) (by omega)) (by decide) (congrArg Value.int (((congrFun (hP22.2.2 _ (by omega)) 0).trans (congrFun (uR_ne (by omega)) 0)).trans (hsp i2 (by omega)).1)) ?_
        refine sw_icmp_ge (tgt := 70) O (xx_dt dd_X14_areNamed 20 rfl) (by decide) (fun q2 => ?_) (fun q2 => ?_)
        · refine sw_iconst (x := 0) O (xx_dt dd_X14_areNamed 38 rfl) (by decide) ?_
          refine sw_istore (ls2 := [.ref 5000, .int (nI i2), .ref 20000, .int 0, .int 0, xx_d]) O (xx_dt dd_X14_areNamed 39 rfl) (by decide) rfl ?_
          refine sw_forR (S := Int32) (R := Int32) (fun i73 s73 => (if (σ 5005 i73) = (-1) then (if ((x_MareNamed_22 B sp tn i2 (uR σ 20000 (rowN 6))) 20000 i73) = 0 then .inl (s73 + 0) else .inr 0) else (if ((x_MareNamed_22 B sp tn i2 (uR σ 20000 (rowN 6))) 20000 i73) = (f_of (f_Bcode (x_MareNamed_22 B sp tn i2 (uR σ 20000 (rowN 6))) i73 (cn (σ 5005 i73))) i2) then .inl (s73 + (f_of (f_Bcode (x_MareNamed_22 B sp tn i2 (uR σ 20000 (rowN 6))) i73 (cn (σ 5005 i73))) i2)) else .inr 0))) (fun _ _ => True) (FR := fun r9 => f_MareNamed σ R B sp tn pk = r9) (hp := fun _ => setM z (x_MareNamed_22 B sp tn i2 (uR σ 20000 (rowN 6))) h) (hd := 73) (lc := fun i73 s73 => [.ref 5000, .int (nI i2), .ref 20000, .int s73, .int (nI i73), xx_d]) (N := B) (fun i73 s73 hi73 hP73 => ⟨fun _ _ => trivial, fun kk73 kr73 => ?_⟩) B 0 0 (by omega) (trivial) (fun sN73 eN73 hP73 => ?_) (fun r73 eN73 => ?_)
          · refine sw_iload O (xx_dt dd_X14_areNamed 40 rfl) rfl ?_
            refine sw_aload_n O (xx_dt dd_X14_areNamed 41 rfl) rfl ?_
            refine sw_get (v := .ref 5002) O (xx_dt dd_X14_areNamed 42 rfl) cl_X14 fl_X14_27 (lm_mod (σ := (x_MareNamed_22 B sp tn i2 (uR σ 20000 (rowN 6))))) (by decide) rfl ?_
            refine sw_callVL (ci := 6) (as := []) (st := [.int (nI i73)]) (st2 := [.int (nI B), .int (nI i73)]) O (ct_AL_size hl (lm_5002 (σ := (x_MareNamed_22 B sp tn i2 (uR σ 20000 (rowN 6)))) (B := B) ((congrFun (hP22.2.2 _ (by omega)) 900).trans hB) (by omega))) ce_Jx4a65c_size_8abf5 ml_X14_57 iv_Jx4a65c_size_8abf5 cl_Jx4a65c rfl (lm_5002 (σ := (x_MareNamed_22 B sp tn i2 (uR σ 20000 (rowN 6)))) (B := B) ((congrFun (hP22.2.2 _ (by omega)) 900).trans hB) (by omega)) (xx_dt dd_X14_areNamed 43 rfl) (by decide) rfl rfl (Nat.le_of_ble_eq_true rfl) rfl ?_
            refine sw_icmp_ge (tgt := 150) O (xx_dt dd_X14_areNamed 44 rfl) (by decide) (fun q4 => ?_) (fun q4 => ?_)
            · exact absurd q4 (nI_ge (b := B) hi73 (by omega))
            · refine sw_aload_n O (xx_dt dd_X14_areNamed 45 rfl) rfl ?_
              refine sw_get (v := .ref 5005) O (xx_dt dd_X14_areNamed 46 rfl) cl_X14 fl_X14_36 (lm_mod (σ := (x_MareNamed_22 B sp tn i2 (uR σ 20000 (rowN 6))))) (by decide) rfl ?_
              refine sw_iload O (xx_dt dd_X14_areNamed 47 rfl) rfl ?_
              refine sw_iaload (v := .int (σ 5005 i73)) O (xx_dt dd_X14_areNamed 48 rfl) ((im_5005 (z := z) (σ := (x_MareNamed_22 B sp tn i2 (uR σ 20000 (rowN 6))))).get _) (pk_in i73 _ (by omega)) (by rw [nI_clamp (by omega)]; exact (congrArg Value.int (congrFun (hP22.2.2 _ (by omega)) i73))) ?_
              refine sw_iconst (x := (-1)) O (xx_dt dd_X14_areNamed 49 rfl) (by decide) ?_
              refine sw_icmp_ne (tgt := 100) O (xx_dt dd_X14_areNamed 50 rfl) (by decide) (fun q5 => ?_) (fun q5 => ?_)
              · have hc93 := (kept_nat (hkp _ (by omega)) q5 (by have := (hpk i73 (by omega)).2; omega))
                have hd93 := hc93.2
                refine sw_aload_n O (xx_dt dd_X14_areNamed 53 rfl) rfl ?_
                refine sw_get (v := .ref 5002) O (xx_dt dd_X14_areNamed 54 rfl) cl_X14 fl_X14_27 (lm_mod (σ := (x_MareNamed_22 B sp tn i2 (uR σ 20000 (rowN 6))))) (by decide) rfl ?_
                refine sw_iload O (xx_dt dd_X14_areNamed 55 rfl) rfl ?_
                refine sw_callVL (ci := 6) (as := [.int (nI i73)]) (st := []) (st2 := [.ref (5020 + i73)]) O (ct_get hl hbs (lm_5002 (σ := (x_MareNamed_22 B sp tn i2 (uR σ 20000 (rowN 6)))) (B := B) ((congrFun (hP22.2.2 _ (by omega)) 900).trans hB) (by omega)) (by omega) (i := i73) (x := 5020 + i73) (by omega) (by omega) rfl) ce_Jx4a65c_get_915e3 ml_X14_61 iv_Jx4a65c_get_915e3 cl_Jx4a65c rfl (lm_5002 (σ := (x_MareNamed_22 B sp tn i2 (uR σ 20000 (rowN 6)))) (B := B) ((congrFun (hP22.2.2 _ (by omega)) 900).trans hB) (by omega)) (xx_dt dd_X14_areNamed 56 rfl) (by decide) rfl rfl (Nat.le_of_ble_eq_true rfl) rfl ?_
                refine sw_castO O (xx_dt dd_X14_areNamed 57 rfl) cl_X9 (lm_bid (σ := (x_MareNamed_22 B sp tn i2 (uR σ 20000 (rowN 6)))) (B := B) ((congrFun (hP22.2.2 _ (by omega)) 900).trans hB) (by omega) (j := i73) (by omega)) cw_X14_118 ?_
                refine sw_aload_n O (xx_dt dd_X14_areNamed 58 rfl) rfl ?_
                refine sw_get (v := .ref 5005) O (xx_dt dd_X14_areNamed 59 rfl) cl_X14 fl_X14_36 (lm_mod (σ := (x_MareNamed_22 B sp tn i2 (uR σ 20000 (rowN 6))))) (by decide) rfl ?_
                refine sw_iload O (xx_dt dd_X14_areNamed 60 rfl) rfl ?_
                refine sw_iaload (v := .int (nI (cn (σ 5005 i73)))) O (xx_dt dd_X14_areNamed 61 rfl) ((im_5005 (z := z) (σ := (x_MareNamed_22 B sp tn i2 (uR σ 20000 (rowN 6))))).get _) (pk_in i73 _ (by omega)) (by rw [nI_clamp (by omega)]; exact (congrArg Value.int ((congrFun (hP22.2.2 _ (by omega)) i73).trans hc93.1))) ?_
                refine sw_callVx (as := [.int (nI (cn (σ 5005 i73)))]) (st := []) (st2 := [.int (f_Bcode (x_MareNamed_22 B sp tn i2 (uR σ 20000 (rowN 6))) i73 (cn (σ 5005 i73)))]) O (ct_X9_code hl (z := z) (σ := (x_MareNamed_22 B sp tn i2 (uR σ 20000 (rowN 6)))) hbs (B := B) ((congrFun (hP22.2.2 _ (by omega)) 900).trans hB) (by omega) (j := i73) (by omega) (p := pk i73) (((congrFun (hP22.2.2 _ (by omega)) 900).trans (congrFun (uR_ne (by omega)) 900)).trans (hpk i73 (by omega)).1) (by have h9 := (hpk i73 (by omega)).2; omega) (k := cn (σ 5005 i73)) (by first | omega | (have h9 := (hpk i73 (by omega)).2; omega))) ce_X9_code ml_X14_240 iv_X9_code cl_X9 rfl (lm_bid (σ := (x_MareNamed_22 B sp tn i2 (uR σ 20000 (rowN 6)))) (B := B) ((congrFun (hP22.2.2 _ (by omega)) 900).trans hB) (by omega) (j := i73) (by omega)) (xx_dt dd_X14_areNamed 62 rfl) (by decide) rfl rfl (Nat.le_of_ble_eq_true rfl) rfl ?_
                refine sw_iload_n O (xx_dt dd_X14_areNamed 63 rfl) rfl ?_
                refine sw_callSx (as := [.int (f_Bcode (x_MareNamed_22 B sp tn i2 (uR σ 20000 (rowN 6))) i73 (cn (σ 5005 i73))), .int (nI i2)]) (st := []) (st2 := [.int (f_of (f_Bcode (x_MareNamed_22 B sp tn i2 (uR σ 20000 (rowN 6))) i73 (cn (σ 5005 i73))) i2)]) O (ct_X14_of hl (c := f_Bcode (x_MareNamed_22 B sp tn i2 (uR σ 20000 (rowN 6))) i73 (cn (σ 5005 i73))) (r := i2) (by omega)) ce_X14_of ml_X14_53 st_X14_of (xx_dt dd_X14_areNamed 64 rfl) (by decide) rfl rfl (Nat.le_of_ble_eq_true rfl) rfl ?_
                refine sw_istore (ls2 := [.ref 5000, .int (nI i2), .ref 20000, .int s73, .int (nI i73), .int (f_of (f_Bcode (x_MareNamed_22 B sp tn i2 (uR σ 20000 (rowN 6))) i73 (cn (σ 5005 i73))) i2)]) O (xx_dt dd_X14_areNamed 65 rfl) (by decide) rfl ?_
                refine sw_iload_n O (xx_dt dd_X14_areNamed 66 rfl) rfl ?_
                refine sw_iload O (xx_dt dd_X14_areNamed 67 rfl) rfl ?_
                refine sw_iadd O (xx_dt dd_X14_areNamed 68 rfl) ?_
                refine sw_istore_n (ls2 := [.ref 5000, .int (nI i2), .ref 20000, .int (s73 + (f_of (f_Bcode (x_MareNamed_22 B sp tn i2 (uR σ 20000 (rowN 6))) i73 (cn (σ 5005 i73))) i2)), .int (nI i73), .int (f_of (f_Bcode (x_MareNamed_22 B sp tn i2 (uR σ 20000 (rowN 6))) i73 (cn (σ 5005 i73))) i2)]) O (xx_dt dd_X14_areNamed 69 rfl) (by decide) rfl ?_
                refine sw_aload_n O (xx_dt dd_X14_areNamed 70 rfl) rfl ?_
                refine sw_iload O (xx_dt dd_X14_areNamed 71 rfl) rfl ?_
                refine sw_iaload (v := .int ((x_MareNamed_22 B sp tn i2 (uR σ 20000 (rowN 6))) 20000 i73)) O (xx_dt dd_X14_areNamed 72 rfl) ((lm_tmp (z := z) (σ := (x_MareNamed_22 B sp tn i2 (uR σ 20000 (rowN 6)))) (h := h) (q := 20000) (by omega) (fl1 hP22.1) hP22.2.1 (by omega)).get _) (pk_in i73 _ (by omega)) (by rw [nI_clamp (by omega)]; try exact rfl) ?_
                refine sw_iload O (xx_dt dd_X14_areNamed 73 rfl) rfl ?_
                refine sw_icmp_eq (tgt := 144) O (xx_dt dd_X14_areNamed 74 rfl) (by decide) (fun q6 => ?_) (fun q6 => ?_)
                · refine sw_iinc (y := nI (i73 + 1)) (ls2 := [.ref 5000, .int (nI i2), .ref 20000, .int (s73 + (f_of (f_Bcode (x_MareNamed_22 B sp tn i2 (uR σ 20000 (rowN 6))) i73 (cn (σ 5005 i73))) i2)), .int (nI (i73 + 1)), .int (f_of (f_Bcode (x_MareNamed_22 B sp tn i2 (uR σ 20000 (rowN 6))) i73 (cn (σ 5005 i73))) i2)]) O (xx_dt dd_X14_areNamed 77 rfl) rfl (nI_1 _) (by decide) rfl ?_
                  refine sw_goto (tgt := 73) O (xx_dt dd_X14_areNamed 78 rfl) (by decide) ?_
                  refine sw_dum (ls2 := [.ref 5000, .int (nI i2), .ref 20000, .int (s73 + (f_of (f_Bcode (x_MareNamed_22 B sp tn i2 (uR σ 20000 (rowN 6))) i73 (cn (σ 5005 i73))) i2)), .int (nI (i73 + 1)), xx_d]) ⟨.inr rfl, .inr rfl, .inr rfl, .inr rfl, .inr rfl, .inl rfl, trivial⟩ ?_
                  exact kk73 (s73 + (f_of (f_Bcode (x_MareNamed_22 B sp tn i2 (uR σ 20000 (rowN 6))) i73 (cn (σ 5005 i73))) i2)) (by simp only [if_neg q5, if_pos q6])
                · refine sw_iconst (x := 0) O (xx_dt dd_X14_areNamed 75 rfl) (by decide) ?_
                  exact sw_iretD (h' := setM z σ h) O (xx_dt dd_X14_areNamed 76 rfl) rfl rfl (subT (σ := σ) (τ := (x_MareNamed_22 B sp tn i2 (uR σ 20000 (rowN 6)))) (q := 20000) (by omega) (hme.2.2 20000 (by omega) (by omega)).2 (fun q9 hq9 => by rw [fx_named hq9, uR_ne hq9]) hfr) hcl (by rw [hh]; exact fun r hr => hr) (by rw [hQ]; exact ⟨by rw [kr73 0 (by simp only [if_neg q5, if_neg q6])], rfl⟩)
              · refine sw_iconst (x := 0) O (xx_dt dd_X14_areNamed 51 rfl) (by decide) ?_
                refine sw_goto (tgt := 126) O (xx_dt dd_X14_areNamed 52 rfl) (by decide) ?_
                refine sw_istore (ls2 := [.ref 5000, .int (nI i2), .ref 20000, .int s73, .int (nI i73), .int 0]) O (xx_dt dd_X14_areNamed 65 rfl) (by decide) rfl ?_
                refine sw_iload_n O (xx_dt dd_X14_areNamed 66 rfl) rfl ?_
                refine sw_iload O (xx_dt dd_X14_areNamed 67 rfl) rfl ?_
                refine sw_iadd O (xx_dt dd_X14_areNamed 68 rfl) ?_
                refine sw_istore_n (ls2 := [.ref 5000, .int (nI i2), .ref 20000, .int (s73 + 0), .int (nI i73), .int 0]) O (xx_dt dd_X14_areNamed 69 rfl) (by decide) rfl ?_
                refine sw_aload_n O (xx_dt dd_X14_areNamed 70 rfl) rfl ?_
                refine sw_iload O (xx_dt dd_X14_areNamed 71 rfl) rfl ?_
                refine sw_iaload (v := .int ((x_MareNamed_22 B sp tn i2 (uR σ 20000 (rowN 6))) 20000 i73)) O (xx_dt dd_X14_areNamed 72 rfl) ((lm_tmp (z := z) (σ := (x_MareNamed_22 B sp tn i2 (uR σ 20000 (rowN 6)))) (h := h) (q := 20000) (by omega) (fl1 hP22.1) hP22.2.1 (by omega)).get _) (pk_in i73 _ (by omega)) (by rw [nI_clamp (by omega)]; try exact rfl) ?_
                refine sw_iload O (xx_dt dd_X14_areNamed 73 rfl) rfl ?_
                refine sw_icmp_eq (tgt := 144) O (xx_dt dd_X14_areNamed 74 rfl) (by decide) (fun q7 => ?_) (fun q7 => ?_)
                · refine sw_iinc (y := nI (i73 + 1)) (ls2 := [.ref 5000, .int (nI i2), .ref 20000, .int (s73 + 0), .int (nI (i73 + 1)), .int 0]) O (xx_dt dd_X14_areNamed 77 rfl) rfl (nI_1 _) (by decide) rfl ?_
                  refine sw_goto (tgt := 73) O (xx_dt dd_X14_areNamed 78 rfl) (by decide) ?_
                  refine sw_dum (ls2 := [.ref 5000, .int (nI i2), .ref 20000, .int (s73 + 0), .int (nI (i73 + 1)), xx_d]) ⟨.inr rfl, .inr rfl, .inr rfl, .inr rfl, .inr rfl, .inl rfl, trivial⟩ ?_
                  exact kk73 (s73 + 0) (by simp only [if_pos q5, if_pos q7])
                · refine sw_iconst (x := 0) O (xx_dt dd_X14_areNamed 75 rfl) (by decide) ?_
                  exact sw_iretD (h' := setM z σ h) O (xx_dt dd_X14_areNamed 76 rfl) rfl rfl (subT (σ := σ) (τ := (x_MareNamed_22 B sp tn i2 (uR σ 20000 (rowN 6)))) (q := 20000) (by omega) (hme.2.2 20000 (by omega) (by omega)).2 (fun q9 hq9 => by rw [fx_named hq9, uR_ne hq9]) hfr) hcl (by rw [hh]; exact fun r hr => hr) (by rw [hQ]; exact ⟨by rw [kr73 0 (by simp only [if_pos q5, if_neg q7])], rfl⟩)
          · show SW Y _ _ (setM z (x_MareNamed_22 B sp tn i2 (uR σ 20000 (rowN 6))) h) 73 [.ref 5000, .int (nI i2), .ref 20000, .int sN73, .int (nI B), xx_d] []
            refine sw_iload O (xx_dt dd_X14_areNamed 40 rfl) rfl ?_
            refine sw_aload_n O (xx_dt dd_X14_areNamed 41 rfl) rfl ?_
            refine sw_get (v := .ref 5002) O (xx_dt dd_X14_areNamed 42 rfl) cl_X14 fl_X14_27 (lm_mod (σ := (x_MareNamed_22 B sp tn i2 (uR σ 20000 (rowN 6))))) (by decide) rfl ?_
            refine sw_callVL (ci := 6) (as := []) (st := [.int (nI B)]) (st2 := [.int (nI B), .int (nI B)]) O (ct_AL_size hl (lm_5002 (σ := (x_MareNamed_22 B sp tn i2 (uR σ 20000 (rowN 6)))) (B := B) ((congrFun (hP22.2.2 _ (by omega)) 900).trans hB) (by omega))) ce_Jx4a65c_size_8abf5 ml_X14_57 iv_Jx4a65c_size_8abf5 cl_Jx4a65c rfl (lm_5002 (σ := (x_MareNamed_22 B sp tn i2 (uR σ 20000 (rowN 6)))) (B := B) ((congrFun (hP22.2.2 _ (by omega)) 900).trans hB) (by omega)) (xx_dt dd_X14_areNamed 43 rfl) (by decide) rfl rfl (Nat.le_of_ble_eq_true rfl) rfl ?_
            refine sw_icmp_ge (tgt := 150) O (xx_dt dd_X14_areNamed 44 rfl) (by decide) (fun q4 => ?_) (fun q4 => ?_)
            · refine sw_iload_n O (xx_dt dd_X14_areNamed 79 rfl) rfl ?_
              refine sw_aload_n O (xx_dt dd_X14_areNamed 80 rfl) rfl ?_
              refine sw_get (v := .ref 5001) O (xx_dt dd_X14_areNamed 81 rfl) cl_X14 fl_X14_23 (lm_mod (σ := (x_MareNamed_22 B sp tn i2 (uR σ 20000 (rowN 6))))) (by decide) rfl ?_
              refine sw_iload_n O (xx_dt dd_X14_areNamed 82 rfl) rfl ?_
              refine sw_callVL (ci := 6) (as := [.int (nI i2)]) (st := [.int sN73]) (st2 := [.ref (5010 + i2), .int sN73]) O (ct_get hl hbs (lm_5001 (σ := (x_MareNamed_22 B sp tn i2 (uR σ 20000 (rowN 6)))) (R := R) ((congrFun (hP22.2.2 _ (by omega)) 900).trans hR) (by omega)) (by omega) (i := i2) (x := 5010 + i2) (by omega) (by omega) rfl) ce_Jx4a65c_get_915e3 ml_X14_61 iv_Jx4a65c_get_915e3 cl_Jx4a65c rfl (lm_5001 (σ := (x_MareNamed_22 B sp tn i2 (uR σ 20000 (rowN 6)))) (R := R) ((congrFun (hP22.2.2 _ (by omega)) 900).trans hR) (by omega)) (xx_dt dd_X14_areNamed 83 rfl) (by decide) rfl rfl (Nat.le_of_ble_eq_true rfl) rfl ?_
              refine sw_castO O (xx_dt dd_X14_areNamed 84 rfl) cl_X12 (lm_reg (σ := (x_MareNamed_22 B sp tn i2 (uR σ 20000 (rowN 6)))) (R := R) ((congrFun (hP22.2.2 _ (by omega)) 900).trans hR) (by omega) (j := i2) (by omega)) cw_X14_65 ?_
              have hz162 := (hsp i2 (by omega)).2
              refine sw_get (v := .int (nI (sp i2))) O (xx_dt dd_X14_areNamed 85 rfl) cl_X12 fl_X14_81 (lm_reg (σ := (x_MareNamed_22 B sp tn i2 (uR σ 20000 (rowN 6)))) (R := R) ((congrFun (hP22.2.2 _ (by omega)) 900).trans hR) (by omega) (j := i2) (by omega)) (by decide) (congrArg Value.int (((congrFun (hP22.2.2 _ (by omega)) 0).trans (congrFun (uR_ne (by omega)) 0)).trans (hsp i2 (by omega)).1)) ?_
              refine sw_icmp_le (tgt := 170) O (xx_dt dd_X14_areNamed 86 rfl) (by decide) (fun q8 => ?_) (fun q8 => ?_)
              · refine sw_iinc (y := nI (i2 + 1)) (ls2 := [.ref 5000, .int (nI (i2 + 1)), .ref 20000, .int sN73, .int (nI B), xx_d]) O (xx_dt dd_X14_areNamed 89 rfl) rfl (nI_1 _) (by decide) rfl ?_
                refine sw_goto (tgt := 2) O (xx_dt dd_X14_areNamed 90 rfl) (by decide) ?_
                refine sw_dum (ls2 := [.ref 5000, .int (nI (i2 + 1)), xx_d, xx_d, xx_d, xx_d]) ⟨.inr rfl, .inr rfl, .inl rfl, .inl rfl, .inl rfl, .inr rfl, trivial⟩ ?_
                refine sw_drop (h2 := setM z σ h) (subT (σ := σ) (τ := (x_MareNamed_22 B sp tn i2 (uR σ 20000 (rowN 6)))) (q := 20000) (by omega) (hme.2.2 20000 (by omega) (by omega)).2 (fun q9 hq9 => by rw [fx_named hq9, uR_ne hq9]) hfr) hcl (by rw [hh]; exact fun r hr => hr) (by intro v9 hv9; simp only [List.mem_cons, List.not_mem_nil, or_false] at hv9; rcases hv9 with rfl | rfl | rfl | rfl | rfl | rfl <;> first | exact in_mod | trivial) (by intro v9 hv9; cases hv9) ?_
                refine xx_wid (k' := 0 + 1 * (R - (i2 + 1))) (n' := 0 + 6 * (R - (i2 + 1))) (by omega) (by omega) ?_
                exact kk2 () (by simp only [if_pos q8, x_MareNamed_73, eN73])
              · refine sw_iconst (x := 0) O (xx_dt dd_X14_areNamed 87 rfl) (by decide) ?_
                exact sw_iretD (h' := setM z σ h) O (xx_dt dd_X14_areNamed 88 rfl) rfl rfl (subT (σ := σ) (τ := (x_MareNamed_22 B sp tn i2 (uR σ 20000 (rowN 6)))) (q := 20000) (by omega) (hme.2.2 20000 (by omega) (by omega)).2 (fun q9 hq9 => by rw [fx_named hq9, uR_ne hq9]) hfr) hcl (by rw [hh]; exact fun r hr => hr) (by rw [hQ]; exact ⟨by rw [kr2 0 (by simp only [if_neg q8, x_MareNamed_73, eN73])], rfl⟩)
            · exact absurd (Int32.le_refl _) q4
          · exact kr2 r73 (by simp only [x_MareNamed_73, eN73])
        · exact absurd (Int32.le_refl _) q2
  · show SW Y _ _ (setM z σ h) 2 [.ref 5000, .int (nI R), xx_d, xx_d, xx_d, xx_d] []
    refine xx_wid (k' := 0) (n' := 0) (by show _ ≤ 0 + 1 * (R - R); omega) (by show _ ≤ 0 + 6 * (R - R); omega) ?_
    refine sw_iload_n O (xx_dt dd_X14_areNamed 2 rfl) rfl ?_
    refine sw_aload_n O (xx_dt dd_X14_areNamed 3 rfl) rfl ?_
    refine sw_get (v := .ref 5001) O (xx_dt dd_X14_areNamed 4 rfl) cl_X14 fl_X14_23 (lm_mod (σ := σ)) (by decide) rfl ?_
    refine sw_callVL (ci := 6) (as := []) (st := [.int (nI R)]) (st2 := [.int (nI R), .int (nI R)]) O (ct_AL_size hl (lm_5001 (σ := σ) (R := R) hR (by omega))) ce_Jx4a65c_size_8abf5 ml_X14_57 iv_Jx4a65c_size_8abf5 cl_Jx4a65c rfl (lm_5001 (σ := σ) (R := R) hR (by omega)) (xx_dt dd_X14_areNamed 5 rfl) (by decide) rfl rfl (Nat.le_of_ble_eq_true rfl) rfl ?_
    refine sw_icmp_ge (tgt := 176) O (xx_dt dd_X14_areNamed 6 rfl) (by decide) (fun q1 => ?_) (fun q1 => ?_)
    · refine sw_iconst (x := 1) O (xx_dt dd_X14_areNamed 91 rfl) (by decide) ?_
      exact sw_iret O (xx_dt dd_X14_areNamed 92 rfl) rfl rfl (by rw [hQ]; exact ⟨by unfold f_MareNamed; simp only [x_MareNamed_2, eN2], rfl⟩)
    · exact absurd (Int32.le_refl _) q1
  · unfold f_MareNamed; simp only [x_MareNamed_2, eN2]
