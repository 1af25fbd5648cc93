/-! ===== Stations: who disturbs whom ===== -/
def x_findDisturbed_19 (σ : XS9) (C : Nat) (rg : Nat → Nat) (i2 : Nat) (s0 : XS9) : XS9 := xit (fun i19 s19 => (if (nI (rg i2)) = (nI (rg i19)) then (if (nI i2) = (nI i19) then s19 else u2 s19 1152 i2 ((s19 1152 i2) ||| (1 <<< ((nI i19) &&& 31)))) else (if (f_areNeighbours s19 (rg i2) (rg i19)) = 0 then s19 else (if (nI i2) = (nI i19) then s19 else u2 s19 1152 i2 ((s19 1152 i2) ||| (1 <<< ((nI i19) &&& 31))))))) C 0 s0
def x_findDisturbed_2 (σ : XS9) (C : Nat) (rg : Nat → Nat) (s0 : XS9) : XS9 := xit (fun i2 s2 => (x_findDisturbed_19 σ C rg i2 (u2 s2 1152 i2 0))) C 0 s0
theorem fx_findDisturbed_19 {σ : XS9} {C : Nat} {rg : Nat → Nat} {i2 : Nat} {s0 : XS9} {q : Nat} (h : q ≠ 1152) : x_findDisturbed_19 σ C rg i2 s0 q = s0 q := xit_keep (fun s : XS9 => s q) (fun i s => by (try dsimp only); (repeat' split) <;> first | rfl | simp (disch := omega) only [u2_ne, uR_ne, fr_fill, fr_useWaiver, fr_undoContradictions, fr_lowerEligible, fr_moveHeld, fr_raisePrices, fr_begin, fr_closeRound, fr_moveTaken]) _ _ _
def g_findDisturbed (σ : XS9) (C : Nat) (rg : Nat → Nat) : XS9 := (x_findDisturbed_2 σ C rg σ)
theorem ct_X5_findDisturbed {l : Launch} {h : XH} (hl : l.stackTraces = false) {σ : XS9} {C : Nat} (hC : σ 1006 1 = nI C) (hC10 : C ≤ 10) {rg : Nat → Nat} (hrg : ∀ i, i < C → σ 1151 i = nI (rg i) ∧ rg i < 5)  : XEx l m_X5_findDisturbed 1 0 0 [.ref 1006, .ref 1001] (setC σ h) (none) (setC (g_findDisturbed σ C rg) h) := by
  refine XMet.of hl rfl rfl (Nat.le_of_ble_eq_true rfl) (fun Y O hh hQ => ?_)
  show SW Y 0 0 (setC σ h) 0 [.ref 1006, .ref 1001, xx_d, xx_d, xx_d] []
  refine sw_iconst (x := 0) O (xx_dt dd_X5_findDisturbed 0 rfl) (by decide) ?_
  refine sw_istore_n (ls2 := [.ref 1006, .ref 1001, .int 0, xx_d, xx_d]) O (xx_dt dd_X5_findDisturbed 1 rfl) (by decide) rfl ?_
  refine sw_for (fun i2 s2 => (x_findDisturbed_19 σ C rg i2 (u2 s2 1152 i2 0))) (fun _ s2 => s2 1006 1 = nI C ∧ s2 1151 = σ 1151) (hp := fun s2 => setC s2 h) (hd := 2) (lc := fun i2 s2 => [.ref 1006, .ref 1001, .int (nI i2), xx_d, xx_d]) (N := C) (fun i2 s2 hi2 hP2 => ⟨(by (try dsimp only); (repeat' split) <;> (refine ⟨?_, ?_⟩ <;> (first | exact hP2.1 | exact hP2.2 | exact hi2 | exact .inl rfl | exact .inr rfl | (simp (disch := omega) only [u2_ne, uR_ne, fr_fill, fr_useWaiver, fr_undoContradictions, fr_lowerEligible, fr_moveHeld, fr_raisePrices, fr_begin, fr_closeRound, fr_moveTaken, fx_findDisturbed_19]; first | exact hP2.1 | exact hP2.2)))), fun kk2 => ?_⟩) C 0 σ (by omega) (⟨hC, rfl⟩) (fun hP2 => ?_)
  · refine sw_iload_n O (xx_dt dd_X5_findDisturbed 2 rfl) rfl ?_
    refine sw_aload_n O (xx_dt dd_X5_findDisturbed 3 rfl) rfl ?_
    refine sw_get (v := .int (nI C)) O (xx_dt dd_X5_findDisturbed 4 rfl) cl_X5 fl_X5_24 (ly_1006 s2 h) (by decide) (congrArg Value.int hP2.1) ?_
    refine sw_icmp_ge (tgt := 102) O (xx_dt dd_X5_findDisturbed 5 rfl) (by decide) (fun q1 => ?_) (fun q1 => ?_)
    · exact absurd q1 (nI_ge (b := C) hi2 (by omega))
    · refine sw_aload_n O (xx_dt dd_X5_findDisturbed 6 rfl) rfl ?_
      refine sw_get (v := .ref 1152) O (xx_dt dd_X5_findDisturbed 7 rfl) cl_X5 fl_X5_18 (ly_1006 s2 h) (by decide) rfl ?_
      refine sw_iload_n O (xx_dt dd_X5_findDisturbed 8 rfl) rfl ?_
      refine sw_iconst (x := 0) O (xx_dt dd_X5_findDisturbed 9 rfl) (by decide) ?_
      refine sw_iastore (h2 := setC (u2 s2 1152 i2 0) h) O (xx_dt dd_X5_findDisturbed 10 rfl) (ly_1152 s2 h) (pk_in i2 _ (by omega)) (by decide) (by rw [nI_clamp (by omega)]; exact pa_1152) ?_
      refine sw_iconst (x := 0) O (xx_dt dd_X5_findDisturbed 11 rfl) (by decide) ?_
      refine sw_istore_n (ls2 := [.ref 1006, .ref 1001, .int (nI i2), .int 0, xx_d]) O (xx_dt dd_X5_findDisturbed 12 rfl) (by decide) rfl ?_
      refine sw_for (fun i19 s19 => (if (nI (rg i2)) = (nI (rg i19)) then (if (nI i2) = (nI i19) then s19 else u2 s19 1152 i2 ((s19 1152 i2) ||| (1 <<< ((nI i19) &&& 31)))) else (if (f_areNeighbours s19 (rg i2) (rg i19)) = 0 then s19 else (if (nI i2) = (nI i19) then s19 else u2 s19 1152 i2 ((s19 1152 i2) ||| (1 <<< ((nI i19) &&& 31))))))) (fun _ s19 => s19 1006 1 = nI C ∧ s19 1151 = σ 1151) (hp := fun s19 => setC s19 h) (hd := 19) (lc := fun i19 s19 => [.ref 1006, .ref 1001, .int (nI i2), .int (nI i19), xx_d]) (N := C) (fun i19 s19 hi19 hP19 => ⟨(by (try dsimp only); (repeat' split) <;> (refine ⟨?_, ?_⟩ <;> (first | exact hP19.1 | exact hP19.2 | exact hi19 | exact .inl rfl | exact .inr rfl | (simp (disch := omega) only [u2_ne, uR_ne, fr_fill, fr_useWaiver, fr_undoContradictions, fr_lowerEligible, fr_moveHeld, fr_raisePrices, fr_begin, fr_closeRound, fr_moveTaken, fx_findDisturbed_19]; first | exact hP19.1 | exact hP19.2)))), fun kk19 => ?_⟩) C 0 (u2 s2 1152 i2 0) (by omega) (⟨hP2.1, hP2.2⟩) (fun hP19 => ?_)
      · refine sw_iload_n O (xx_dt dd_X5_findDisturbed 13 rfl) rfl ?_
        refine sw_aload_n O (xx_dt dd_X5_findDisturbed 14 rfl) rfl ?_
        refine sw_get (v := .int (nI C)) O (xx_dt dd_X5_findDisturbed 15 rfl) cl_X5 fl_X5_24 (ly_1006 s19 h) (by decide) (congrArg Value.int hP19.1) ?_
        refine sw_icmp_ge (tgt := 96) O (xx_dt dd_X5_findDisturbed 16 rfl) (by decide) (fun q2 => ?_) (fun q2 => ?_)
        · exact absurd q2 (nI_ge (b := C) hi19 (by omega))
        · refine sw_aload_n O (xx_dt dd_X5_findDisturbed 17 rfl) rfl ?_
          refine sw_get (v := .ref 1151) O (xx_dt dd_X5_findDisturbed 18 rfl) cl_X5 fl_X5_15 (ly_1006 s19 h) (by decide) rfl ?_
          refine sw_iload_n O (xx_dt dd_X5_findDisturbed 19 rfl) rfl ?_
          have hz32 := (hrg i2 (by omega)).2
          refine sw_iaload (v := .int (nI (rg i2))) O (xx_dt dd_X5_findDisturbed 20 rfl) (ly_1151 s19 h) (pk_in i2 _ (by omega)) (by rw [nI_clamp (by omega)]; exact (congrArg Value.int ((congrFun hP19.2 i2).trans (hrg i2 (by omega)).1))) ?_
          refine sw_aload_n O (xx_dt dd_X5_findDisturbed 21 rfl) rfl ?_
          refine sw_get (v := .ref 1151) O (xx_dt dd_X5_findDisturbed 22 rfl) cl_X5 fl_X5_15 (ly_1006 s19 h) (by decide) rfl ?_
          refine sw_iload_n O (xx_dt dd_X5_findDisturbed 23 rfl) rfl ?_
          have hz38 := (hrg i19 (by omega)).2
          refine sw_iaload (v := .int (nI (rg i19))) O (xx_dt dd_X5_findDisturbed 24 rfl) (ly_1151 s19 h) (pk_in i19 _ (by omega)) (by rw [nI_clamp (by omega)]; exact (congrArg Value.int ((congrFun hP19.2 i19).trans (hrg i19 (by omega)).1))) ?_
          refine sw_icmp_eq (tgt := 61) O (xx_dt dd_X5_findDisturbed 25 rfl) (by decide) (fun q3 => ?_) (fun q3 => ?_)
          · refine sw_iconst (x := 1) O (xx_dt dd_X5_findDisturbed 37 rfl) (by decide) ?_
            refine sw_goto (tgt := 66) O (xx_dt dd_X5_findDisturbed 38 rfl) (by decide) ?_
            refine sw_istore (ls2 := [.ref 1006, .ref 1001, .int (nI i2), .int (nI i19), .int 1]) O (xx_dt dd_X5_findDisturbed 40 rfl) (by decide) rfl ?_
            refine sw_iload_n O (xx_dt dd_X5_findDisturbed 41 rfl) rfl ?_
            refine sw_iload_n O (xx_dt dd_X5_findDisturbed 42 rfl) rfl ?_
            refine sw_icmp_eq (tgt := 90) O (xx_dt dd_X5_findDisturbed 43 rfl) (by decide) (fun q4 => ?_) (fun q4 => ?_)
            · refine sw_iinc (y := nI (i19 + 1)) (ls2 := [.ref 1006, .ref 1001, .int (nI i2), .int (nI (i19 + 1)), .int 1]) O (xx_dt dd_X5_findDisturbed 56 rfl) rfl (nI_1 _) (by decide) rfl ?_
              refine sw_goto (tgt := 19) O (xx_dt dd_X5_findDisturbed 57 rfl) (by decide) ?_
              refine sw_dum (ls2 := [.ref 1006, .ref 1001, .int (nI i2), .int (nI (i19 + 1)), xx_d]) ⟨.inr rfl, .inr rfl, .inr rfl, .inr rfl, .inl rfl, trivial⟩ ?_
              simp only [if_pos q3, if_pos q4] at kk19
              exact kk19
            · refine sw_iload O (xx_dt dd_X5_findDisturbed 44 rfl) rfl ?_
              refine sw_if_eq (tgt := 90) O (xx_dt dd_X5_findDisturbed 45 rfl) (by decide) (fun q5 => ?_) (fun q5 => ?_)
              · exact absurd q5 (by decide)
              · refine sw_aload_n O (xx_dt dd_X5_findDisturbed 46 rfl) rfl ?_
                refine sw_get (v := .ref 1152) O (xx_dt dd_X5_findDisturbed 47 rfl) cl_X5 fl_X5_18 (ly_1006 s19 h) (by decide) rfl ?_
                refine sw_iload_n O (xx_dt dd_X5_findDisturbed 48 rfl) rfl ?_
                refine sw_dup2 O (xx_dt dd_X5_findDisturbed 49 rfl) rfl rfl ?_
                refine sw_iaload (v := .int (s19 1152 i2)) O (xx_dt dd_X5_findDisturbed 50 rfl) (ly_1152 s19 h) (pk_in i2 _ (by omega)) (by rw [nI_clamp (by omega)]; try exact rfl) ?_
                refine sw_iconst (x := 1) O (xx_dt dd_X5_findDisturbed 51 rfl) (by decide) ?_
                refine sw_iload_n O (xx_dt dd_X5_findDisturbed 52 rfl) rfl ?_
                refine sw_ishl O (xx_dt dd_X5_findDisturbed 53 rfl) ?_
                refine sw_ior O (xx_dt dd_X5_findDisturbed 54 rfl) ?_
                refine sw_iastore (h2 := setC (u2 s19 1152 i2 ((s19 1152 i2) ||| (1 <<< ((nI i19) &&& 31)))) h) O (xx_dt dd_X5_findDisturbed 55 rfl) (ly_1152 s19 h) (pk_in i2 _ (by omega)) (by decide) (by rw [nI_clamp (by omega)]; exact pa_1152) ?_
                refine sw_iinc (y := nI (i19 + 1)) (ls2 := [.ref 1006, .ref 1001, .int (nI i2), .int (nI (i19 + 1)), .int 1]) O (xx_dt dd_X5_findDisturbed 56 rfl) rfl (nI_1 _) (by decide) rfl ?_
                refine sw_goto (tgt := 19) O (xx_dt dd_X5_findDisturbed 57 rfl) (by decide) ?_
                refine sw_dum (ls2 := [.ref 1006, .ref 1001, .int (nI i2), .int (nI (i19 + 1)), xx_d]) ⟨.inr rfl, .inr rfl, .inr rfl, .inr rfl, .inl rfl, trivial⟩ ?_
                simp only [if_pos q3, if_neg q4] at kk19
                exact kk19
          · refine sw_aload_n O (xx_dt dd_X5_findDisturbed 26 rfl) rfl ?_
            refine sw_aload_n O (xx_dt dd_X5_findDisturbed 27 rfl) rfl ?_
            refine sw_get (v := .ref 1151) O (xx_dt dd_X5_findDisturbed 28 rfl) cl_X5 fl_X5_15 (ly_1006 s19 h) (by decide) rfl ?_
            refine sw_iload_n O (xx_dt dd_X5_findDisturbed 29 rfl) rfl ?_
            have hz48 := (hrg i2 (by omega)).2
            refine sw_iaload (v := .int (nI (rg i2))) O (xx_dt dd_X5_findDisturbed 30 rfl) (ly_1151 s19 h) (pk_in i2 _ (by omega)) (by rw [nI_clamp (by omega)]; exact (congrArg Value.int ((congrFun hP19.2 i2).trans (hrg i2 (by omega)).1))) ?_
            refine sw_aload_n O (xx_dt dd_X5_findDisturbed 31 rfl) rfl ?_
            refine sw_get (v := .ref 1151) O (xx_dt dd_X5_findDisturbed 32 rfl) cl_X5 fl_X5_15 (ly_1006 s19 h) (by decide) rfl ?_
            refine sw_iload_n O (xx_dt dd_X5_findDisturbed 33 rfl) rfl ?_
            have hz54 := (hrg i19 (by omega)).2
            refine sw_iaload (v := .int (nI (rg i19))) O (xx_dt dd_X5_findDisturbed 34 rfl) (ly_1151 s19 h) (pk_in i19 _ (by omega)) (by rw [nI_clamp (by omega)]; exact (congrArg Value.int ((congrFun hP19.2 i19).trans (hrg i19 (by omega)).1))) ?_
            refine sw_callVx (as := [.int (nI (rg i2)), .int (nI (rg i19))]) (st := []) (st2 := [.int (f_areNeighbours s19 (rg i2) (rg i19))]) O (ct_X6_areNeighbours hl (σ := s19) (i := rg i2) (j := rg i19) (by omega)) ce_X6_areNeighbours ml_X5_40 iv_X6_areNeighbours cl_X6 rfl (ly_1001 s19 h) (xx_dt dd_X5_findDisturbed 35 rfl) (by decide) rfl rfl (Nat.le_of_ble_eq_true rfl) rfl ?_
            refine sw_if_eq (tgt := 65) O (xx_dt dd_X5_findDisturbed 36 rfl) (by decide) (fun q6 => ?_) (fun q6 => ?_)
            · refine sw_iconst (x := 0) O (xx_dt dd_X5_findDisturbed 39 rfl) (by decide) ?_
              refine sw_istore (ls2 := [.ref 1006, .ref 1001, .int (nI i2), .int (nI i19), .int 0]) O (xx_dt dd_X5_findDisturbed 40 rfl) (by decide) rfl ?_
              refine sw_iload_n O (xx_dt dd_X5_findDisturbed 41 rfl) rfl ?_
              refine sw_iload_n O (xx_dt dd_X5_findDisturbed 42 rfl) rfl ?_
              refine sw_icmp_eq (tgt := 90) O (xx_dt dd_X5_findDisturbed 43 rfl) (by decide) (fun q7 => ?_) (fun q7 => ?_)
              · refine sw_iinc (y := nI (i19 + 1)) (ls2 := [.ref 1006, .ref 1001, .int (nI i2), .int (nI (i19 + 1)), .int 0]) O (xx_dt dd_X5_findDisturbed 56 rfl) rfl (nI_1 _) (by decide) rfl ?_
                refine sw_goto (tgt := 19) O (xx_dt dd_X5_findDisturbed 57 rfl) (by decide) ?_
                refine sw_dum (ls2 := [.ref 1006, .ref 1001, .int (nI i2), .int (nI (i19 + 1)), xx_d]) ⟨.inr rfl, .inr rfl, .inr rfl, .inr rfl, .inl rfl, trivial⟩ ?_
                simp only [if_neg q3, if_pos q6, if_pos q7] at kk19
                exact kk19
              · refine sw_iload O (xx_dt dd_X5_findDisturbed 44 rfl) rfl ?_
                refine sw_if_eq (tgt := 90) O (xx_dt dd_X5_findDisturbed 45 rfl) (by decide) (fun q8 => ?_) (fun q8 => ?_)
                · refine sw_iinc (y := nI (i19 + 1)) (ls2 := [.ref 1006, .ref 1001, .int (nI i2), .int (nI (i19 + 1)), .int 0]) O (xx_dt dd_X5_findDisturbed 56 rfl) rfl (nI_1 _) (by decide) rfl ?_
                  refine sw_goto (tgt := 19) O (xx_dt dd_X5_findDisturbed 57 rfl) (by decide) ?_
                  refine sw_dum (ls2 := [.ref 1006, .ref 1001, .int (nI i2), .int (nI (i19 + 1)), xx_d]) ⟨.inr rfl, .inr rfl, .inr rfl, .inr rfl, .inl rfl, trivial⟩ ?_
                  simp only [if_neg q3, if_pos q6, if_neg q7] at kk19
                  exact kk19
                · exact absurd q8 (by decide)
            · refine sw_iconst (x := 1) O (xx_dt dd_X5_findDisturbed 37 rfl) (by decide) ?_
              refine sw_goto (tgt := 66) O (xx_dt dd_X5_findDisturbed 38 rfl) (by decide) ?_
              refine sw_istore (ls2 := [.ref 1006, .ref 1001, .int (nI i2), .int (nI i19), .int 1]) O (xx_dt dd_X5_findDisturbed 40 rfl) (by decide) rfl ?_
              refine sw_iload_n O (xx_dt dd_X5_findDisturbed 41 rfl) rfl ?_
              refine sw_iload_n O (xx_dt dd_X5_findDisturbed 42 rfl) rfl ?_
              refine sw_icmp_eq (tgt := 90) O (xx_dt dd_X5_findDisturbed 43 rfl) (by decide) (fun q9 => ?_) (fun q9 => ?_)
              · refine sw_iinc (y := nI (i19 + 1)) (ls2 := [.ref 1006, .ref 1001, .int (nI i2), .int (nI (i19 + 1)), .int 1]) O (xx_dt dd_X5_findDisturbed 56 rfl) rfl (nI_1 _) (by decide) rfl ?_
                refine sw_goto (tgt := 19) O (xx_dt dd_X5_findDisturbed 57 rfl) (by decide) ?_
                refine sw_dum (ls2 := [.ref 1006, .ref 1001, .int (nI i2), .int (nI (i19 + 1)), xx_d]) ⟨.inr rfl, .inr rfl, .inr rfl, .inr rfl, .inl rfl, trivial⟩ ?_
                simp only [if_neg q3, if_neg q6, if_pos q9] at kk19
                exact kk19
              · refine sw_iload O (xx_dt dd_X5_findDisturbed 44 rfl) rfl ?_
                refine sw_if_eq (tgt := 90) O (xx_dt dd_X5_findDisturbed 45 rfl) (by decide) (fun q10 => ?_) (fun q10 => ?_)
                · exact absurd q10 (by decide)
                · refine sw_aload_n O (xx_dt dd_X5_findDisturbed 46 rfl) rfl ?_
                  refine sw_get (v := .ref 1152) O (xx_dt dd_X5_findDisturbed 47 rfl) cl_X5 fl_X5_18 (ly_1006 s19 h) (by decide) rfl ?_
                  refine sw_iload_n O (xx_dt dd_X5_findDisturbed 48 rfl) rfl ?_
                  refine sw_dup2 O (xx_dt dd_X5_findDisturbed 49 rfl) rfl rfl ?_
                  refine sw_iaload (v := .int (s19 1152 i2)) O (xx_dt dd_X5_findDisturbed 50 rfl) (ly_1152 s19 h) (pk_in i2 _ (by omega)) (by rw [nI_clamp (by omega)]; try exact rfl) ?_
                  refine sw_iconst (x := 1) O (xx_dt dd_X5_findDisturbed 51 rfl) (by decide) ?_
                  refine sw_iload_n O (xx_dt dd_X5_findDisturbed 52 rfl) rfl ?_
                  refine sw_ishl O (xx_dt dd_X5_findDisturbed 53 rfl) ?_
                  refine sw_ior O (xx_dt dd_X5_findDisturbed 54 rfl) ?_
                  refine sw_iastore (h2 := setC (u2 s19 1152 i2 ((s19 1152 i2) ||| (1 <<< ((nI i19) &&& 31)))) h) O (xx_dt dd_X5_findDisturbed 55 rfl) (ly_1152 s19 h) (pk_in i2 _ (by omega)) (by decide) (by rw [nI_clamp (by omega)]; exact pa_1152) ?_
                  refine sw_iinc (y := nI (i19 + 1)) (ls2 := [.ref 1006, .ref 1001, .int (nI i2), .int (nI (i19 + 1)), .int 1]) O (xx_dt dd_X5_findDisturbed 56 rfl) rfl (nI_1 _) (by decide) rfl ?_
                  refine sw_goto (tgt := 19) O (xx_dt dd_X5_findDisturbed 57 rfl) (by decide) ?_
                  refine sw_dum (ls2 := [.ref 1006, .ref 1001, .int (nI i2), .int (nI (i19 + 1)), xx_d]) ⟨.inr rfl, .inr rfl, .inr rfl, .inr rfl, .inl rfl, trivial⟩ ?_
                  simp only [if_neg q3, if_neg q6, if_neg q9] at kk19
                  exact kk19
      · show SW Y _ _ (setC (x_findDisturbed_19 σ C rg i2 (u2 s2 1152 i2 0)) h) 19 [.ref 1006, .ref 1001, .int (nI i2), .int (nI C), xx_d] []
        have hP19 : (x_findDisturbed_19 σ C rg i2 (u2 s2 1152 i2 0)) 1006 1 = nI C ∧ (x_findDisturbed_19 σ C rg i2 (u2 s2 1152 i2 0)) 1151 = σ 1151 := hP19
        refine sw_iload_n O (xx_dt dd_X5_findDisturbed 13 rfl) rfl ?_
        refine sw_aload_n O (xx_dt dd_X5_findDisturbed 14 rfl) rfl ?_
        refine sw_get (v := .int (nI C)) O (xx_dt dd_X5_findDisturbed 15 rfl) cl_X5 fl_X5_24 (ly_1006 (x_findDisturbed_19 σ C rg i2 (u2 s2 1152 i2 0)) h) (by decide) (congrArg Value.int hP19.1) ?_
        refine sw_icmp_ge (tgt := 96) O (xx_dt dd_X5_findDisturbed 16 rfl) (by decide) (fun q2 => ?_) (fun q2 => ?_)
        · refine sw_iinc (y := nI (i2 + 1)) (ls2 := [.ref 1006, .ref 1001, .int (nI (i2 + 1)), .int (nI C), xx_d]) O (xx_dt dd_X5_findDisturbed 58 rfl) rfl (nI_1 _) (by decide) rfl ?_
          refine sw_goto (tgt := 2) O (xx_dt dd_X5_findDisturbed 59 rfl) (by decide) ?_
          refine sw_dum (ls2 := [.ref 1006, .ref 1001, .int (nI (i2 + 1)), xx_d, xx_d]) ⟨.inr rfl, .inr rfl, .inr rfl, .inl rfl, .inr rfl, trivial⟩ ?_
          exact kk2
        · exact absurd (Int32.le_refl _) q2
  · show SW Y _ _ (setC (x_findDisturbed_2 σ C rg σ) h) 2 [.ref 1006, .ref 1001, .int (nI C), xx_d, xx_d] []
    have hP2 : (x_findDisturbed_2 σ C rg σ) 1006 1 = nI C ∧ (x_findDisturbed_2 σ C rg σ) 1151 = σ 1151 := hP2
    refine sw_iload_n O (xx_dt dd_X5_findDisturbed 2 rfl) rfl ?_
    refine sw_aload_n O (xx_dt dd_X5_findDisturbed 3 rfl) rfl ?_
    refine sw_get (v := .int (nI C)) O (xx_dt dd_X5_findDisturbed 4 rfl) cl_X5 fl_X5_24 (ly_1006 (x_findDisturbed_2 σ C rg σ) h) (by decide) (congrArg Value.int hP2.1) ?_
    refine sw_icmp_ge (tgt := 102) O (xx_dt dd_X5_findDisturbed 5 rfl) (by decide) (fun q1 => ?_) (fun q1 => ?_)
    · exact sw_ret O (xx_dt dd_X5_findDisturbed 60 rfl) rfl (by rw [hQ]; exact ⟨rfl, by unfold g_findDisturbed; rfl⟩)
    · exact absurd (Int32.le_refl _) q1
theorem fr_findDisturbed {σ : XS9} {C : Nat} {rg : Nat → Nat} {q : Nat} (h : q ≠ 1152) : g_findDisturbed σ C rg q = σ q := by
  have H0 : ∀ s0, (x_findDisturbed_2 σ C rg s0) q = s0 q := fun s0 => xit_keep (fun s : XS9 => s q) (fun i s => by (try dsimp only); (repeat' split) <;> first | rfl | simp (disch := omega) only [u2_ne, uR_ne, fr_fill, fr_useWaiver, fr_undoContradictions, fr_lowerEligible, fr_moveHeld, fr_raisePrices, fr_begin, fr_closeRound, fr_moveTaken, fx_findDisturbed_19]) _ _ _
  unfold g_findDisturbed
  (repeat' split) <;> first | rfl | simp (disch := omega) only [u2_ne, uR_ne, fr_fill, fr_useWaiver, fr_undoContradictions, fr_lowerEligible, fr_moveHeld, fr_raisePrices, fr_begin, fr_closeRound, fr_moveTaken, fx_findDisturbed_19, H0]
/-! ===== Names ===== -/
def x_clashesBetween_4 (f g : Nat → Int32) (s0 : Int32) : Int32 := xit (fun i4 s4 => (if (f i4) = (-1) then s4 else (if (g i4) = (-1) then s4 else (if (f i4) = (g i4) then s4 else s4 + 1)))) 5 0 s0
def f_clashesBetween (f g : Nat → Int32) : Int32 := (x_clashesBetween_4 f g 0)
theorem ct_X3_clashesBetween {l : Launch} {h : XH} (hl : l.stackTraces = false) {a b : Nat} {f g : Nat → Int32} (ha : h a = some (100, 5, fun k => .int (f k))) (hb : h b = some (100, 5, fun k => .int (g k))) : XEx l m_X3_clashesBetween 0 0 0 [.ref a, .ref b] (h) (some (.int (f_clashesBetween f g))) (h) := by
  refine XMet.of hl rfl rfl (Nat.le_of_ble_eq_true rfl) (fun Y O hh hQ => ?_)
  show SW Y 0 0 (h) 0 [.ref a, .ref b, xx_d, xx_d] []
  refine sw_iconst (x := 0) O (xx_dt dd_X3_clashesBetween 0 rfl) (by decide) ?_
  refine sw_istore_n (ls2 := [.ref a, .ref b, .int 0, xx_d]) O (xx_dt dd_X3_clashesBetween 1 rfl) (by decide) rfl ?_
  refine sw_iconst (x := 0) O (xx_dt dd_X3_clashesBetween 2 rfl) (by decide) ?_
  refine sw_istore_n (ls2 := [.ref a, .ref b, .int 0, .int 0]) O (xx_dt dd_X3_clashesBetween 3 rfl) (by decide) rfl ?_
  refine sw_for (fun i4 s4 => (if (f i4) = (-1) then s4 else (if (g i4) = (-1) then s4 else (if (f i4) = (g i4) then s4 else s4 + 1)))) (fun _ _ => True) (hp := fun _ => h) (hd := 4) (lc := fun i4 s4 => [.ref a, .ref b, .int s4, .int (nI i4)]) (N := 5) (fun i4 s4 hi4 hP4 => ⟨trivial, fun kk4 => ?_⟩) 5 0 0 (by omega) (trivial) (fun hP4 => ?_)
  · refine sw_iload_n O (xx_dt dd_X3_clashesBetween 4 rfl) rfl ?_
    refine sw_iconst (x := 5) O (xx_dt dd_X3_clashesBetween 5 rfl) (by decide) ?_
    refine sw_icmp_ge (tgt := 41) O (xx_dt dd_X3_clashesBetween 6 rfl) (by decide) (fun q1 => ?_) (fun q1 => ?_)
    · exact absurd q1 (nI_ge (b := 5) hi4 (by omega))
    · refine sw_aload_n O (xx_dt dd_X3_clashesBetween 7 rfl) rfl ?_
      refine sw_iload_n O (xx_dt dd_X3_clashesBetween 8 rfl) rfl ?_
      refine sw_iaload (v := .int (f i4)) O (xx_dt dd_X3_clashesBetween 9 rfl) (ha) (pk_in i4 _ (by omega)) (by rw [nI_clamp (by omega)]; try exact rfl) ?_
      refine sw_iconst (x := (-1)) O (xx_dt dd_X3_clashesBetween 10 rfl) (by decide) ?_
      refine sw_icmp_eq (tgt := 35) O (xx_dt dd_X3_clashesBetween 11 rfl) (by decide) (fun q2 => ?_) (fun q2 => ?_)
      · refine sw_iinc (y := nI (i4 + 1)) (ls2 := [.ref a, .ref b, .int s4, .int (nI (i4 + 1))]) O (xx_dt dd_X3_clashesBetween 25 rfl) rfl (nI_1 _) (by decide) rfl ?_
        refine sw_goto (tgt := 4) O (xx_dt dd_X3_clashesBetween 26 rfl) (by decide) ?_
        simp only [if_pos q2] at kk4
        exact kk4
      · refine sw_aload_n O (xx_dt dd_X3_clashesBetween 12 rfl) rfl ?_
        refine sw_iload_n O (xx_dt dd_X3_clashesBetween 13 rfl) rfl ?_
        refine sw_iaload (v := .int (g i4)) O (xx_dt dd_X3_clashesBetween 14 rfl) (hb) (pk_in i4 _ (by omega)) (by rw [nI_clamp (by omega)]; try exact rfl) ?_
        refine sw_iconst (x := (-1)) O (xx_dt dd_X3_clashesBetween 15 rfl) (by decide) ?_
        refine sw_icmp_eq (tgt := 35) O (xx_dt dd_X3_clashesBetween 16 rfl) (by decide) (fun q3 => ?_) (fun q3 => ?_)
        · refine sw_iinc (y := nI (i4 + 1)) (ls2 := [.ref a, .ref b, .int s4, .int (nI (i4 + 1))]) O (xx_dt dd_X3_clashesBetween 25 rfl) rfl (nI_1 _) (by decide) rfl ?_
          refine sw_goto (tgt := 4) O (xx_dt dd_X3_clashesBetween 26 rfl) (by decide) ?_
          simp only [if_neg q2, if_pos q3] at kk4
          exact kk4
        · refine sw_aload_n O (xx_dt dd_X3_clashesBetween 17 rfl) rfl ?_
          refine sw_iload_n O (xx_dt dd_X3_clashesBetween 18 rfl) rfl ?_
          refine sw_iaload (v := .int (f i4)) O (xx_dt dd_X3_clashesBetween 19 rfl) (ha) (pk_in i4 _ (by omega)) (by rw [nI_clamp (by omega)]; try exact rfl) ?_
          refine sw_aload_n O (xx_dt dd_X3_clashesBetween 20 rfl) rfl ?_
          refine sw_iload_n O (xx_dt dd_X3_clashesBetween 21 rfl) rfl ?_
          refine sw_iaload (v := .int (g i4)) O (xx_dt dd_X3_clashesBetween 22 rfl) (hb) (pk_in i4 _ (by omega)) (by rw [nI_clamp (by omega)]; try exact rfl) ?_
          refine sw_icmp_eq (tgt := 35) O (xx_dt dd_X3_clashesBetween 23 rfl) (by decide) (fun q4 => ?_) (fun q4 => ?_)
          · refine sw_iinc (y := nI (i4 + 1)) (ls2 := [.ref a, .ref b, .int s4, .int (nI (i4 + 1))]) O (xx_dt dd_X3_clashesBetween 25 rfl) rfl (nI_1 _) (by decide) rfl ?_
            refine sw_goto (tgt := 4) O (xx_dt dd_X3_clashesBetween 26 rfl) (by decide) ?_
            simp only [if_neg q2, if_neg q3, if_pos q4] at kk4
            exact kk4
          · refine sw_iinc (y := s4 + 1) (ls2 := [.ref a, .ref b, .int (s4 + 1), .int (nI i4)]) O (xx_dt dd_X3_clashesBetween 24 rfl) rfl rfl (by decide) rfl ?_
            refine sw_iinc (y := nI (i4 + 1)) (ls2 := [.ref a, .ref b, .int (s4 + 1), .int (nI (i4 + 1))]) O (xx_dt dd_X3_clashesBetween 25 rfl) rfl (nI_1 _) (by decide) rfl ?_
            refine sw_goto (tgt := 4) O (xx_dt dd_X3_clashesBetween 26 rfl) (by decide) ?_
            simp only [if_neg q2, if_neg q3, if_neg q4] at kk4
            exact kk4
  · show SW Y _ _ (h) 4 [.ref a, .ref b, .int (x_clashesBetween_4 f g 0), .int (nI 5)] []
    refine sw_iload_n O (xx_dt dd_X3_clashesBetween 4 rfl) rfl ?_
    refine sw_iconst (x := 5) O (xx_dt dd_X3_clashesBetween 5 rfl) (by decide) ?_
    refine sw_icmp_ge (tgt := 41) O (xx_dt dd_X3_clashesBetween 6 rfl) (by decide) (fun q1 => ?_) (fun q1 => ?_)
    · refine sw_iload_n O (xx_dt dd_X3_clashesBetween 27 rfl) rfl ?_
      exact sw_iret O (xx_dt dd_X3_clashesBetween 28 rfl) rfl rfl (by rw [hQ]; exact ⟨by unfold f_clashesBetween; rfl, rfl⟩)
    · exact absurd (Int32.le_refl _) q1
def x_clashesOf_5 (σ : XS9) (r : Nat) (s0 : Int32) : Int32 := xit (fun i5 s5 => (if (f_areNeighbours σ r i5) = 0 then s5 else s5 + (f_clashesBetween (σ (1141 + r)) (σ (1141 + i5))))) r 0 s0
def f_clashesOf (σ : XS9) (r : Nat) : Int32 := (x_clashesOf_5 σ r 0)
theorem ct_X3_clashesOf {l : Launch} {h : XH} (hl : l.stackTraces = false) {σ : XS9} {r : Nat} (hr : r < 5) : XEx l m_X3_clashesOf 1 0 0 [.ref 1005, .ref 1001, .int (nI r)] (setC σ h) (some (.int (f_clashesOf σ r))) (setC σ h) := by
  refine XMet.of hl rfl rfl (Nat.le_of_ble_eq_true rfl) (fun Y O hh hQ => ?_)
  show SW Y 0 0 (setC σ h) 0 [.ref 1005, .ref 1001, .int (nI r), xx_d, xx_d] []
  refine sw_iconst (x := 0) O (xx_dt dd_X3_clashesOf 0 rfl) (by decide) ?_
  refine sw_istore_n (ls2 := [.ref 1005, .ref 1001, .int (nI r), .int 0, xx_d]) O (xx_dt dd_X3_clashesOf 1 rfl) (by decide) rfl ?_
  refine sw_iconst (x := 0) O (xx_dt dd_X3_clashesOf 2 rfl) (by decide) ?_
  refine sw_istore (ls2 := [.ref 1005, .ref 1001, .int (nI r), .int 0, .int 0]) O (xx_dt dd_X3_clashesOf 3 rfl) (by decide) rfl ?_
  refine sw_for (fun i5 s5 => (if (f_areNeighbours σ r i5) = 0 then s5 else s5 + (f_clashesBetween (σ (1141 + r)) (σ (1141 + i5))))) (fun _ _ => True) (hp := fun _ => setC σ h) (hd := 5) (lc := fun i5 s5 => [.ref 1005, .ref 1001, .int (nI r), .int s5, .int (nI i5)]) (N := r) (fun i5 s5 hi5 hP5 => ⟨trivial, fun kk5 => ?_⟩) r 0 0 (by omega) (trivial) (fun hP5 => ?_)
  · refine sw_iload O (xx_dt dd_X3_clashesOf 4 rfl) rfl ?_
    refine sw_iload_n O (xx_dt dd_X3_clashesOf 5 rfl) rfl ?_
    refine sw_icmp_ge (tgt := 46) O (xx_dt dd_X3_clashesOf 6 rfl) (by decide) (fun q1 => ?_) (fun q1 => ?_)
    · exact absurd q1 (nI_ge (b := r) hi5 (by omega))
    · refine sw_aload_n O (xx_dt dd_X3_clashesOf 7 rfl) rfl ?_
      refine sw_iload_n O (xx_dt dd_X3_clashesOf 8 rfl) rfl ?_
      refine sw_iload O (xx_dt dd_X3_clashesOf 9 rfl) rfl ?_
      refine sw_callVx (as := [.int (nI r), .int (nI i5)]) (st := []) (st2 := [.int (f_areNeighbours σ r i5)]) O (ct_X6_areNeighbours hl (σ := σ) (i := r) (j := i5) (by omega)) ce_X6_areNeighbours ml_X3_54 iv_X6_areNeighbours cl_X6 rfl (ly_1001 σ h) (xx_dt dd_X3_clashesOf 10 rfl) (by decide) rfl rfl (Nat.le_of_ble_eq_true rfl) rfl ?_
      refine sw_if_eq (tgt := 40) O (xx_dt dd_X3_clashesOf 11 rfl) (by decide) (fun q2 => ?_) (fun q2 => ?_)
      · refine sw_iinc (y := nI (i5 + 1)) (ls2 := [.ref 1005, .ref 1001, .int (nI r), .int s5, .int (nI (i5 + 1))]) O (xx_dt dd_X3_clashesOf 24 rfl) rfl (nI_1 _) (by decide) rfl ?_
        refine sw_goto (tgt := 5) O (xx_dt dd_X3_clashesOf 25 rfl) (by decide) ?_
        simp only [if_pos q2] at kk5
        exact kk5
      · refine sw_iload_n O (xx_dt dd_X3_clashesOf 12 rfl) rfl ?_
        refine sw_aload_n O (xx_dt dd_X3_clashesOf 13 rfl) rfl ?_
        refine sw_get (v := .ref 1140) O (xx_dt dd_X3_clashesOf 14 rfl) cl_X3 fl_X3_11 (ly_1005 σ h) (by decide) rfl ?_
        refine sw_iload_n O (xx_dt dd_X3_clashesOf 15 rfl) rfl ?_
        refine sw_aaload (v := .ref (1141 + r)) O (xx_dt dd_X3_clashesOf 16 rfl) (by omega) (by omega) (ly_1140 σ h) (pk_in r _ (by omega)) (by rw [nI_clamp (by omega)]; try exact rfl) ?_
        refine sw_aload_n O (xx_dt dd_X3_clashesOf 17 rfl) rfl ?_
        refine sw_get (v := .ref 1140) O (xx_dt dd_X3_clashesOf 18 rfl) cl_X3 fl_X3_11 (ly_1005 σ h) (by decide) rfl ?_
        refine sw_iload O (xx_dt dd_X3_clashesOf 19 rfl) rfl ?_
        refine sw_aaload (v := .ref (1141 + i5)) O (xx_dt dd_X3_clashesOf 20 rfl) (by omega) (by omega) (ly_1140 σ h) (pk_in i5 _ (by omega)) (by rw [nI_clamp (by omega)]; try exact rfl) ?_
        refine sw_callSx (as := [.ref (1141 + r), .ref (1141 + i5)]) (st := [.int s5]) (st2 := [.int (f_clashesBetween (σ (1141 + r)) (σ (1141 + i5))), .int s5]) O (ct_X3_clashesBetween hl (f := σ (1141 + r)) (g := σ (1141 + i5)) ((ir_1140 (k := r) (by omega)).getE rfl) ((ir_1140 (k := i5) (by omega)).getE rfl)) ce_X3_clashesBetween ml_X3_58 st_X3_clashesBetween (xx_dt dd_X3_clashesOf 21 rfl) (by decide) rfl rfl (Nat.le_of_ble_eq_true rfl) rfl ?_
        refine sw_iadd O (xx_dt dd_X3_clashesOf 22 rfl) ?_
        refine sw_istore_n (ls2 := [.ref 1005, .ref 1001, .int (nI r), .int (s5 + (f_clashesBetween (σ (1141 + r)) (σ (1141 + i5)))), .int (nI i5)]) O (xx_dt dd_X3_clashesOf 23 rfl) (by decide) rfl ?_
        refine sw_iinc (y := nI (i5 + 1)) (ls2 := [.ref 1005, .ref 1001, .int (nI r), .int (s5 + (f_clashesBetween (σ (1141 + r)) (σ (1141 + i5)))), .int (nI (i5 + 1))]) O (xx_dt dd_X3_clashesOf 24 rfl) rfl (nI_1 _) (by decide) rfl ?_
        refine sw_goto (tgt := 5) O (xx_dt dd_X3_clashesOf 25 rfl) (by decide) ?_
        simp only [if_neg q2] at kk5
        exact kk5
  · show SW Y _ _ (setC σ h) 5 [.ref 1005, .ref 1001, .int (nI r), .int (x_clashesOf_5 σ r 0), .int (nI r)] []
    refine sw_iload O (xx_dt dd_X3_clashesOf 4 rfl) rfl ?_
    refine sw_iload_n O (xx_dt dd_X3_clashesOf 5 rfl) rfl ?_
    refine sw_icmp_ge (tgt := 46) O (xx_dt dd_X3_clashesOf 6 rfl) (by decide) (fun q1 => ?_) (fun q1 => ?_)
    · refine sw_iload_n O (xx_dt dd_X3_clashesOf 26 rfl) rfl ?_
      exact sw_iret O (xx_dt dd_X3_clashesOf 27 rfl) rfl rfl (by rw [hQ]; exact ⟨by unfold f_clashesOf; rfl, rfl⟩)
    · exact absurd (Int32.le_refl _) q1
def x_heldBy_5 (σ : XS9) (x : Int32) (r : Nat) (s0 : Int32) : Int32 := xit (fun i5 s5 => (if (σ (1141 + r) i5) = x then s5 + 1 else s5)) 5 0 s0
def f_heldBy (σ : XS9) (x : Int32) (r : Nat) : Int32 := (x_heldBy_5 σ x r 0)
theorem ct_X3_heldBy {l : Launch} {h : XH} (hl : l.stackTraces = false) {σ : XS9} {x : Int32} {r : Nat} (hr : r < 5) : XEx l m_X3_heldBy 0 0 0 [.ref 1005, .int x, .int (nI r)] (setC σ h) (some (.int (f_heldBy σ x r))) (setC σ h) := by
  refine XMet.of hl rfl rfl (Nat.le_of_ble_eq_true rfl) (fun Y O hh hQ => ?_)
  show SW Y 0 0 (setC σ h) 0 [.ref 1005, .int x, .int (nI r), xx_d, xx_d] []
  refine sw_iconst (x := 0) O (xx_dt dd_X3_heldBy 0 rfl) (by decide) ?_
  refine sw_istore_n (ls2 := [.ref 1005, .int x, .int (nI r), .int 0, xx_d]) O (xx_dt dd_X3_heldBy 1 rfl) (by decide) rfl ?_
  refine sw_iconst (x := 0) O (xx_dt dd_X3_heldBy 2 rfl) (by decide) ?_
  refine sw_istore (ls2 := [.ref 1005, .int x, .int (nI r), .int 0, .int 0]) O (xx_dt dd_X3_heldBy 3 rfl) (by decide) rfl ?_
  refine sw_for (fun i5 s5 => (if (σ (1141 + r) i5) = x then s5 + 1 else s5)) (fun _ _ => True) (hp := fun _ => setC σ h) (hd := 5) (lc := fun i5 s5 => [.ref 1005, .int x, .int (nI r), .int s5, .int (nI i5)]) (N := 5) (fun i5 s5 hi5 hP5 => ⟨trivial, fun kk5 => ?_⟩) 5 0 0 (by omega) (trivial) (fun hP5 => ?_)
  · refine sw_iload O (xx_dt dd_X3_heldBy 4 rfl) rfl ?_
    refine sw_iconst (x := 5) O (xx_dt dd_X3_heldBy 5 rfl) (by decide) ?_
    refine sw_icmp_ge (tgt := 33) O (xx_dt dd_X3_heldBy 6 rfl) (by decide) (fun q1 => ?_) (fun q1 => ?_)
    · exact absurd q1 (nI_ge (b := 5) hi5 (by omega))
    · refine sw_aload_n O (xx_dt dd_X3_heldBy 7 rfl) rfl ?_
      refine sw_get (v := .ref 1140) O (xx_dt dd_X3_heldBy 8 rfl) cl_X3 fl_X3_11 (ly_1005 σ h) (by decide) rfl ?_
      refine sw_iload_n O (xx_dt dd_X3_heldBy 9 rfl) rfl ?_
      refine sw_aaload (v := .ref (1141 + r)) O (xx_dt dd_X3_heldBy 10 rfl) (by omega) (by omega) (ly_1140 σ h) (pk_in r _ (by omega)) (by rw [nI_clamp (by omega)]; try exact rfl) ?_
      refine sw_iload O (xx_dt dd_X3_heldBy 11 rfl) rfl ?_
      refine sw_iaload (v := .int (σ (1141 + r) i5)) O (xx_dt dd_X3_heldBy 12 rfl) (lr_1140 σ h (k := r) (by omega)) (pk_in i5 _ (by omega)) (by rw [nI_clamp (by omega)]; try exact rfl) ?_
      refine sw_iload_n O (xx_dt dd_X3_heldBy 13 rfl) rfl ?_
      refine sw_icmp_ne (tgt := 27) O (xx_dt dd_X3_heldBy 14 rfl) (by decide) (fun q2 => ?_) (fun q2 => ?_)
      · refine sw_iinc (y := nI (i5 + 1)) (ls2 := [.ref 1005, .int x, .int (nI r), .int s5, .int (nI (i5 + 1))]) O (xx_dt dd_X3_heldBy 16 rfl) rfl (nI_1 _) (by decide) rfl ?_
        refine sw_goto (tgt := 5) O (xx_dt dd_X3_heldBy 17 rfl) (by decide) ?_
        simp only [if_neg q2] at kk5
        exact kk5
      · refine sw_iinc (y := s5 + 1) (ls2 := [.ref 1005, .int x, .int (nI r), .int (s5 + 1), .int (nI i5)]) O (xx_dt dd_X3_heldBy 15 rfl) rfl rfl (by decide) rfl ?_
        refine sw_iinc (y := nI (i5 + 1)) (ls2 := [.ref 1005, .int x, .int (nI r), .int (s5 + 1), .int (nI (i5 + 1))]) O (xx_dt dd_X3_heldBy 16 rfl) rfl (nI_1 _) (by decide) rfl ?_
        refine sw_goto (tgt := 5) O (xx_dt dd_X3_heldBy 17 rfl) (by decide) ?_
        simp only [if_pos q2] at kk5
        exact kk5
  · show SW Y _ _ (setC σ h) 5 [.ref 1005, .int x, .int (nI r), .int (x_heldBy_5 σ x r 0), .int (nI 5)] []
    refine sw_iload O (xx_dt dd_X3_heldBy 4 rfl) rfl ?_
    refine sw_iconst (x := 5) O (xx_dt dd_X3_heldBy 5 rfl) (by decide) ?_
    refine sw_icmp_ge (tgt := 33) O (xx_dt dd_X3_heldBy 6 rfl) (by decide) (fun q1 => ?_) (fun q1 => ?_)
    · refine sw_iload_n O (xx_dt dd_X3_heldBy 18 rfl) rfl ?_
      exact sw_iret O (xx_dt dd_X3_heldBy 19 rfl) rfl rfl (by rw [hQ]; exact ⟨by unfold f_heldBy; rfl, rfl⟩)
    · exact absurd (Int32.le_refl _) q1
