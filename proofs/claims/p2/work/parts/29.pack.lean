/-! ===== stations are packed ===== -/
theorem max_nat {a b : Nat} (ha : a < 2147483648) (hb : b < 2147483648) : (if nI a < nI b then nI b else nI a) = nI (max a b) := by
  by_cases h : a < b
  · rw [if_pos ((nI_ltI ha hb).mpr h)]
    congr 1
    omega
  · rw [if_neg (fun e => h ((nI_ltI ha hb).mp e))]
    congr 1
    omega
theorem all_nat {C : Nat} (hC : C ≤ 10) : ((1 : Int32) <<< (nI C &&& 31)) - 1 = nI (2 ^ C - 1) := by
  have : ∀ C, C ≤ 10 → ((1 : Int32) <<< (nI C &&& 31)) - 1 = nI (2 ^ C - 1) := by decide +kernel
  exact this C hC
def x_packStep_43 (σ : XS9) (f_rec : XS9 → Nat → Int32) (g_rec2 : XS9 → Nat → XS9) (i ch u : Nat) (x : Int32) (C : Nat) (s0 : XS9) : XS9 ⊕ (XS9 × Int32) := xitR (fun i43 s43 => (if (nI ch) ≤ (nI i43) then .inr (s43, 0) else (if ((s43 1153 i43) &&& (s43 1152 i)) = 0 then (if (f_rec (u2 s43 1153 i43 ((s43 1153 i43) ||| (1 <<< ((nI i) &&& 31)))) (max u (i43 + 1))) = 0 then .inl (u2 (g_rec2 (u2 s43 1153 i43 ((s43 1153 i43) ||| (1 <<< ((nI i) &&& 31)))) (max u (i43 + 1))) 1153 i43 (((g_rec2 (u2 s43 1153 i43 ((s43 1153 i43) ||| (1 <<< ((nI i) &&& 31)))) (max u (i43 + 1))) 1153 i43) - (1 <<< ((nI i) &&& 31)))) else .inr (g_rec2 (u2 s43 1153 i43 ((s43 1153 i43) ||| (1 <<< ((nI i) &&& 31)))) (max u (i43 + 1)), 1)) else .inl s43))) (u + 1) 0 s0
def f_packStep (σ : XS9) (f_rec : XS9 → Nat → Int32) (g_rec2 : XS9 → Nat → XS9) (i ch u : Nat) (x : Int32) (C : Nat) : Int32 := (if (nI C) ≤ (nI i) then 1 else (if (x &&& (1 <<< ((nI i) &&& 31))) = 0 then f_rec σ u else (match (x_packStep_43 σ f_rec g_rec2 i ch u x C σ) with | .inl s43 => 0 | .inr r43 => r43.2)))
def g_packStep (σ : XS9) (f_rec : XS9 → Nat → Int32) (g_rec2 : XS9 → Nat → XS9) (i ch u : Nat) (x : Int32) (C : Nat) : XS9 := (if (nI C) ≤ (nI i) then σ else (if (x &&& (1 <<< ((nI i) &&& 31))) = 0 then g_rec2 σ u else (match (x_packStep_43 σ f_rec g_rec2 i ch u x C σ) with | .inl s43 => s43 | .inr r43 => r43.1)))
theorem ct_X5_packStep {l : Launch} {h : XH} (hl : l.stackTraces = false) {σ : XS9} {f_rec : XS9 → Nat → Int32} {g_rec2 : XS9 → Nat → XS9} (fr_rec2 : ∀ {σ : XS9} {u : Nat} {q : Nat}, q ≠ 1153 → g_rec2 σ u q = σ q) (hbo : ∀ σ u, f_rec σ u = 0 ∨ f_rec σ u = 1) {i ch u : Nat} {x : Int32} (hi : i < 10) (hch : ch ≤ 6) (hu : u ≤ 6) {C : Nat} (hC : σ 1006 1 = nI C) (hC10 : C ≤ 10) {d0 : Nat} (ih : ∀ (σ : XS9) (u : Nat), u ≤ 6 → σ 1006 1 = nI C → XEx l m_X5_packFrom d0 0 0 [.ref 1006, .int (nI (i + 1)), .int x, .int (nI ch), .int (nI u)] (setC σ h) (some (.int (f_rec σ u))) (setC (g_rec2 σ u) h)) : XEx l m_X5_packFrom (d0 + 1) 0 0 [.ref 1006, .int (nI i), .int x, .int (nI ch), .int (nI u)] (setC σ h) (some (.int (f_packStep σ f_rec g_rec2 i ch u x C))) (setC (g_packStep σ f_rec g_rec2 i ch u x C) h) := by
  refine XMet.of hl rfl rfl (Nat.le_of_ble_eq_true rfl) (fun Y O hh hQ => ?_)
  show SW Y 0 0 (setC σ h) 0 [.ref 1006, .int (nI i), .int x, .int (nI ch), .int (nI u), xx_d, xx_d] []
  refine sw_iload_n O (xx_dt dd_X5_packFrom 0 rfl) rfl ?_
  refine sw_aload_n O (xx_dt dd_X5_packFrom 1 rfl) rfl ?_
  refine sw_get (v := .int (nI C)) O (xx_dt dd_X5_packFrom 2 rfl) cl_X5 fl_X5_24 (ly_1006 σ h) (by decide) (congrArg Value.int hC) ?_
  refine sw_icmp_ge (tgt := 14) O (xx_dt dd_X5_packFrom 3 rfl) (by decide) (fun q1 => ?_) (fun q1 => ?_)
  · refine sw_iconst (x := 1) O (xx_dt dd_X5_packFrom 7 rfl) (by decide) ?_
    exact sw_iret O (xx_dt dd_X5_packFrom 8 rfl) rfl rfl (by rw [hQ]; exact ⟨by unfold f_packStep; simp only [if_pos q1], by unfold g_packStep; simp only [if_pos q1]⟩)
  · refine sw_iload_n O (xx_dt dd_X5_packFrom 4 rfl) rfl ?_
    refine sw_bipush (x := 10) O (xx_dt dd_X5_packFrom 5 rfl) (by decide) ?_
    refine sw_icmp_lt (tgt := 16) O (xx_dt dd_X5_packFrom 6 rfl) (by decide) (fun q2 => ?_) (fun q2 => ?_)
    · refine sw_iconst (x := 1) O (xx_dt dd_X5_packFrom 9 rfl) (by decide) ?_
      refine sw_iload_n O (xx_dt dd_X5_packFrom 10 rfl) rfl ?_
      refine sw_ishl O (xx_dt dd_X5_packFrom 11 rfl) ?_
      refine sw_istore (ls2 := [.ref 1006, .int (nI i), .int x, .int (nI ch), .int (nI u), .int (1 <<< ((nI i) &&& 31)), xx_d]) O (xx_dt dd_X5_packFrom 12 rfl) (by decide) rfl ?_
      refine sw_iload_n O (xx_dt dd_X5_packFrom 13 rfl) rfl ?_
      refine sw_iload O (xx_dt dd_X5_packFrom 14 rfl) rfl ?_
      refine sw_iand O (xx_dt dd_X5_packFrom 15 rfl) ?_
      refine sw_if_ne (tgt := 40) O (xx_dt dd_X5_packFrom 16 rfl) (by decide) (fun q3 => ?_) (fun q3 => ?_)
      · refine sw_iconst (x := 0) O (xx_dt dd_X5_packFrom 26 rfl) (by decide) ?_
        refine sw_istore (ls2 := [.ref 1006, .int (nI i), .int x, .int (nI ch), .int (nI u), .int (1 <<< ((nI i) &&& 31)), .int 0]) O (xx_dt dd_X5_packFrom 27 rfl) (by decide) rfl ?_
        refine sw_forR (R := (XS9 × Int32)) (fun i43 s43 => (if (nI ch) ≤ (nI i43) then .inr (s43, 0) else (if ((s43 1153 i43) &&& (s43 1152 i)) = 0 then (if (f_rec (u2 s43 1153 i43 ((s43 1153 i43) ||| (1 <<< ((nI i) &&& 31)))) (max u (i43 + 1))) = 0 then .inl (u2 (g_rec2 (u2 s43 1153 i43 ((s43 1153 i43) ||| (1 <<< ((nI i) &&& 31)))) (max u (i43 + 1))) 1153 i43 (((g_rec2 (u2 s43 1153 i43 ((s43 1153 i43) ||| (1 <<< ((nI i) &&& 31)))) (max u (i43 + 1))) 1153 i43) - (1 <<< ((nI i) &&& 31)))) else .inr (g_rec2 (u2 s43 1153 i43 ((s43 1153 i43) ||| (1 <<< ((nI i) &&& 31)))) (max u (i43 + 1)), 1)) else .inl s43))) (fun _ s43 => s43 1006 1 = nI C) (FR := fun r9 => f_packStep σ f_rec g_rec2 i ch u x C = r9.2 ∧ g_packStep σ f_rec g_rec2 i ch u x C = r9.1) (hp := fun s43 => setC s43 h) (hd := 43) (lc := fun i43 s43 => [.ref 1006, .int (nI i), .int x, .int (nI ch), .int (nI u), .int (1 <<< ((nI i) &&& 31)), .int (nI i43)]) (N := (u + 1)) (fun i43 s43 hi43 hP43 => ⟨(by intro s' e'; revert e'; (try dsimp only); (repeat' split) <;> intro e' <;> first | (cases e'; done) | (injection e' with e'; subst e'; first | exact hP43 | (simp (disch := omega) only [u2_ne, uR_ne, fr_fill, fr_useWaiver, fr_undoContradictions, fr_lowerEligible, fr_moveHeld, fr_raisePrices, fr_begin, fr_closeRound, fr_moveTaken, fr_findDisturbed, fr_addRegion, fr_addBidder, fr_take, fr_giveBack, fr_keepIfBetter, fr_findWinners, fr_leaveOut, fr_raiseEach, fr_raiseOutside, fr_find, fr_giveByTurn, fr_rec2]; exact hP43))), fun kk43 kr43 => ?_⟩) (u + 1) 0 σ (by omega) (hC) (fun sN43 eN43 hP43 => ?_) (fun r43 eN43 => ?_)
        · refine sw_iload O (xx_dt dd_X5_packFrom 28 rfl) rfl ?_
          refine sw_iload O (xx_dt dd_X5_packFrom 29 rfl) rfl ?_
          refine sw_icmp_gt (tgt := 126) O (xx_dt dd_X5_packFrom 30 rfl) (by decide) (fun q4 => ?_) (fun q4 => ?_)
          · exact absurd ((nI_ltI (a := u) (b := i43) (by omega) (by omega)).mp q4) (by omega)
          · refine sw_iload O (xx_dt dd_X5_packFrom 31 rfl) rfl ?_
            refine sw_iload_n O (xx_dt dd_X5_packFrom 32 rfl) rfl ?_
            refine sw_icmp_ge (tgt := 126) O (xx_dt dd_X5_packFrom 33 rfl) (by decide) (fun q5 => ?_) (fun q5 => ?_)
            · have hfq5 : ch ≤ i43 := (nI_leI (a := ch) (b := i43) (by omega) (by omega)).mp q5
              refine sw_iconst (x := 0) O (xx_dt dd_X5_packFrom 77 rfl) (by decide) ?_
              have kz := kr43 (s43, 0) (by simp only [if_pos q5])
              exact sw_iret O (xx_dt dd_X5_packFrom 78 rfl) rfl rfl (by rw [hQ, kz.1, kz.2]; exact ⟨rfl, rfl⟩)
            · have hfq5 : ¬ ch ≤ i43 := fun e => q5 ((nI_leI (a := ch) (b := i43) (by omega) (by omega)).mpr e)
              refine sw_aload_n O (xx_dt dd_X5_packFrom 34 rfl) rfl ?_
              refine sw_get (v := .ref 1153) O (xx_dt dd_X5_packFrom 35 rfl) cl_X5 fl_X5_21 (ly_1006 s43 h) (by decide) rfl ?_
              refine sw_iload O (xx_dt dd_X5_packFrom 36 rfl) rfl ?_
              refine sw_iaload (v := .int (s43 1153 i43)) O (xx_dt dd_X5_packFrom 37 rfl) (ly_1153 s43 h) (pk_in i43 _ (by omega)) (by rw [nI_clamp (by omega)]; try exact rfl) ?_
              refine sw_aload_n O (xx_dt dd_X5_packFrom 38 rfl) rfl ?_
              refine sw_get (v := .ref 1152) O (xx_dt dd_X5_packFrom 39 rfl) cl_X5 fl_X5_18 (ly_1006 s43 h) (by decide) rfl ?_
              refine sw_iload_n O (xx_dt dd_X5_packFrom 40 rfl) rfl ?_
              refine sw_iaload (v := .int (s43 1152 i)) O (xx_dt dd_X5_packFrom 41 rfl) (ly_1152 s43 h) (pk_in i _ (by omega)) (by rw [nI_clamp (by omega)]; try exact rfl) ?_
              refine sw_iand O (xx_dt dd_X5_packFrom 42 rfl) ?_
              refine sw_if_ne (tgt := 120) O (xx_dt dd_X5_packFrom 43 rfl) (by decide) (fun q6 => ?_) (fun q6 => ?_)
              · refine sw_iinc (y := nI (i43 + 1)) (ls2 := [.ref 1006, .int (nI i), .int x, .int (nI ch), .int (nI u), .int (1 <<< ((nI i) &&& 31)), .int (nI (i43 + 1))]) O (xx_dt dd_X5_packFrom 75 rfl) rfl (nI_1 _) (by decide) rfl ?_
                refine sw_goto (tgt := 43) O (xx_dt dd_X5_packFrom 76 rfl) (by decide) ?_
                exact kk43 s43 (by simp only [if_neg q5, if_neg q6])
              · refine sw_aload_n O (xx_dt dd_X5_packFrom 44 rfl) rfl ?_
                refine sw_get (v := .ref 1153) O (xx_dt dd_X5_packFrom 45 rfl) cl_X5 fl_X5_21 (ly_1006 s43 h) (by decide) rfl ?_
                refine sw_iload O (xx_dt dd_X5_packFrom 46 rfl) rfl ?_
                refine sw_dup2 O (xx_dt dd_X5_packFrom 47 rfl) rfl rfl ?_
                refine sw_iaload (v := .int (s43 1153 i43)) O (xx_dt dd_X5_packFrom 48 rfl) (ly_1153 s43 h) (pk_in i43 _ (by omega)) (by rw [nI_clamp (by omega)]; try exact rfl) ?_
                refine sw_iload O (xx_dt dd_X5_packFrom 49 rfl) rfl ?_
                refine sw_ior O (xx_dt dd_X5_packFrom 50 rfl) ?_
                refine sw_iastore (h2 := setC (u2 s43 1153 i43 ((s43 1153 i43) ||| (1 <<< ((nI i) &&& 31)))) h) O (xx_dt dd_X5_packFrom 51 rfl) (ly_1153 s43 h) (pk_in i43 _ (by omega)) (by decide) (by rw [nI_clamp (by omega)]; exact pa_1153) ?_
                refine sw_aload_n O (xx_dt dd_X5_packFrom 52 rfl) rfl ?_
                refine sw_iload_n O (xx_dt dd_X5_packFrom 53 rfl) rfl ?_
                refine sw_iconst (x := 1) O (xx_dt dd_X5_packFrom 54 rfl) (by decide) ?_
                refine sw_iadd O (xx_dt dd_X5_packFrom 55 rfl) ?_
                rw [nI_a1 i]
                refine sw_iload_n O (xx_dt dd_X5_packFrom 56 rfl) rfl ?_
                refine sw_iload_n O (xx_dt dd_X5_packFrom 57 rfl) rfl ?_
                refine sw_iload O (xx_dt dd_X5_packFrom 58 rfl) rfl ?_
                refine sw_iload O (xx_dt dd_X5_packFrom 59 rfl) rfl ?_
                refine sw_iconst (x := 1) O (xx_dt dd_X5_packFrom 60 rfl) (by decide) ?_
                refine sw_iadd O (xx_dt dd_X5_packFrom 61 rfl) ?_
                rw [nI_a1 i43]
                refine sw_max O mm_X5_55 (xx_dt dd_X5_packFrom 62 rfl) (by omega) (Nat.le_of_ble_eq_true rfl) ?_
                rw [max_nat (a := u) (b := i43 + 1) (by omega) (by omega)]
                refine sw_callSx (as := [.ref 1006, .int (nI (i + 1)), .int x, .int (nI ch), .int (nI (max u (i43 + 1)))]) (st := []) (st2 := [.int (f_rec (u2 s43 1153 i43 ((s43 1153 i43) ||| (1 <<< ((nI i) &&& 31)))) (max u (i43 + 1)))]) O (ih (u2 s43 1153 i43 ((s43 1153 i43) ||| (1 <<< ((nI i) &&& 31)))) (max u (i43 + 1)) (by omega) (hP43)) ce_X5_packFrom ml_X5_51 st_X5_packFrom (xx_dt dd_X5_packFrom 63 rfl) (by first | decide | omega) rfl rfl (Nat.le_of_ble_eq_true rfl) rfl ?_
                refine sw_if_eq (tgt := 108) O (xx_dt dd_X5_packFrom 64 rfl) (by decide) (fun q7 => ?_) (fun q7 => ?_)
                · refine sw_aload_n O (xx_dt dd_X5_packFrom 67 rfl) rfl ?_
                  refine sw_get (v := .ref 1153) O (xx_dt dd_X5_packFrom 68 rfl) cl_X5 fl_X5_21 (ly_1006 (g_rec2 (u2 s43 1153 i43 ((s43 1153 i43) ||| (1 <<< ((nI i) &&& 31)))) (max u (i43 + 1))) h) (by decide) rfl ?_
                  refine sw_iload O (xx_dt dd_X5_packFrom 69 rfl) rfl ?_
                  refine sw_dup2 O (xx_dt dd_X5_packFrom 70 rfl) rfl rfl ?_
                  refine sw_iaload (v := .int ((g_rec2 (u2 s43 1153 i43 ((s43 1153 i43) ||| (1 <<< ((nI i) &&& 31)))) (max u (i43 + 1))) 1153 i43)) O (xx_dt dd_X5_packFrom 71 rfl) (ly_1153 (g_rec2 (u2 s43 1153 i43 ((s43 1153 i43) ||| (1 <<< ((nI i) &&& 31)))) (max u (i43 + 1))) h) (pk_in i43 _ (by omega)) (by rw [nI_clamp (by omega)]; try exact rfl) ?_
                  refine sw_iload O (xx_dt dd_X5_packFrom 72 rfl) rfl ?_
                  refine sw_isub O (xx_dt dd_X5_packFrom 73 rfl) ?_
                  refine sw_iastore (h2 := setC (u2 (g_rec2 (u2 s43 1153 i43 ((s43 1153 i43) ||| (1 <<< ((nI i) &&& 31)))) (max u (i43 + 1))) 1153 i43 (((g_rec2 (u2 s43 1153 i43 ((s43 1153 i43) ||| (1 <<< ((nI i) &&& 31)))) (max u (i43 + 1))) 1153 i43) - (1 <<< ((nI i) &&& 31)))) h) O (xx_dt dd_X5_packFrom 74 rfl) (ly_1153 (g_rec2 (u2 s43 1153 i43 ((s43 1153 i43) ||| (1 <<< ((nI i) &&& 31)))) (max u (i43 + 1))) h) (pk_in i43 _ (by omega)) (by decide) (by rw [nI_clamp (by omega)]; exact pa_1153) ?_
                  refine sw_iinc (y := nI (i43 + 1)) (ls2 := [.ref 1006, .int (nI i), .int x, .int (nI ch), .int (nI u), .int (1 <<< ((nI i) &&& 31)), .int (nI (i43 + 1))]) O (xx_dt dd_X5_packFrom 75 rfl) rfl (nI_1 _) (by decide) rfl ?_
                  refine sw_goto (tgt := 43) O (xx_dt dd_X5_packFrom 76 rfl) (by decide) ?_
                  exact kk43 (u2 (g_rec2 (u2 s43 1153 i43 ((s43 1153 i43) ||| (1 <<< ((nI i) &&& 31)))) (max u (i43 + 1))) 1153 i43 (((g_rec2 (u2 s43 1153 i43 ((s43 1153 i43) ||| (1 <<< ((nI i) &&& 31)))) (max u (i43 + 1))) 1153 i43) - (1 <<< ((nI i) &&& 31)))) (by simp only [if_neg q5, if_pos q6, if_pos q7])
                · refine sw_iconst (x := 1) O (xx_dt dd_X5_packFrom 65 rfl) (by decide) ?_
                  have kz := kr43 (g_rec2 (u2 s43 1153 i43 ((s43 1153 i43) ||| (1 <<< ((nI i) &&& 31)))) (max u (i43 + 1)), 1) (by simp only [if_neg q5, if_pos q6, if_neg q7])
                  exact sw_iret O (xx_dt dd_X5_packFrom 66 rfl) rfl rfl (by rw [hQ, kz.1, kz.2]; exact ⟨rfl, rfl⟩)
        · show SW Y _ _ (setC sN43 h) 43 [.ref 1006, .int (nI i), .int x, .int (nI ch), .int (nI u), .int (1 <<< ((nI i) &&& 31)), .int (nI ((u + 1)))] []
          refine sw_iload O (xx_dt dd_X5_packFrom 28 rfl) rfl ?_
          refine sw_iload O (xx_dt dd_X5_packFrom 29 rfl) rfl ?_
          refine sw_icmp_gt (tgt := 126) O (xx_dt dd_X5_packFrom 30 rfl) (by decide) (fun q4 => ?_) (fun q4 => ?_)
          · refine sw_iconst (x := 0) O (xx_dt dd_X5_packFrom 77 rfl) (by decide) ?_
            exact sw_iret O (xx_dt dd_X5_packFrom 78 rfl) rfl rfl (by rw [hQ]; exact ⟨by unfold f_packStep; simp only [if_neg q1, if_neg q3, x_packStep_43, eN43], by unfold g_packStep; simp only [if_neg q1, if_neg q3, x_packStep_43, eN43]⟩)
          · exact absurd (nI_lt (a := u) (b := (u + 1)) (by omega) (by omega)) q4
        · exact ⟨by unfold f_packStep; simp only [if_neg q1, if_neg q3, x_packStep_43, eN43], by unfold g_packStep; simp only [if_neg q1, if_neg q3, x_packStep_43, eN43]⟩
      · refine sw_aload_n O (xx_dt dd_X5_packFrom 17 rfl) rfl ?_
        refine sw_iload_n O (xx_dt dd_X5_packFrom 18 rfl) rfl ?_
        refine sw_iconst (x := 1) O (xx_dt dd_X5_packFrom 19 rfl) (by decide) ?_
        refine sw_iadd O (xx_dt dd_X5_packFrom 20 rfl) ?_
        rw [nI_a1 i]
        refine sw_iload_n O (xx_dt dd_X5_packFrom 21 rfl) rfl ?_
        refine sw_iload_n O (xx_dt dd_X5_packFrom 22 rfl) rfl ?_
        refine sw_iload O (xx_dt dd_X5_packFrom 23 rfl) rfl ?_
        refine sw_callSx (as := [.ref 1006, .int (nI (i + 1)), .int x, .int (nI ch), .int (nI u)]) (st := []) (st2 := [.int (f_rec σ u)]) O (ih (σ) u (by omega) (hC)) ce_X5_packFrom ml_X5_51 st_X5_packFrom (xx_dt dd_X5_packFrom 24 rfl) (by first | decide | omega) rfl rfl (Nat.le_of_ble_eq_true rfl) rfl ?_
        exact sw_iret O (xx_dt dd_X5_packFrom 25 rfl) rfl (xx_bool (hbo _ _)) (by rw [hQ]; exact ⟨by unfold f_packStep; simp only [if_neg q1, if_pos q3], by unfold g_packStep; simp only [if_neg q1, if_pos q3]⟩)
    · exact absurd q2 (fun e => e (nI_lt (a := i) (b := 10) (by omega) (by omega)))
