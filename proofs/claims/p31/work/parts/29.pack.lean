/-! ===== stations are packed ===== -/
theorem max_nat {a b : Nat} (ha : a < 2147483648) (hb : b < 2147483648) : (if nI a < nI b then nI b else nI a) = nI (max a b) := by
  by_cases h : a < b
  · rw [if_pos ((nI_ltI ha hb).mpr h)]
    congr 1
    omega
  · rw [if_neg (fun e => h ((nI_ltI ha hb).mp e))]
    congr 1
    omega
theorem all_nat {C : Nat} (hC : C ≤ 10) : ((1 : Int32) <<< (nI C &&& 31)) - 1 = nI (2 ^ C - 1) := by
  have : ∀ C, C ≤ 10 → ((1 : Int32) <<< (nI C &&& 31)) - 1 = nI (2 ^ C - 1) := by decide +kernel
  exact this C hC
def x_packStep_43 (σ : XS9) (f_rec : XS9 → Nat → Int32) (g_rec2 : XS9 → Nat → XS9) (i ch u : Nat) (x : Int32) (C : Nat) (s0 : XS9) : XS9 ⊕ (XS9 × Int32) := xitR (fun i43 s43 => (if (nI ch) ≤ (nI i43) then .inr (s43, 0) else (if ((s43 1153 i43) &&& (s43 1152 i)) = 0 then (if (f_rec (u2 s43 1153 i43 ((s43 1153 i43) ||| (1 <<< ((nI i) &&& 31)))) (max u (i43 + 1))) = 0 then .inl (u2 (g_rec2 (u2 s43 1153 i43 ((s43 1153 i43) ||| (1 <<< ((nI i) &&& 31)))) (max u (i43 + 1))) 1153 i43 (((g_rec2 (u2 s43 1153 i43 ((s43 1153 i43) ||| (1 <<< ((nI i) &&& 31)))) (max u (i43 + 1))) 1153 i43) - (1 <<< ((nI i) &&& 31)))) else .inr (g_rec2 (u2 s43 1153 i43 ((s43 1153 i43) ||| (1 <<< ((nI i) &&& 31)))) (max u (i43 + 1)), 1)) else .inl s43))) (u + 1) 0 s0
def f_packStep (σ : XS9) (f_rec : XS9 → Nat → Int32) (g_rec2 : XS9 → Nat → XS9) (i ch u : Nat) (x : Int32) (C : Nat) : Int32 := (if (nI C) ≤ (nI i) then 1 else (if (x &&& (1 <<< ((nI i) &&& 31))) = 0 then f_rec σ u else (match (x_packStep_43 σ f_rec g_rec2 i ch u x C σ) with | .inl s43 => 0 | .inr r43 => r43.2)))
def g_packStep (σ : XS9) (f_rec : XS9 → Nat → Int32) (g_rec2 : XS9 → Nat → XS9) (i ch u : Nat) (x : Int32) (C : Nat) : XS9 := (if (nI C) ≤ (nI i) then σ else (if (x &&& (1 <<< ((nI i) &&& 31))) = 0 then g_rec2 σ u else (match (x_packStep_43 σ f_rec g_rec2 i ch u x C σ) with | .inl s43 => s43 | .inr r43 => r43.1)))
theorem ct_X5_packStep {l : Launch} {h : XH} (hl : l.stackTraces = false) {σ : XS9} {f_rec : XS9 → Nat → Int32} {g_rec2 : XS9 → Nat → XS9} (fr_rec2 : ∀ {σ : XS9} {u : Nat} {q : Nat}, q ≠ 1153 → g_rec2 σ u q = σ q) (hbo : ∀ σ u, f_rec σ u = 0 ∨ f_rec σ u = 1) {i ch u : Nat} {x : Int32} (hi : i < 10) (hch : ch ≤ 6) (hu : u ≤ 6) {C : Nat} (hC : σ 1006 1 = nI C) (hC10 : C ≤ 10) {d0 : Nat} (ih : ∀ (σ : XS9) (u : Nat), u ≤ 6 → σ 1006 1 = nI C → XEx l m_X5_packFrom d0 0 0 [.ref 1006, .int (nI (i + 1)), .int x, .int (nI ch), .int (nI u)] (setC σ h) (some (.int (f_rec σ u))) (setC (g_rec2 σ u) h)) : XEx l m_X5_packFrom (d0 + 1) 0 0 [.ref 1006, .int (nI i), .int x, .int (nI ch), .int (nI u)] (setC σ h) (some (.int (f_packStep σ f_rec g_rec2 i ch u x C))) (setC (g_packStep σ f_rec g_rec2 i ch u x C) h) := by
  refine XMet.of hl rfl rfl (Nat.le_of_ble_eq_true rfl) (fun Y O hh hQ => ?_)
  show SW Y 0 0 (setC σ h) 0 [.ref 1006, .int (nI i), .int x, .int (nI ch), .int (nI u), xx_d, xx_d] []
  refine sw_iload_n O (xx_dt dd_X5_packFrom 0 rfl) rfl ?_
  refine sw_aload_n O (xx_dt dd_X5_packFrom 1 rfl) rfl ?_
  refine sw_get (v := .int (nI C)) O (xx_dt dd_X5_packFrom 2 rfl) cl_X5 fl_X5_24 (ly_1006 σ h) (by decide) (congrArg Value.int hC) ?_
  refine sw_icmp_ge (tgt := 14) O (xx_dt dd_X5_packFrom 3 rfl) (by decide) (fun q1 => ?_) (fun q1 => ?_)
  · refine sw_iconst (x := 1) O (xx_dt dd_X5_packFrom 7 rfl) (by decide) ?_
    exact sw_iret O (xx_dt dd_X5_packFrom 8 rfl) rfl rfl (by rw [hQ]; exact ⟨by unfold f_packStep; simp only [if_pos q1], by unfold g_packStep; simp only [if_pos q1]⟩)
  · refine sw_iload_n O (xx_dt dd_X5_packFrom 4 rfl) rfl ?_
    refine sw_bipush (x := 10) O (xx_dt dd_X5_packFrom 5 rfl) (by decide) ?_
    refine sw_icmp_lt (tgt := 16) O (xx_dt dd_X5_packFrom 6 rfl) (by decide) (fun q2 => ?_) (fun q2 => ?_)
    · refine sw_iconst (x := 1) O (xx_dt dd_X5_packFrom 9 rfl) (by decide) ?_
      refine sw_iload_n O (xx_dt dd_X5_packFrom 10 rfl) rfl ?_
      refine sw_ishl O (xx_dt dd_X5_packFrom 11 rfl) ?_
      refine sw_istore (ls2 := [.ref 1006, .int (nI i), .int x, .int (nI ch), .int (nI u), .int (1 <<< ((nI i) &&& 31)), xx_d]) O (xx_dt dd_X5_packFrom 12 rfl) (by decide) rfl ?_
      refine sw_iload_n O (xx_dt dd_X5_packFrom 13 rfl) rfl ?_
      refine sw_iload O (xx_dt dd_X5_packFrom 14 rfl) rfl ?_
      refine sw_iand O (xx_dt dd_X5_packFrom 15 rfl) ?_
      refine sw_if_ne (tgt := 40) O (xx_dt dd_X5_packFrom 16 rfl) (by decide) (fun q3 => ?_) (fun q3 => ?_)
      · refine sw_iconst (x := 0) O (xx_dt dd_X5_packFrom 26 rfl) (by decide) ?_
        refine sw_istore (ls2 := [.ref 1006, .int (nI i), .int x, .int (nI ch), .int (nI u), .int (1 <<< ((nI i) &&& 31)), .int 0]) O (xx_dt dd_X5_packFrom 27 rfl) (by decide) rfl ?_
        refine sw_forR (R := (XS9 × Int32)) (fun i43 s43 => (if (nI ch) ≤ (nI i43) then .inr (s43, 0) else (if ((s43 1153 i43) &&& (s43 1152 i)) = 0 then (if (f_rec (u2 s43 1153 i43 ((s43 1153 i43) ||| (1 <<< ((nI i) &&& 31)))) (max u (i43 + 1))) = 0 then .inl (u2 (g_rec2 (u2 s43 1153 i43 ((s43 1153 i43) ||| (1 <<< ((nI i) &&& 31)))) (max u (i43 + 1))) 1153 i43 (((g_rec2 (u2 s43 1153 i43 ((s43 1153 i43) ||| (1 <<< ((nI i) &&& 31)))) (max u (i43 + 1))) 1153 i43) - (1 <<< ((nI i) &&& 31)))) else .inr (g_rec2 (u2 s43 1153 i43 ((s43 1153 i43) ||| (1 <<< ((nI i) &&& 31)))) (max u (i43 + 1)), 1)) else .inl s43))) (fun _ s43 => s43 1006 1 = nI C) (FR := fun r9 => f_packStep σ f_rec g_rec2 i ch u x C = r9.2 ∧ g_packStep σ f_rec g_rec2 i ch u x C = r9.1) (hp := fun s43 => setC s43 h) (hd := 43) (lc := fun i43 s43 => [.ref 1006, .int (nI i), .int x, .int (nI ch), .int (nI u), .int (1 <<< ((nI i) &&& 31)), .int (nI i43)]) (N := (u + 1)) (fun i43 s43 hi43 hP43 => ⟨(by intro s' e'; revert e'; (try dsimp only); (repeat' split) <;> intro e' <;> first | (cases e'; done) | (injection e' with e'; subst e'; first | exact hP43 | (simp (disch := omega) only [u2_ne, uR_ne, fr_fill, fr_useWaiver, fr_undoContradictions, fr_lowerEligible, fr_moveHeld, fr_raisePrices, fr_begin, fr_closeRound, fr_moveTaken, fr_findDisturbed, fr_addRegion, fr_addBidder, fr_take, fr_giveBack, fr_keepIfBetter, fr_findWinners, fr_leaveOut, fr_raiseEach, fr_raiseOutside, fr_find, fr_giveByTurn, fr_rec2]; exact hP43))), fun kk43 kr43 => ?_⟩) (u + 1) 0 σ (by omega) (hC) (fun sN43 eN43 hP43 => ?_) (fun r43 eN43 => ?_)
        · refine sw_iload O (xx_dt dd_X5_packFrom 28 rfl) rfl ?_
          refine sw_iload O (xx_dt dd_X5_packFrom 29 rfl) rfl ?_
          refine sw_icmp_gt (tgt := 126) O (xx_dt dd_X5_packFrom 30 rfl) (by decide) (fun q4 => ?_) (fun q4 => ?_)
          · exact absurd ((nI_ltI (a := u) (b := i43) (by omega) (by omega)).mp q4) (by omega)
          · refine sw_iload O (xx_dt dd_X5_packFrom 31 rfl) rfl ?_
            refine sw_iload_n O (xx_dt dd_X5_packFrom 32 rfl) rfl ?_
            refine sw_icmp_ge (tgt := 126) O (xx_dt dd_X5_packFrom 33 rfl) (by decide) (fun q5 => ?_) (fun q5 => ?_)
            · have hfq5 : ch ≤ i43 := (nI_leI (a := ch) (b := i43) (by omega) (by omega)).mp q5
              refine sw_iconst (x := 0) O (xx_dt dd_X5_packFrom 77 rfl) (by decide) ?_
              have kz := kr43 (s43, 0) (by simp only [if_pos q5])
              exact sw_iret O (xx_dt dd_X5_packFrom 78 rfl) rfl rfl (by rw [hQ, kz.1, kz.2]; exact ⟨rfl, rfl⟩)
            · have hfq5 : ¬ ch ≤ i43 := fun e => q5 ((nI_leI (a := ch) (b := i43) (by omega) (by omega)).mpr e)
              refine sw_aload_n O (xx_dt dd_X5_packFrom 34 rfl) rfl ?_
              refine sw_get (v := .ref 1153) O (xx_dt dd_X5_packFrom 35 rfl) cl_X5 fl_X5_21 (ly_1006 s43 h) (by decide) rfl ?_
              refine sw_iload O (xx_dt dd_X5_packFrom 36 rfl) rfl ?_
              refine sw_iaload (v := .int (s43 1153 i43)) O (xx_dt dd_X5_packFrom 37 rfl) (ly_1153 s43 h) (pk_in i43 _ (by omega)) (by rw [nI_clamp (by omega)]; try exact rfl) ?_
              refine sw_aload_n O (xx_dt dd_X5_packFrom 38 rfl) rfl ?_
              refine sw_get (v := .ref 1152) O (xx_dt dd_X5_packFrom 39 rfl) cl_X5 fl_X5_18 (ly_1006 s43 h) (by decide) rfl ?_
              refine sw_iload_n O (xx_dt dd_X5_packFrom 40 rfl) rfl ?_
              refine sw_iaload (v := .int (s43 1152 i)) O (xx_dt dd_X5_packFrom 41 rfl) (ly_1152 s43 h) (pk_in i _ (by omega)) (by rw [nI_clamp (by omega)]; try exact rfl) ?_
              refine sw_iand O (xx_dt dd_X5_packFrom 42 rfl) ?_
              refine sw_if_ne (tgt := 120) O (xx_dt dd_X5_packFrom 43 rfl) (by decide) (fun q6 => ?_) (fun q6 => ?_)
              · refine sw_iinc (y := nI (i43 + 1)) (ls2 := [.ref 1006, .int (nI i), .int x, .int (nI ch), .int (nI u), .int (1 <<< ((nI i) &&& 31)), .int (nI (i43 + 1))]) O (xx_dt dd_X5_packFrom 75 rfl) rfl (nI_1 _) (by decide) rfl ?_
                refine sw_goto (tgt := 43) O (xx_dt dd_X5_packFrom 76 rfl) (by decide) ?_
                exact kk43 s43 (by simp only [if_neg q5, if_neg q6])
              · refine sw_aload_n O (xx_dt dd_X5_packFrom 44 rfl) rfl ?_
                refine sw_get (v := .ref 1153) O (xx_dt dd_X5_packFrom 45 rfl) cl_X5 fl_X5_21 (ly_1006 s43 h) (by decide) rfl ?_
                refine sw_iload O (xx_dt dd_X5_packFrom 46 rfl) rfl ?_
                refine sw_dup2 O (xx_dt dd_X5_packFrom 47 rfl) rfl rfl ?_
                refine sw_iaload (v := .int (s43 1153 i43)) O (xx_dt dd_X5_packFrom 48 rfl) (ly_1153 s43 h) (pk_in i43 _ (by omega)) (by rw [nI_clamp (by omega)]; try exact rfl) ?_
                refine sw_iload O (xx_dt dd_X5_packFrom 49 rfl) rfl ?_
                refine sw_ior O (xx_dt dd_X5_packFrom 50 rfl) ?_
                refine sw_iastore (h2 := setC (u2 s43 1153 i43 ((s43 1153 i43) ||| (1 <<< ((nI i) &&& 31)))) h) O (xx_dt dd_X5_packFrom 51 rfl) (ly_1153 s43 h) (pk_in i43 _ (by omega)) (by decide) (by rw [nI_clamp (by omega)]; exact pa_1153) ?_
                refine sw_aload_n O (xx_dt dd_X5_packFrom 52 rfl) rfl ?_
                refine sw_iload_n O (xx_dt dd_X5_packFrom 53 rfl) rfl ?_
                refine sw_iconst (x := 1) O (xx_dt dd_X5_packFrom 54 rfl) (by decide) ?_
                refine sw_iadd O (xx_dt dd_X5_packFrom 55 rfl) ?_
                rw [nI_a1 i]
                refine sw_iload_n O (xx_dt dd_X5_packFrom 56 rfl) rfl ?_
                refine sw_iload_n O (xx_dt dd_X5_packFrom 57 rfl) rfl ?_
                refine sw_iload O (xx_dt dd_X5_packFrom 58 rfl) rfl ?_
                refine sw_iload O (xx_dt dd_X5_packFrom 59 rfl) rfl ?_
                refine sw_iconst (x := 1) O (xx_dt dd_X5_packFrom 60 rfl) (by decide) ?_
                refine sw_iadd O (xx_dt dd_X5_packFrom 61 rfl) ?_
                rw [nI_a1 i43]
                refine sw_max O mm_X5_55 (xx_dt dd_X5_packFrom 62 rfl) (by omega) (Nat.le_of_ble_eq_true rfl) ?_
                rw [max_nat (a := u) (b := i43 + 1) (by omega) (by omega)]
                refine sw_callSx (as := [.ref 1006, .int (nI (i + 1)), .int x, .int (nI ch), .int (nI (max u (i43 + 1)))]) (st := []) (st2 := [.int (f_rec (u2 s43 1153 i43 ((s43 1153 i43) ||| (1 <<< ((nI i) &&& 31)))) (max u (i43 + 1)))]) O (ih (u2 s43 1153 i43 ((s43 1153 i43) ||| (1 <<< ((nI i) &&& 31)))) (max u (i43 + 1)) (by omega) (hP43)) ce_X5_packFrom ml_X5_51 st_X5_packFrom (xx_dt dd_X5_packFrom 63 rfl) (by first | decide | omega) rfl rfl (Nat.le_of_ble_eq_true rfl) rfl ?_
                refine sw_if_eq (tgt := 108) O (xx_dt dd_X5_packFrom 64 rfl) (by decide) (fun q7 => ?_) (fun q7 => ?_)
                · refine sw_aload_n O (xx_dt dd_X5_packFrom 67 rfl) rfl ?_
                  refine sw_get (v := .ref 1153) O (xx_dt dd_X5_packFrom 68 rfl) cl_X5 fl_X5_21 (ly_1006 (g_rec2 (u2 s43 1153 i43 ((s43 1153 i43) ||| (1 <<< ((nI i) &&& 31)))) (max u (i43 + 1))) h) (by decide) rfl ?_
                  refine sw_iload O (xx_dt dd_X5_packFrom 69 rfl) rfl ?_
                  refine sw_dup2 O (xx_dt dd_X5_packFrom 70 rfl) rfl rfl ?_
                  refine sw_iaload (v := .int ((g_rec2 (u2 s43 1153 i43 ((s43 1153 i43) ||| (1 <<< ((nI i) &&& 31)))) (max u (i43 + 1))) 1153 i43)) O (xx_dt dd_X5_packFrom 71 rfl) (ly_1153 (g_rec2 (u2 s43 1153 i43 ((s43 1153 i43) ||| (1 <<< ((nI i) &&& 31)))) (max u (i43 + 1))) h) (pk_in i43 _ (by omega)) (by rw [nI_clamp (by omega)]; try exact rfl) ?_
                  refine sw_iload O (xx_dt dd_X5_packFrom 72 rfl) rfl ?_
                  refine sw_isub O (xx_dt dd_X5_packFrom 73 rfl) ?_
                  refine sw_iastore (h2 := setC (u2 (g_rec2 (u2 s43 1153 i43 ((s43 1153 i43) ||| (1 <<< ((nI i) &&& 31)))) (max u (i43 + 1))) 1153 i43 (((g_rec2 (u2 s43 1153 i43 ((s43 1153 i43) ||| (1 <<< ((nI i) &&& 31)))) (max u (i43 + 1))) 1153 i43) - (1 <<< ((nI i) &&& 31)))) h) O (xx_dt dd_X5_packFrom 74 rfl) (ly_1153 (g_rec2 (u2 s43 1153 i43 ((s43 1153 i43) ||| (1 <<< ((nI i) &&& 31)))) (max u (i43 + 1))) h) (pk_in i43 _ (by omega)) (by decide) (by rw [nI_clamp (by omega)]; exact pa_1153) ?_
                  refine sw_iinc (y := nI (i43 + 1)) (ls2 := [.ref 1006, .int (nI i), .int x, .int (nI ch), .int (nI u), .int (1 <<< ((nI i) &&& 31)), .int (nI (i43 + 1))]) O (xx_dt dd_X5_packFrom 75 rfl) rfl (nI_1 _) (by decide) rfl ?_
                  refine sw_goto (tgt := 43) O (xx_dt dd_X5_packFrom 76 rfl) (by decide) ?_
                  exact kk43 (u2 (g_rec2 (u2 s43 1153 i43 ((s43 1153 i43) ||| (1 <<< ((nI i) &&& 31)))) (max u (i43 + 1))) 1153 i43 (((g_rec2 (u2 s43 1153 i43 ((s43 1153 i43) ||| (1 <<< ((nI i) &&& 31)))) (max u (i43 + 1))) 1153 i43) - (1 <<< ((nI i) &&& 31)))) (by simp only [if_neg q5, if_pos q6, if_pos q7])
                · refine sw_iconst (x := 1) O (xx_dt dd_X5_packFrom 65 rfl) (by decide) ?_
                  have kz := kr43 (g_rec2 (u2 s43 1153 i43 ((s43 1153 i43) ||| (1 <<< ((nI i) &&& 31)))) (max u (i43 + 1)), 1) (by simp only [if_neg q5, if_pos q6, if_neg q7])
                  exact sw_iret O (xx_dt dd_X5_packFrom 66 rfl) rfl rfl (by rw [hQ, kz.1, kz.2]; exact ⟨rfl, rfl⟩)
        · show SW Y _ _ (setC sN43 h) 43 [.ref 1006, .int (nI i), .int x, .int (nI ch), .int (nI u), .int (1 <<< ((nI i) &&& 31)), .int (nI ((u + 1)))] []
          refine sw_iload O (xx_dt dd_X5_packFrom 28 rfl) rfl ?_
          refine sw_iload O (xx_dt dd_X5_packFrom 29 rfl) rfl ?_
          refine sw_icmp_gt (tgt := 126) O (xx_dt dd_X5_packFrom 30 rfl) (by decide) (fun q4 => ?_) (fun q4 => ?_)
          · refine sw_iconst (x := 0) O (xx_dt dd_X5_packFrom 77 rfl) (by decide) ?_
            exact sw_iret O (xx_dt dd_X5_packFrom 78 rfl) rfl rfl (by rw [hQ]; exact ⟨by unfold f_packStep; simp only [if_neg q1, if_neg q3, x_packStep_43, eN43], by unfold g_packStep; simp only [if_neg q1, if_neg q3, x_packStep_43, eN43]⟩)
          · exact absurd (nI_lt (a := u) (b := (u + 1)) (by omega) (by omega)) q4
        · exact ⟨by unfold f_packStep; simp only [if_neg q1, if_neg q3, x_packStep_43, eN43], by unfold g_packStep; simp only [if_neg q1, if_neg q3, x_packStep_43, eN43]⟩
      · refine sw_aload_n O (xx_dt dd_X5_packFrom 17 rfl) rfl ?_
        refine sw_iload_n O (xx_dt dd_X5_packFrom 18 rfl) rfl ?_
        refine sw_iconst (x := 1) O (xx_dt dd_X5_packFrom 19 rfl) (by decide) ?_
        refine sw_iadd O (xx_dt dd_X5_packFrom 20 rfl) ?_
        rw [nI_a1 i]
        refine sw_iload_n O (xx_dt dd_X5_packFrom 21 rfl) rfl ?_
        refine sw_iload_n O (xx_dt dd_X5_packFrom 22 rfl) rfl ?_
        refine sw_iload O (xx_dt dd_X5_packFrom 23 rfl) rfl ?_
        refine sw_callSx (as := [.ref 1006, .int (nI (i + 1)), .int x, .int (nI ch), .int (nI u)]) (st := []) (st2 := [.int (f_rec σ u)]) O (ih (σ) u (by omega) (hC)) ce_X5_packFrom ml_X5_51 st_X5_packFrom (xx_dt dd_X5_packFrom 24 rfl) (by first | decide | omega) rfl rfl (Nat.le_of_ble_eq_true rfl) rfl ?_
        exact sw_iret O (xx_dt dd_X5_packFrom 25 rfl) rfl (xx_bool (hbo _ _)) (by rw [hQ]; exact ⟨by unfold f_packStep; simp only [if_neg q1, if_pos q3], by unfold g_packStep; simp only [if_neg q1, if_pos q3]⟩)
    · exact absurd q2 (fun e => e (nI_lt (a := i) (b := 10) (by omega) (by omega)))
def f_packBase (σ : XS9) (ch u : Nat) (x : Int32) (C : Nat) : Int32 := 1
def g_packBase (σ : XS9) (ch u : Nat) (x : Int32) (C : Nat) : XS9 := σ
theorem ct_X5_packBase {l : Launch} {h : XH} (hl : l.stackTraces = false) {σ : XS9} {ch u : Nat} {x : Int32} {C : Nat} (hC : σ 1006 1 = nI C) (hC10 : C ≤ 10)  : XEx l m_X5_packFrom 0 0 0 [.ref 1006, .int (nI 10), .int x, .int (nI ch), .int (nI u)] (setC σ h) (some (.int (f_packBase σ ch u x C))) (setC (g_packBase σ ch u x C) h) := by
  refine XMet.of hl rfl rfl (Nat.le_of_ble_eq_true rfl) (fun Y O hh hQ => ?_)
  show SW Y 0 0 (setC σ h) 0 [.ref 1006, .int (nI 10), .int x, .int (nI ch), .int (nI u), xx_d, xx_d] []
  refine sw_iload_n O (xx_dt dd_X5_packFrom 0 rfl) rfl ?_
  refine sw_aload_n O (xx_dt dd_X5_packFrom 1 rfl) rfl ?_
  refine sw_get (v := .int (nI C)) O (xx_dt dd_X5_packFrom 2 rfl) cl_X5 fl_X5_24 (ly_1006 σ h) (by decide) (congrArg Value.int hC) ?_
  refine sw_icmp_ge (tgt := 14) O (xx_dt dd_X5_packFrom 3 rfl) (by decide) (fun q1 => ?_) (fun q1 => ?_)
  · refine sw_iconst (x := 1) O (xx_dt dd_X5_packFrom 7 rfl) (by decide) ?_
    exact sw_iret O (xx_dt dd_X5_packFrom 8 rfl) rfl rfl (by rw [hQ]; exact ⟨by unfold f_packBase; rfl, by unfold g_packBase; rfl⟩)
  · exact absurd q1 (fun e => e ((nI_leI (a := C) (b := 10) (by omega) (by omega)).mpr hC10))
def fg_pack (ch : Nat) (x : Int32) (C : Nat) : Nat → Nat → (XS9 → Nat → Int32) × (XS9 → Nat → XS9)
  | 0, _ => (fun σ u => f_packBase σ ch u x C, fun σ u => g_packBase σ ch u x C)
  | f + 1, i => (fun σ u => f_packStep σ (fg_pack ch x C f (i + 1)).1 (fg_pack ch x C f (i + 1)).2 i ch u x C, fun σ u => g_packStep σ (fg_pack ch x C f (i + 1)).1 (fg_pack ch x C f (i + 1)).2 i ch u x C)
theorem xitR_all {S R : Type} {step : Nat → S → S ⊕ R} {P : R → Prop} (h : ∀ i s r, step i s = .inr r → P r) : ∀ (f i : Nat) (s : S) (r : R), xitR step f i s = .inr r → P r
  | 0, _, _, _, e => by cases e
  | f + 1, i, s, r, e => by
    unfold xitR at e
    cases e2 : step i s with
    | inl s' => rw [e2] at e; exact xitR_all h f (i + 1) s' r e
    | inr r' => rw [e2] at e; exact h i s r (e2.trans e)
theorem bo_pack {ch : Nat} {x : Int32} {C : Nat} : ∀ (f i : Nat) (σ : XS9) (u : Nat), (fg_pack ch x C f i).1 σ u = 0 ∨ (fg_pack ch x C f i).1 σ u = 1
  | 0, i, σ, u => .inr rfl
  | f + 1, i, σ, u => by
    show f_packStep σ (fg_pack ch x C f (i + 1)).1 (fg_pack ch x C f (i + 1)).2 i ch u x C = 0 ∨ f_packStep σ (fg_pack ch x C f (i + 1)).1 (fg_pack ch x C f (i + 1)).2 i ch u x C = 1
    unfold f_packStep
    split
    · exact .inr rfl
    · split
      · exact bo_pack f (i + 1) σ u
      · split
        · exact .inl rfl
        · rename_i r e
          unfold x_packStep_43 at e
          refine xitR_all (P := fun r : XS9 × Int32 => r.2 = 0 ∨ r.2 = 1) (fun i s r e => ?_) _ _ _ _ e
          revert e
          (try dsimp only)
          (repeat' split) <;> intro e <;> first | (have e9 := Sum.inr.inj e; rw [← e9]; first | exact .inl rfl | exact .inr rfl) | (cases e; done)
theorem fr_packStep {σ : XS9} {f_rec : XS9 → Nat → Int32} {g_rec2 : XS9 → Nat → XS9} (fr_rec2 : ∀ {σ : XS9} {u : Nat} {q : Nat}, q ≠ 1153 → g_rec2 σ u q = σ q) {i ch u : Nat} {x : Int32} {C q : Nat} (h : q ≠ 1153) : g_packStep σ f_rec g_rec2 i ch u x C q = σ q := by
  have H : ∀ s0, Sum.elim (fun s : XS9 => s q) (fun s : XS9 × Int32 => s.1 q) (x_packStep_43 σ f_rec g_rec2 i ch u x C s0) = s0 q := fun s0 => by
    unfold x_packStep_43
    exact xitR_keep (fun s : XS9 => s q) (fun s : XS9 × Int32 => s.1 q) (fun i s s' e => by
      revert e
      (try dsimp only)
      (repeat' split) <;> intro e <;> first | (have e9 := Sum.inl.inj e; refine (congrFun e9.symm q).trans ?_; first | rfl | (rw [u2_ne h, fr_rec2 h, u2_ne h])) | (cases e; done)) (fun i s r e => by
      revert e
      (try dsimp only)
      (repeat' split) <;> intro e <;> first | (have e9 := Sum.inr.inj e; refine (congrFun (congrArg Prod.fst e9.symm) q).trans ?_; first | rfl | (show g_rec2 _ _ q = _; rw [fr_rec2 h, u2_ne h])) | (cases e; done)) _ _ _
  unfold g_packStep
  split
  · rfl
  · split
    · exact fr_rec2 h
    · rw [← H σ]
      cases x_packStep_43 σ f_rec g_rec2 i ch u x C σ <;> rfl
theorem fr_pack {ch : Nat} {x : Int32} {C : Nat} : ∀ (f i : Nat) {σ : XS9} {u q : Nat}, q ≠ 1153 → (fg_pack ch x C f i).2 σ u q = σ q
  | 0, i, σ, u, q, h => rfl
  | f + 1, i, σ, u, q, h => fr_packStep (fun h' => fr_pack f (i + 1) h') h
theorem ct_pack {l : Launch} {h : XH} (hl : l.stackTraces = false) {ch C : Nat} {x : Int32} (hch : ch ≤ 6) (hC10 : C ≤ 10) : ∀ (f i : Nat), i + f = 10 → ∀ (σ : XS9) (u : Nat), u ≤ 6 → σ 1006 1 = nI C → XEx l m_X5_packFrom f 0 0 [.ref 1006, .int (nI i), .int x, .int (nI ch), .int (nI u)] (setC σ h) (some (.int ((fg_pack ch x C f i).1 σ u))) (setC ((fg_pack ch x C f i).2 σ u) h)
  | 0, i, e, σ, u, hu, hC => by
    obtain rfl : i = 10 := by omega
    exact ct_X5_packBase hl hC hC10
  | f + 1, i, e, σ, u, hu, hC => ct_X5_packStep hl (fun h' => fr_pack f (i + 1) h') (bo_pack f (i + 1)) (by omega) hch hu hC hC10 (d0 := f) (fun σ u hu hC => ct_pack hl hch hC10 f (i + 1) (by omega) σ u hu hC)
def f_packFrom (σ : XS9) (ch : Nat) (x : Int32) (C : Nat) : Int32 := (fg_pack ch x C 10 0).1 σ 0
def g_packFrom (σ : XS9) (ch : Nat) (x : Int32) (C : Nat) : XS9 := (fg_pack ch x C 10 0).2 σ 0
theorem fr_packFrom {σ : XS9} {ch : Nat} {x : Int32} {C q : Nat} (h : q ≠ 1153) : g_packFrom σ ch x C q = σ q := fr_pack 10 0 h
def f_packAgain (σ : XS9) (x : Int32) (ch C : Nat) : Int32 := f_packFrom (g_fill σ 1153 6 0) ch x C
def g_packAgain (σ : XS9) (x : Int32) (ch C : Nat) : XS9 := g_packFrom (g_fill σ 1153 6 0) ch x C
theorem ct_X5_packAgain {l : Launch} {h : XH} (hl : l.stackTraces = false) {σ : XS9} {C : Nat} (hC : σ 1006 1 = nI C) (hC10 : C ≤ 10) {x : Int32} {ch : Nat} (hch : ch ≤ 6) : XEx l m_X5_packAgain 11 0 0 [.ref 1006, .int x, .int (nI ch)] (setC σ h) (some (.int (f_packAgain σ x ch C))) (setC (g_packAgain σ x ch C) h) := by
  refine XMet.of hl rfl rfl (Nat.le_of_ble_eq_true rfl) (fun Y O hh hQ => ?_)
  show SW Y 0 0 (setC σ h) 0 [.ref 1006, .int x, .int (nI ch)] []
  refine sw_aload_n O (xx_dt dd_X5_packAgain 0 rfl) rfl ?_
  refine sw_get (v := .ref 1153) O (xx_dt dd_X5_packAgain 1 rfl) cl_X5 fl_X5_21 (ly_1006 σ h) (by decide) rfl ?_
  refine sw_iconst (x := 0) O (xx_dt dd_X5_packAgain 2 rfl) (by decide) ?_
  refine sw_callSx (as := [.ref 1153, .int 0]) (st := []) (st2 := []) O (ct_J7_fill_53178 hl ia_1153 (by omega)) ce_J7_fill_53178 ml_X5_45 st_J7_fill_53178 (xx_dt dd_X5_packAgain 3 rfl) (by first | decide | omega) rfl rfl (Nat.le_of_ble_eq_true rfl) rfl ?_
  refine sw_aload_n O (xx_dt dd_X5_packAgain 4 rfl) rfl ?_
  refine sw_iconst (x := 0) O (xx_dt dd_X5_packAgain 5 rfl) (by decide) ?_
  refine sw_iload_n O (xx_dt dd_X5_packAgain 6 rfl) rfl ?_
  refine sw_iload_n O (xx_dt dd_X5_packAgain 7 rfl) rfl ?_
  refine sw_iconst (x := 0) O (xx_dt dd_X5_packAgain 8 rfl) (by decide) ?_
  refine sw_callSx (as := [.ref 1006, .int 0, .int x, .int (nI ch), .int 0]) (st := []) (st2 := [.int (f_packFrom (g_fill σ 1153 6 0) ch x C)]) O (ct_pack hl (ch := ch) (x := x) (by omega) (C := C) (by omega) 10 0 rfl (g_fill σ 1153 6 0) 0 (by omega) ((congrFun (fr_fill (by omega)) 1).trans hC)) ce_X5_packFrom ml_X5_51 st_X5_packFrom (xx_dt dd_X5_packAgain 9 rfl) (by first | decide | omega) rfl rfl (Nat.le_of_ble_eq_true rfl) rfl ?_
  exact sw_iret O (xx_dt dd_X5_packAgain 10 rfl) rfl (xx_bool (bo_pack 10 0 _ _)) (by rw [hQ]; exact ⟨by unfold f_packAgain; rfl, by unfold g_packAgain; rfl⟩)
theorem fr_packAgain {σ : XS9} {x : Int32} {ch C q : Nat} (h : q ≠ 1153) : g_packAgain σ x ch C q = σ q := by
  unfold g_packAgain
  rw [fr_packFrom h, fr_fill h]
def f_pack (σ : XS9) (x : Int32) (ch C : Nat) (rg : Nat → Nat) : Int32 := f_packAgain (g_findDisturbed σ C rg) x ch C
def g_pack (σ : XS9) (x : Int32) (ch C : Nat) (rg : Nat → Nat) : XS9 := g_packAgain (g_findDisturbed σ C rg) x ch C
theorem ct_X5_pack {l : Launch} {h : XH} (hl : l.stackTraces = false) {σ : XS9} {C : Nat} (hC : σ 1006 1 = nI C) (hC10 : C ≤ 10) {rg : Nat → Nat} (hrg : ∀ i, i < C → σ 1151 i = nI (rg i) ∧ rg i < 5) {x : Int32} {ch : Nat} (hch : ch ≤ 6) : XEx l m_X5_pack 12 0 0 [.ref 1006, .ref 1001, .int x, .int (nI ch)] (setC σ h) (some (.int (f_pack σ x ch C rg))) (setC (g_pack σ x ch C rg) h) := by
  refine XMet.of hl rfl rfl (Nat.le_of_ble_eq_true rfl) (fun Y O hh hQ => ?_)
  show SW Y 0 0 (setC σ h) 0 [.ref 1006, .ref 1001, .int x, .int (nI ch)] []
  refine sw_aload_n O (xx_dt dd_X5_pack 0 rfl) rfl ?_
  refine sw_aload_n O (xx_dt dd_X5_pack 1 rfl) rfl ?_
  refine sw_callVx (as := [.ref 1001]) (st := []) (st2 := []) O (ct_X5_findDisturbed hl (σ := σ) (C := C) hC (by omega) (rg := rg) hrg) ce_X5_findDisturbed ml_X5_28 iv_X5_findDisturbed cl_X5 rfl (ly_1006 σ h) (xx_dt dd_X5_pack 2 rfl) (by first | decide | omega) rfl rfl (Nat.le_of_ble_eq_true rfl) rfl ?_
  refine sw_aload_n O (xx_dt dd_X5_pack 3 rfl) rfl ?_
  refine sw_iload_n O (xx_dt dd_X5_pack 4 rfl) rfl ?_
  refine sw_iload_n O (xx_dt dd_X5_pack 5 rfl) rfl ?_
  refine sw_callVx (as := [.int x, .int (nI ch)]) (st := []) (st2 := [.int (f_packAgain (g_findDisturbed σ C rg) x ch C)]) O (ct_X5_packAgain hl (σ := g_findDisturbed σ C rg) (C := C) ((congrFun (fr_findDisturbed (by omega)) 1).trans hC) (by omega) (x := x) (ch := ch) (by omega)) ce_X5_packAgain ml_X5_32 iv_X5_packAgain cl_X5 rfl (ly_1006 (g_findDisturbed σ C rg) h) (xx_dt dd_X5_pack 6 rfl) (by first | decide | omega) rfl rfl (Nat.le_of_ble_eq_true rfl) rfl ?_
  exact sw_iret O (xx_dt dd_X5_pack 7 rfl) rfl (xx_bool (bo_pack 10 0 _ _)) (by rw [hQ]; exact ⟨by unfold f_pack; rfl, by unfold g_pack; rfl⟩)
def x_cheapest_27 (σ : XS9) (ch C : Nat) (rg : Nat → Nat) (s0 : XS9 × Int32 × Int32) : XS9 × Int32 × Int32 := xit (fun i27 s27 => (if s27.2.2 ≤ (f_asksOf s27.1 (nI i27) C) then (s27.1, s27.2.1, s27.2.2) else (if (f_packAgain s27.1 ((nI (2 ^ C - 1)) - (nI i27)) ch C) = 0 then (g_packAgain s27.1 ((nI (2 ^ C - 1)) - (nI i27)) ch C, s27.2.1, s27.2.2) else (g_packAgain s27.1 ((nI (2 ^ C - 1)) - (nI i27)) ch C, nI i27, f_asksOf s27.1 (nI i27) C)))) (2 ^ C - 1) 0 s0
def f_cheapest (σ : XS9) (ch C : Nat) (rg : Nat → Nat) : Int32 := (x_cheapest_27 σ ch C rg (g_findDisturbed σ C rg, nI (2 ^ C - 1), f_asksOf (g_findDisturbed σ C rg) (nI (2 ^ C - 1)) C)).2.1
def g_cheapest (σ : XS9) (ch C : Nat) (rg : Nat → Nat) : XS9 := (x_cheapest_27 σ ch C rg (g_findDisturbed σ C rg, nI (2 ^ C - 1), f_asksOf (g_findDisturbed σ C rg) (nI (2 ^ C - 1)) C)).1
theorem ct_X5_cheapest {l : Launch} {h : XH} (hl : l.stackTraces = false) {σ : XS9} {C : Nat} (hC : σ 1006 1 = nI C) (hC10 : C ≤ 10) {rg : Nat → Nat} (hrg : ∀ i, i < C → σ 1151 i = nI (rg i) ∧ rg i < 5) {ch : Nat} (hch : ch ≤ 6) : XEx l m_X5_cheapest 12 0 0 [.ref 1006, .ref 1001, .int (nI ch)] (setC σ h) (some (.int (f_cheapest σ ch C rg))) (setC (g_cheapest σ ch C rg) h) := by
  refine XMet.of hl rfl rfl (Nat.le_of_ble_eq_true rfl) (fun Y O hh hQ => ?_)
  show SW Y 0 0 (setC σ h) 0 [.ref 1006, .ref 1001, .int (nI ch), xx_d, xx_d, xx_d, xx_d, xx_d] []
  refine sw_aload_n O (xx_dt dd_X5_cheapest 0 rfl) rfl ?_
  refine sw_aload_n O (xx_dt dd_X5_cheapest 1 rfl) rfl ?_
  refine sw_callVx (as := [.ref 1001]) (st := []) (st2 := []) O (ct_X5_findDisturbed hl (σ := σ) (C := C) hC (by omega) (rg := rg) hrg) ce_X5_findDisturbed ml_X5_28 iv_X5_findDisturbed cl_X5 rfl (ly_1006 σ h) (xx_dt dd_X5_cheapest 2 rfl) (by first | decide | omega) rfl rfl (Nat.le_of_ble_eq_true rfl) rfl ?_
  refine sw_iconst (x := 1) O (xx_dt dd_X5_cheapest 3 rfl) (by decide) ?_
  refine sw_aload_n O (xx_dt dd_X5_cheapest 4 rfl) rfl ?_
  refine sw_get (v := .int (nI C)) O (xx_dt dd_X5_cheapest 5 rfl) cl_X5 fl_X5_24 (ly_1006 (g_findDisturbed σ C rg) h) (by decide) (congrArg Value.int ((congrFun (fr_findDisturbed (by omega)) 1).trans hC)) ?_
  refine sw_ishl O (xx_dt dd_X5_cheapest 6 rfl) ?_
  refine sw_iconst (x := 1) O (xx_dt dd_X5_cheapest 7 rfl) (by decide) ?_
  refine sw_isub O (xx_dt dd_X5_cheapest 8 rfl) ?_
  have hx12 := pow10 hC10
  rw [all_nat hC10]
  refine sw_istore_n (ls2 := [.ref 1006, .ref 1001, .int (nI ch), .int (nI (2 ^ C - 1)), xx_d, xx_d, xx_d, xx_d]) O (xx_dt dd_X5_cheapest 9 rfl) (by decide) rfl ?_
  refine sw_iload_n O (xx_dt dd_X5_cheapest 10 rfl) rfl ?_
  refine sw_istore (ls2 := [.ref 1006, .ref 1001, .int (nI ch), .int (nI (2 ^ C - 1)), .int (nI (2 ^ C - 1)), xx_d, xx_d, xx_d]) O (xx_dt dd_X5_cheapest 11 rfl) (by decide) rfl ?_
  refine sw_aload_n O (xx_dt dd_X5_cheapest 12 rfl) rfl ?_
  refine sw_iload_n O (xx_dt dd_X5_cheapest 13 rfl) rfl ?_
  refine sw_callVx (as := [.int (nI (2 ^ C - 1))]) (st := []) (st2 := [.int (f_asksOf (g_findDisturbed σ C rg) (nI (2 ^ C - 1)) C)]) O (ct_X5_asksOf hl (σ := g_findDisturbed σ C rg) (C := C) ((congrFun (fr_findDisturbed (by omega)) 1).trans hC) (by omega) (x := nI (2 ^ C - 1))) ce_X5_asksOf ml_X5_36 iv_X5_asksOf cl_X5 rfl (ly_1006 (g_findDisturbed σ C rg) h) (xx_dt dd_X5_cheapest 14 rfl) (by first | decide | omega) rfl rfl (Nat.le_of_ble_eq_true rfl) rfl ?_
  refine sw_istore (ls2 := [.ref 1006, .ref 1001, .int (nI ch), .int (nI (2 ^ C - 1)), .int (nI (2 ^ C - 1)), .int (f_asksOf (g_findDisturbed σ C rg) (nI (2 ^ C - 1)) C), xx_d, xx_d]) O (xx_dt dd_X5_cheapest 15 rfl) (by decide) rfl ?_
  refine sw_iconst (x := 0) O (xx_dt dd_X5_cheapest 16 rfl) (by decide) ?_
  refine sw_istore (ls2 := [.ref 1006, .ref 1001, .int (nI ch), .int (nI (2 ^ C - 1)), .int (nI (2 ^ C - 1)), .int (f_asksOf (g_findDisturbed σ C rg) (nI (2 ^ C - 1)) C), .int 0, xx_d]) O (xx_dt dd_X5_cheapest 17 rfl) (by decide) rfl ?_
  refine sw_for (fun i27 s27 => (if s27.2.2 ≤ (f_asksOf s27.1 (nI i27) C) then (s27.1, s27.2.1, s27.2.2) else (if (f_packAgain s27.1 ((nI (2 ^ C - 1)) - (nI i27)) ch C) = 0 then (g_packAgain s27.1 ((nI (2 ^ C - 1)) - (nI i27)) ch C, s27.2.1, s27.2.2) else (g_packAgain s27.1 ((nI (2 ^ C - 1)) - (nI i27)) ch C, nI i27, f_asksOf s27.1 (nI i27) C)))) (fun _ s27 => s27.1 1006 1 = nI C) (hp := fun s27 => setC s27.1 h) (hd := 27) (lc := fun i27 s27 => [.ref 1006, .ref 1001, .int (nI ch), .int (nI (2 ^ C - 1)), .int s27.2.1, .int s27.2.2, .int (nI i27), xx_d]) (N := (2 ^ C - 1)) (fun i27 s27 hi27 hP27 => ⟨(by (try dsimp only); (repeat' split) <;> first | exact hP27 | (simp (disch := omega) only [u2_ne, uR_ne, fr_fill, fr_useWaiver, fr_undoContradictions, fr_lowerEligible, fr_moveHeld, fr_raisePrices, fr_begin, fr_closeRound, fr_moveTaken, fr_findDisturbed, fr_addRegion, fr_addBidder, fr_take, fr_giveBack, fr_keepIfBetter, fr_findWinners, fr_leaveOut, fr_raiseEach, fr_raiseOutside, fr_find, fr_giveByTurn, fr_packFrom, fr_packAgain]; exact hP27)), fun kk27 => ?_⟩) (2 ^ C - 1) 0 (g_findDisturbed σ C rg, nI (2 ^ C - 1), f_asksOf (g_findDisturbed σ C rg) (nI (2 ^ C - 1)) C) (by omega) (((congrFun (fr_findDisturbed (by omega)) 1).trans hC)) (fun hP27 => ?_)
  · refine sw_iload O (xx_dt dd_X5_cheapest 18 rfl) rfl ?_
    refine sw_iload_n O (xx_dt dd_X5_cheapest 19 rfl) rfl ?_
    refine sw_icmp_ge (tgt := 74) O (xx_dt dd_X5_cheapest 20 rfl) (by decide) (fun q1 => ?_) (fun q1 => ?_)
    · exact absurd q1 (nI_ge (b := (2 ^ C - 1)) hi27 (by omega))
    · refine sw_aload_n O (xx_dt dd_X5_cheapest 21 rfl) rfl ?_
      refine sw_iload O (xx_dt dd_X5_cheapest 22 rfl) rfl ?_
      refine sw_callVx (as := [.int (nI i27)]) (st := []) (st2 := [.int (f_asksOf s27.1 (nI i27) C)]) O (ct_X5_asksOf hl (σ := s27.1) (C := C) hP27 (by omega) (x := nI i27)) ce_X5_asksOf ml_X5_36 iv_X5_asksOf cl_X5 rfl (ly_1006 s27.1 h) (xx_dt dd_X5_cheapest 23 rfl) (by first | decide | omega) rfl rfl (Nat.le_of_ble_eq_true rfl) rfl ?_
      refine sw_istore (ls2 := [.ref 1006, .ref 1001, .int (nI ch), .int (nI (2 ^ C - 1)), .int s27.2.1, .int s27.2.2, .int (nI i27), .int (f_asksOf s27.1 (nI i27) C)]) O (xx_dt dd_X5_cheapest 24 rfl) (by decide) rfl ?_
      refine sw_iload O (xx_dt dd_X5_cheapest 25 rfl) rfl ?_
      refine sw_iload O (xx_dt dd_X5_cheapest 26 rfl) rfl ?_
      refine sw_icmp_ge (tgt := 68) O (xx_dt dd_X5_cheapest 27 rfl) (by decide) (fun q2 => ?_) (fun q2 => ?_)
      · refine sw_iinc (y := nI (i27 + 1)) (ls2 := [.ref 1006, .ref 1001, .int (nI ch), .int (nI (2 ^ C - 1)), .int s27.2.1, .int s27.2.2, .int (nI (i27 + 1)), .int (f_asksOf s27.1 (nI i27) C)]) O (xx_dt dd_X5_cheapest 39 rfl) rfl (nI_1 _) (by decide) rfl ?_
        refine sw_goto (tgt := 27) O (xx_dt dd_X5_cheapest 40 rfl) (by decide) ?_
        refine sw_dum (ls2 := [.ref 1006, .ref 1001, .int (nI ch), .int (nI (2 ^ C - 1)), .int s27.2.1, .int s27.2.2, .int (nI (i27 + 1)), xx_d]) ⟨.inr rfl, .inr rfl, .inr rfl, .inr rfl, .inr rfl, .inr rfl, .inr rfl, .inl rfl, trivial⟩ ?_
        simp only [if_pos q2] at kk27
        exact kk27
      · refine sw_aload_n O (xx_dt dd_X5_cheapest 28 rfl) rfl ?_
        refine sw_iload_n O (xx_dt dd_X5_cheapest 29 rfl) rfl ?_
        refine sw_iload O (xx_dt dd_X5_cheapest 30 rfl) rfl ?_
        refine sw_isub O (xx_dt dd_X5_cheapest 31 rfl) ?_
        refine sw_iload_n O (xx_dt dd_X5_cheapest 32 rfl) rfl ?_
        refine sw_callVx (as := [.int ((nI (2 ^ C - 1)) - (nI i27)), .int (nI ch)]) (st := []) (st2 := [.int (f_packAgain s27.1 ((nI (2 ^ C - 1)) - (nI i27)) ch C)]) O (ct_X5_packAgain hl (σ := s27.1) (C := C) hP27 (by omega) (x := (nI (2 ^ C - 1)) - (nI i27)) (ch := ch) (by omega)) ce_X5_packAgain ml_X5_32 iv_X5_packAgain cl_X5 rfl (ly_1006 s27.1 h) (xx_dt dd_X5_cheapest 33 rfl) (by first | decide | omega) rfl rfl (Nat.le_of_ble_eq_true rfl) rfl ?_
        refine sw_if_eq (tgt := 68) O (xx_dt dd_X5_cheapest 34 rfl) (by decide) (fun q3 => ?_) (fun q3 => ?_)
        · refine sw_iinc (y := nI (i27 + 1)) (ls2 := [.ref 1006, .ref 1001, .int (nI ch), .int (nI (2 ^ C - 1)), .int s27.2.1, .int s27.2.2, .int (nI (i27 + 1)), .int (f_asksOf s27.1 (nI i27) C)]) O (xx_dt dd_X5_cheapest 39 rfl) rfl (nI_1 _) (by decide) rfl ?_
          refine sw_goto (tgt := 27) O (xx_dt dd_X5_cheapest 40 rfl) (by decide) ?_
          refine sw_dum (ls2 := [.ref 1006, .ref 1001, .int (nI ch), .int (nI (2 ^ C - 1)), .int s27.2.1, .int s27.2.2, .int (nI (i27 + 1)), xx_d]) ⟨.inr rfl, .inr rfl, .inr rfl, .inr rfl, .inr rfl, .inr rfl, .inr rfl, .inl rfl, trivial⟩ ?_
          simp only [if_neg q2, if_pos q3] at kk27
          exact kk27
        · refine sw_iload O (xx_dt dd_X5_cheapest 35 rfl) rfl ?_
          refine sw_istore (ls2 := [.ref 1006, .ref 1001, .int (nI ch), .int (nI (2 ^ C - 1)), .int (nI i27), .int s27.2.2, .int (nI i27), .int (f_asksOf s27.1 (nI i27) C)]) O (xx_dt dd_X5_cheapest 36 rfl) (by decide) rfl ?_
          refine sw_iload O (xx_dt dd_X5_cheapest 37 rfl) rfl ?_
          refine sw_istore (ls2 := [.ref 1006, .ref 1001, .int (nI ch), .int (nI (2 ^ C - 1)), .int (nI i27), .int (f_asksOf s27.1 (nI i27) C), .int (nI i27), .int (f_asksOf s27.1 (nI i27) C)]) O (xx_dt dd_X5_cheapest 38 rfl) (by decide) rfl ?_
          refine sw_iinc (y := nI (i27 + 1)) (ls2 := [.ref 1006, .ref 1001, .int (nI ch), .int (nI (2 ^ C - 1)), .int (nI i27), .int (f_asksOf s27.1 (nI i27) C), .int (nI (i27 + 1)), .int (f_asksOf s27.1 (nI i27) C)]) O (xx_dt dd_X5_cheapest 39 rfl) rfl (nI_1 _) (by decide) rfl ?_
          refine sw_goto (tgt := 27) O (xx_dt dd_X5_cheapest 40 rfl) (by decide) ?_
          refine sw_dum (ls2 := [.ref 1006, .ref 1001, .int (nI ch), .int (nI (2 ^ C - 1)), .int (nI i27), .int (f_asksOf s27.1 (nI i27) C), .int (nI (i27 + 1)), xx_d]) ⟨.inr rfl, .inr rfl, .inr rfl, .inr rfl, .inr rfl, .inr rfl, .inr rfl, .inl rfl, trivial⟩ ?_
          simp only [if_neg q2, if_neg q3] at kk27
          exact kk27
  · show SW Y _ _ (setC ((x_cheapest_27 σ ch C rg (g_findDisturbed σ C rg, nI (2 ^ C - 1), f_asksOf (g_findDisturbed σ C rg) (nI (2 ^ C - 1)) C)).1) h) 27 [.ref 1006, .ref 1001, .int (nI ch), .int (nI (2 ^ C - 1)), .int ((x_cheapest_27 σ ch C rg (g_findDisturbed σ C rg, nI (2 ^ C - 1), f_asksOf (g_findDisturbed σ C rg) (nI (2 ^ C - 1)) C)).2.1), .int ((x_cheapest_27 σ ch C rg (g_findDisturbed σ C rg, nI (2 ^ C - 1), f_asksOf (g_findDisturbed σ C rg) (nI (2 ^ C - 1)) C)).2.2), .int (nI ((2 ^ C - 1))), xx_d] []
    refine sw_iload O (xx_dt dd_X5_cheapest 18 rfl) rfl ?_
    refine sw_iload_n O (xx_dt dd_X5_cheapest 19 rfl) rfl ?_
    refine sw_icmp_ge (tgt := 74) O (xx_dt dd_X5_cheapest 20 rfl) (by decide) (fun q1 => ?_) (fun q1 => ?_)
    · refine sw_iload O (xx_dt dd_X5_cheapest 41 rfl) rfl ?_
      exact sw_iret O (xx_dt dd_X5_cheapest 42 rfl) rfl rfl (by rw [hQ]; exact ⟨by unfold f_cheapest; rfl, by unfold g_cheapest; rfl⟩)
    · exact absurd (Int32.le_refl _) q1
theorem fr_cheapest {σ : XS9} {ch C : Nat} {rg : Nat → Nat} {q : Nat} (h : q ≠ 1152 ∧ q ≠ 1153) : g_cheapest σ ch C rg q = σ q := by
  have H : ∀ s0, (x_cheapest_27 σ ch C rg s0).1 q = s0.1 q := fun s0 => xit_keep (fun s : XS9 × Int32 × Int32 => s.1 q) (fun i s => by (try dsimp only); (repeat' split) <;> (try dsimp only) <;> first | rfl | exact fr_packAgain h.2) _ _ _
  unfold g_cheapest
  exact (H _).trans (fr_findDisturbed h.1)
theorem fr_packM {σ : XS9} {x : Int32} {ch C : Nat} {rg : Nat → Nat} {q : Nat} (h : q ≠ 1152 ∧ q ≠ 1153) : g_pack σ x ch C rg q = σ q := by
  unfold g_pack
  rw [fr_packAgain h.2, fr_findDisturbed h.1]
