/-! ===== the market: all choices ===== -/
theorem fr_keepIfBetter {σ : XS9} {S : Nat} {x : Int32} {q : Nat} (h : q ≠ 1042 ∧ q ≠ 1051 + S) : g_keepIfBetter σ S x q = σ q := by
  unfold g_keepIfBetter
  (repeat' split) <;> first | rfl | simp (disch := omega) only [u2_ne, uR_ne]
/-! a choice is under way -/
def x_pickStep_45 (σ : XS9) (g_rec : XS9 → Nat → Int32 → XS9) (i fx S : Nat) (x : Int32) (R B : Nat) (gr cnt : Nat → Nat) (s0 : XS9) : XS9 := xit (fun i45 s45 => (if (f_fits s45 i (s45 (1022 + i) i45) R gr) = 0 then s45 else g_giveBack (g_rec (g_take s45 i i45 R gr) (S ||| 2 ^ i) (x + (s45 (1031 + i) i45))) i i45 R gr)) (cnt i) 0 s0
def g_pickStep (σ : XS9) (g_rec : XS9 → Nat → Int32 → XS9) (i fx S : Nat) (x : Int32) (R B : Nat) (gr cnt : Nat → Nat) : XS9 := (if (nI B) ≤ (nI i) then g_keepIfBetter σ S x else (if (nI i) = (nI fx) then g_rec σ S x else (x_pickStep_45 σ g_rec i fx S x R B gr cnt (g_rec σ S x))))
theorem ct_X2_pickStep {l : Launch} {h : XH} (hl : l.stackTraces = false) {σ : XS9} {g_rec : XS9 → Nat → Int32 → XS9} (fr_rec : ∀ {σ : XS9} {S : Nat} {x : Int32} {q : Nat}, (S < 64 ∧ q ≠ 1042 ∧ q ≠ 1043 ∧ q ≠ 1044 ∧ (q < 1051 ∨ 1114 < q) ∧ (q < 1121 ∨ 1124 < q)) → g_rec σ S x q = σ q) {i fx S : Nat} {x : Int32} (hi : i < 6) (hf : fx < 6) (hS : S < 64) (hor : S ||| 2 ^ i < 64) {B : Nat} (hB : σ 1001 9 = nI B) (hB6 : B ≤ 6) {R : Nat} (hR : σ 1001 4 = nI R) (hR5 : R ≤ 5) {gr : Nat → Nat} (hgr : ∀ i, i < 6 → σ 1017 i = nI (gr i) ∧ gr i < 4) {cnt : Nat → Nat} (hct : ∀ i, i < 6 → σ 1020 i = nI (cnt i) ∧ cnt i ≤ 6) {d0 : Nat} (hd0 : 2 ≤ d0) (ih : ∀ (σ : XS9) (S : Nat) (y x : Int32), y = nI S → S < 64 → σ 1001 9 = nI B → σ 1001 4 = nI R → (∀ i, i < 6 → σ 1017 i = nI (gr i) ∧ gr i < 4) → (∀ i, i < 6 → σ 1020 i = nI (cnt i) ∧ cnt i ≤ 6) → XEx l m_X2_pickFrom d0 0 0 [.ref 1003, .ref 1001, .int (nI (i + 1)), .int (nI fx), .int y, .int x] (setC σ h) none (setC (g_rec σ S x) h)) : XEx l m_X2_pickFrom (d0 + 1) 0 0 [.ref 1003, .ref 1001, .int (nI i), .int (nI fx), .int (nI S), .int x] (setC σ h) (none) (setC (g_pickStep σ g_rec i fx S x R B gr cnt) h) := by
  refine XMet.of hl rfl rfl (Nat.le_of_ble_eq_true rfl) (fun Y O hh hQ => ?_)
  show SW Y 0 0 (setC σ h) 0 [.ref 1003, .ref 1001, .int (nI i), .int (nI fx), .int (nI S), .int x, xx_d] []
  refine sw_iload_n O (xx_dt dd_X2_pickFrom 0 rfl) rfl ?_
  refine sw_aload_n O (xx_dt dd_X2_pickFrom 1 rfl) rfl ?_
  refine sw_get (v := .int (nI B)) O (xx_dt dd_X2_pickFrom 2 rfl) cl_X6 fl_X2_78 (ly_1001 σ h) (by decide) (congrArg Value.int hB) ?_
  refine sw_icmp_ge (tgt := 14) O (xx_dt dd_X2_pickFrom 3 rfl) (by decide) (fun q1 => ?_) (fun q1 => ?_)
  · refine sw_aload_n O (xx_dt dd_X2_pickFrom 7 rfl) rfl ?_
    refine sw_iload O (xx_dt dd_X2_pickFrom 8 rfl) rfl ?_
    refine sw_iload O (xx_dt dd_X2_pickFrom 9 rfl) rfl ?_
    refine sw_callVx (as := [.int (nI S), .int x]) (st := []) (st2 := []) O (ct_X2_keepIfBetter hl (σ := σ) (S := S) (x := x) (by omega)) ce_X2_keepIfBetter ml_X2_83 iv_X2_keepIfBetter cl_X2 rfl (ly_1003 σ h) (xx_dt dd_X2_pickFrom 10 rfl) (by first | decide | omega) rfl rfl (Nat.le_of_ble_eq_true rfl) rfl ?_
    exact sw_ret O (xx_dt dd_X2_pickFrom 11 rfl) rfl (by rw [hQ]; exact ⟨rfl, by unfold g_pickStep; simp only [if_pos q1]⟩)
  · refine sw_iload_n O (xx_dt dd_X2_pickFrom 4 rfl) rfl ?_
    refine sw_bipush (x := 6) O (xx_dt dd_X2_pickFrom 5 rfl) (by decide) ?_
    refine sw_icmp_lt (tgt := 23) O (xx_dt dd_X2_pickFrom 6 rfl) (by decide) (fun q2 => ?_) (fun q2 => ?_)
    · refine sw_aload_n O (xx_dt dd_X2_pickFrom 12 rfl) rfl ?_
      refine sw_aload_n O (xx_dt dd_X2_pickFrom 13 rfl) rfl ?_
      refine sw_iload_n O (xx_dt dd_X2_pickFrom 14 rfl) rfl ?_
      refine sw_iconst (x := 1) O (xx_dt dd_X2_pickFrom 15 rfl) (by decide) ?_
      refine sw_iadd O (xx_dt dd_X2_pickFrom 16 rfl) ?_
      rw [nI_a1 i]
      refine sw_iload_n O (xx_dt dd_X2_pickFrom 17 rfl) rfl ?_
      refine sw_iload O (xx_dt dd_X2_pickFrom 18 rfl) rfl ?_
      refine sw_iload O (xx_dt dd_X2_pickFrom 19 rfl) rfl ?_
      refine sw_callSx (as := [.ref 1003, .ref 1001, .int (nI (i + 1)), .int (nI fx), .int (nI S), .int x]) (st := []) (st2 := []) O (ih (σ) S (nI S) x rfl (by omega) (hB) (hR) hgr hct) ce_X2_pickFrom ml_X2_68 st_X2_pickFrom (xx_dt dd_X2_pickFrom 20 rfl) (by first | decide | omega) rfl rfl (Nat.le_of_ble_eq_true rfl) rfl ?_
      refine sw_iload_n O (xx_dt dd_X2_pickFrom 21 rfl) rfl ?_
      refine sw_iload_n O (xx_dt dd_X2_pickFrom 22 rfl) rfl ?_
      refine sw_icmp_ne (tgt := 42) O (xx_dt dd_X2_pickFrom 23 rfl) (by decide) (fun q3 => ?_) (fun q3 => ?_)
      · refine sw_iconst (x := 0) O (xx_dt dd_X2_pickFrom 25 rfl) (by decide) ?_
        refine sw_istore (ls2 := [.ref 1003, .ref 1001, .int (nI i), .int (nI fx), .int (nI S), .int x, .int 0]) O (xx_dt dd_X2_pickFrom 26 rfl) (by decide) rfl ?_
        refine sw_for (fun i45 s45 => (if (f_fits s45 i (s45 (1022 + i) i45) R gr) = 0 then s45 else g_giveBack (g_rec (g_take s45 i i45 R gr) (S ||| 2 ^ i) (x + (s45 (1031 + i) i45))) i i45 R gr)) (fun _ s45 => s45 1001 4 = nI R ∧ s45 1001 9 = nI B ∧ s45 1017 = σ 1017 ∧ s45 1020 = σ 1020) (hp := fun s45 => setC s45 h) (hd := 45) (lc := fun i45 s45 => [.ref 1003, .ref 1001, .int (nI i), .int (nI fx), .int (nI S), .int x, .int (nI i45)]) (N := (cnt i)) (fun i45 s45 hi45 hP45 => ⟨(by (try dsimp only); (repeat' split) <;> (refine ⟨?_, ?_, ?_, ?_⟩ <;> (first | exact hP45.1 | exact hP45.2.1 | exact hP45.2.2.1 | exact hP45.2.2.2 | exact hi45 | exact .inl rfl | exact .inr rfl | (simp (disch := omega) only [u2_ne, uR_ne, fr_fill, fr_useWaiver, fr_undoContradictions, fr_lowerEligible, fr_moveHeld, fr_raisePrices, fr_begin, fr_closeRound, fr_moveTaken, fr_findDisturbed, fr_addRegion, fr_addBidder, fr_take, fr_giveBack, fr_keepIfBetter, fr_rec]; first | exact hP45.1 | exact hP45.2.1 | exact hP45.2.2.1 | exact hP45.2.2.2)))), fun kk45 => ?_⟩) (cnt i) 0 (g_rec σ S x) (by omega) (⟨((congrFun (fr_rec (by omega)) 4).trans hR), ((congrFun (fr_rec (by omega)) 9).trans hB), (fr_rec (by omega)), (fr_rec (by omega))⟩) (fun hP45 => ?_)
        · refine sw_iload O (xx_dt dd_X2_pickFrom 27 rfl) rfl ?_
          refine sw_aload_n O (xx_dt dd_X2_pickFrom 28 rfl) rfl ?_
          refine sw_get (v := .ref 1020) O (xx_dt dd_X2_pickFrom 29 rfl) cl_X2 fl_X2_9 (ly_1003 s45 h) (by decide) rfl ?_
          refine sw_iload_n O (xx_dt dd_X2_pickFrom 30 rfl) rfl ?_
          have hz52 := (hct i (by omega)).2
          refine sw_iaload (v := .int (nI (cnt i))) O (xx_dt dd_X2_pickFrom 31 rfl) (ly_1020 s45 h) (pk_in i _ (by omega)) (by rw [nI_clamp (by omega)]; exact (congrArg Value.int ((congrFun hP45.2.2.2 i).trans (hct i (by omega)).1))) ?_
          refine sw_icmp_ge (tgt := 123) O (xx_dt dd_X2_pickFrom 32 rfl) (by decide) (fun q4 => ?_) (fun q4 => ?_)
          · exact absurd q4 (nI_ge (b := (cnt i)) hi45 (by omega))
          · refine sw_aload_n O (xx_dt dd_X2_pickFrom 33 rfl) rfl ?_
            refine sw_aload_n O (xx_dt dd_X2_pickFrom 34 rfl) rfl ?_
            refine sw_iload_n O (xx_dt dd_X2_pickFrom 35 rfl) rfl ?_
            refine sw_aload_n O (xx_dt dd_X2_pickFrom 36 rfl) rfl ?_
            refine sw_get (v := .ref 1021) O (xx_dt dd_X2_pickFrom 37 rfl) cl_X2 fl_X2_17 (ly_1003 s45 h) (by decide) rfl ?_
            refine sw_iload_n O (xx_dt dd_X2_pickFrom 38 rfl) rfl ?_
            refine sw_aaload (v := .ref (1022 + i)) O (xx_dt dd_X2_pickFrom 39 rfl) (by omega) (by omega) (ly_1021 s45 h) (pk_in i _ (by omega)) (by rw [nI_clamp (by omega)]; try exact rfl) ?_
            refine sw_iload O (xx_dt dd_X2_pickFrom 40 rfl) rfl ?_
            refine sw_iaload (v := .int (s45 (1022 + i) i45)) O (xx_dt dd_X2_pickFrom 41 rfl) (lr_1021 s45 h (k := i) (by omega)) (pk_in i45 _ (by omega)) (by rw [nI_clamp (by omega)]; try exact rfl) ?_
            refine sw_callVx (as := [.ref 1001, .int (nI i), .int (s45 (1022 + i) i45)]) (st := []) (st2 := [.int (f_fits s45 i (s45 (1022 + i) i45) R gr)]) O (ct_X2_fits hl (σ := s45) (R := R) hP45.1 (by omega) (gr := gr) (fun j9 hj9 => by rw [show s45 1017 = σ 1017 from hP45.2.2.1]; exact hgr j9 hj9) (i := i) (x := s45 (1022 + i) i45) (by omega)) ce_X2_fits ml_X2_60 iv_X2_fits cl_X2 rfl (ly_1003 s45 h) (xx_dt dd_X2_pickFrom 42 rfl) (by first | decide | omega) rfl rfl (Nat.le_of_ble_eq_true rfl) rfl ?_
            refine sw_if_eq (tgt := 117) O (xx_dt dd_X2_pickFrom 43 rfl) (by decide) (fun q5 => ?_) (fun q5 => ?_)
            · refine sw_iinc (y := nI (i45 + 1)) (ls2 := [.ref 1003, .ref 1001, .int (nI i), .int (nI fx), .int (nI S), .int x, .int (nI (i45 + 1))]) O (xx_dt dd_X2_pickFrom 74 rfl) rfl (nI_1 _) (by decide) rfl ?_
              refine sw_goto (tgt := 45) O (xx_dt dd_X2_pickFrom 75 rfl) (by decide) ?_
              simp only [if_pos q5] at kk45
              exact kk45
            · refine sw_aload_n O (xx_dt dd_X2_pickFrom 44 rfl) rfl ?_
              refine sw_aload_n O (xx_dt dd_X2_pickFrom 45 rfl) rfl ?_
              refine sw_iload_n O (xx_dt dd_X2_pickFrom 46 rfl) rfl ?_
              refine sw_iload O (xx_dt dd_X2_pickFrom 47 rfl) rfl ?_
              refine sw_callVx (as := [.ref 1001, .int (nI i), .int (nI i45)]) (st := []) (st2 := []) O (ct_X2_take hl (σ := s45) (R := R) hP45.1 (by omega) (gr := gr) (fun j9 hj9 => by rw [show s45 1017 = σ 1017 from hP45.2.2.1]; exact hgr j9 hj9) (i := i) (n := i45) (by omega) (by omega)) ce_X2_take ml_X2_64 iv_X2_take cl_X2 rfl (ly_1003 s45 h) (xx_dt dd_X2_pickFrom 48 rfl) (by first | decide | omega) rfl rfl (Nat.le_of_ble_eq_true rfl) rfl ?_
              refine sw_aload_n O (xx_dt dd_X2_pickFrom 49 rfl) rfl ?_
              refine sw_aload_n O (xx_dt dd_X2_pickFrom 50 rfl) rfl ?_
              refine sw_iload_n O (xx_dt dd_X2_pickFrom 51 rfl) rfl ?_
              refine sw_iconst (x := 1) O (xx_dt dd_X2_pickFrom 52 rfl) (by decide) ?_
              refine sw_iadd O (xx_dt dd_X2_pickFrom 53 rfl) ?_
              rw [nI_a1 i]
              refine sw_iload_n O (xx_dt dd_X2_pickFrom 54 rfl) rfl ?_
              refine sw_iload O (xx_dt dd_X2_pickFrom 55 rfl) rfl ?_
              refine sw_iconst (x := 1) O (xx_dt dd_X2_pickFrom 56 rfl) (by decide) ?_
              refine sw_iload_n O (xx_dt dd_X2_pickFrom 57 rfl) rfl ?_
              refine sw_ishl O (xx_dt dd_X2_pickFrom 58 rfl) ?_
              refine sw_ior O (xx_dt dd_X2_pickFrom 59 rfl) ?_
              refine sw_iload O (xx_dt dd_X2_pickFrom 60 rfl) rfl ?_
              refine sw_aload_n O (xx_dt dd_X2_pickFrom 61 rfl) rfl ?_
              refine sw_get (v := .ref 1030) O (xx_dt dd_X2_pickFrom 62 rfl) cl_X2 fl_X2_20 (ly_1003 (g_take s45 i i45 R gr) h) (by decide) rfl ?_
              refine sw_iload_n O (xx_dt dd_X2_pickFrom 63 rfl) rfl ?_
              refine sw_aaload (v := .ref (1031 + i)) O (xx_dt dd_X2_pickFrom 64 rfl) (by omega) (by omega) (ly_1030 (g_take s45 i i45 R gr) h) (pk_in i _ (by omega)) (by rw [nI_clamp (by omega)]; try exact rfl) ?_
              refine sw_iload O (xx_dt dd_X2_pickFrom 65 rfl) rfl ?_
              refine sw_iaload (v := .int (s45 (1031 + i) i45)) O (xx_dt dd_X2_pickFrom 66 rfl) (lr_1030 (g_take s45 i i45 R gr) h (k := i) (by omega)) (pk_in i45 _ (by omega)) (by rw [nI_clamp (by omega)]; exact (congrArg Value.int (congrFun (fr_take (by omega)) i45))) ?_
              refine sw_iadd O (xx_dt dd_X2_pickFrom 67 rfl) ?_
              refine sw_callSx (as := [.ref 1003, .ref 1001, .int (nI (i + 1)), .int (nI fx), .int ((nI S) ||| (1 <<< ((nI i) &&& 31))), .int (x + (s45 (1031 + i) i45))]) (st := []) (st2 := []) O (ih (g_take s45 i i45 R gr) (S ||| 2 ^ i) ((nI S) ||| (1 <<< ((nI i) &&& 31))) (x + (s45 (1031 + i) i45)) (or_bit (S := S) (i := i) (by omega) (by omega)) (or_bit_lt (by omega) (by omega)) (((congrFun (fr_take (by omega)) 9).trans hP45.2.1)) (((congrFun (fr_take (by omega)) 4).trans hP45.1)) (fun j9 hj9 => by rw [show (g_take s45 i i45 R gr) 1017 = σ 1017 from ((fr_take (by omega)).trans hP45.2.2.1)]; exact hgr j9 hj9) (fun j9 hj9 => by rw [show (g_take s45 i i45 R gr) 1020 = σ 1020 from ((fr_take (by omega)).trans hP45.2.2.2)]; exact hct j9 hj9)) ce_X2_pickFrom ml_X2_68 st_X2_pickFrom (xx_dt dd_X2_pickFrom 68 rfl) (by first | decide | omega) rfl rfl (Nat.le_of_ble_eq_true rfl) rfl ?_
              refine sw_aload_n O (xx_dt dd_X2_pickFrom 69 rfl) rfl ?_
              refine sw_aload_n O (xx_dt dd_X2_pickFrom 70 rfl) rfl ?_
              refine sw_iload_n O (xx_dt dd_X2_pickFrom 71 rfl) rfl ?_
              refine sw_iload O (xx_dt dd_X2_pickFrom 72 rfl) rfl ?_
              refine sw_callVx (as := [.ref 1001, .int (nI i), .int (nI i45)]) (st := []) (st2 := []) O (ct_X2_giveBack hl (σ := g_rec (g_take s45 i i45 R gr) (S ||| 2 ^ i) (x + (s45 (1031 + i) i45))) (R := R) (((congrFun (fr_rec (by omega)) 4).trans (congrFun (fr_take (by omega)) 4)).trans hP45.1) (by omega) (gr := gr) (fun j9 hj9 => by rw [show (g_rec (g_take s45 i i45 R gr) (S ||| 2 ^ i) (x + (s45 (1031 + i) i45))) 1017 = σ 1017 from (((fr_rec (by omega)).trans (fr_take (by omega))).trans hP45.2.2.1)]; exact hgr j9 hj9) (i := i) (n := i45) (by omega) (by omega)) ce_X2_giveBack ml_X2_72 iv_X2_giveBack cl_X2 rfl (ly_1003 (g_rec (g_take s45 i i45 R gr) (S ||| 2 ^ i) (x + (s45 (1031 + i) i45))) h) (xx_dt dd_X2_pickFrom 73 rfl) (by first | decide | omega) rfl rfl (Nat.le_of_ble_eq_true rfl) rfl ?_
              refine sw_iinc (y := nI (i45 + 1)) (ls2 := [.ref 1003, .ref 1001, .int (nI i), .int (nI fx), .int (nI S), .int x, .int (nI (i45 + 1))]) O (xx_dt dd_X2_pickFrom 74 rfl) rfl (nI_1 _) (by decide) rfl ?_
              refine sw_goto (tgt := 45) O (xx_dt dd_X2_pickFrom 75 rfl) (by decide) ?_
              simp only [if_neg q5] at kk45
              exact kk45
        · show SW Y _ _ (setC (x_pickStep_45 σ g_rec i fx S x R B gr cnt (g_rec σ S x)) h) 45 [.ref 1003, .ref 1001, .int (nI i), .int (nI fx), .int (nI S), .int x, .int (nI ((cnt i)))] []
          have hP45 : (x_pickStep_45 σ g_rec i fx S x R B gr cnt (g_rec σ S x)) 1001 4 = nI R ∧ (x_pickStep_45 σ g_rec i fx S x R B gr cnt (g_rec σ S x)) 1001 9 = nI B ∧ (x_pickStep_45 σ g_rec i fx S x R B gr cnt (g_rec σ S x)) 1017 = σ 1017 ∧ (x_pickStep_45 σ g_rec i fx S x R B gr cnt (g_rec σ S x)) 1020 = σ 1020 := hP45
          refine sw_iload O (xx_dt dd_X2_pickFrom 27 rfl) rfl ?_
          refine sw_aload_n O (xx_dt dd_X2_pickFrom 28 rfl) rfl ?_
          refine sw_get (v := .ref 1020) O (xx_dt dd_X2_pickFrom 29 rfl) cl_X2 fl_X2_9 (ly_1003 (x_pickStep_45 σ g_rec i fx S x R B gr cnt (g_rec σ S x)) h) (by decide) rfl ?_
          refine sw_iload_n O (xx_dt dd_X2_pickFrom 30 rfl) rfl ?_
          have hz52 := (hct i (by omega)).2
          refine sw_iaload (v := .int (nI (cnt i))) O (xx_dt dd_X2_pickFrom 31 rfl) (ly_1020 (x_pickStep_45 σ g_rec i fx S x R B gr cnt (g_rec σ S x)) h) (pk_in i _ (by omega)) (by rw [nI_clamp (by omega)]; exact (congrArg Value.int ((congrFun hP45.2.2.2 i).trans (hct i (by omega)).1))) ?_
          refine sw_icmp_ge (tgt := 123) O (xx_dt dd_X2_pickFrom 32 rfl) (by decide) (fun q4 => ?_) (fun q4 => ?_)
          · exact sw_ret O (xx_dt dd_X2_pickFrom 76 rfl) rfl (by rw [hQ]; exact ⟨rfl, by unfold g_pickStep; simp only [if_neg q1, if_neg q3]⟩)
          · exact absurd (Int32.le_refl _) q4
      · exact sw_ret O (xx_dt dd_X2_pickFrom 24 rfl) rfl (by rw [hQ]; exact ⟨rfl, by unfold g_pickStep; simp only [if_neg q1, if_pos q3]⟩)
    · exact absurd q2 (fun e => e (nI_lt (a := i) (b := 6) (by omega) (by omega)))
def g_pickBase (σ : XS9) (fx S : Nat) (x : Int32) (B : Nat) : XS9 := g_keepIfBetter σ S x
theorem ct_X2_pickBase {l : Launch} {h : XH} (hl : l.stackTraces = false) {σ : XS9} {fx S : Nat} {x : Int32} (hf : fx < 6) (hS : S < 64) {B : Nat} (hB : σ 1001 9 = nI B) (hB6 : B ≤ 6)  : XEx l m_X2_pickFrom 2 0 0 [.ref 1003, .ref 1001, .int (nI 6), .int (nI fx), .int (nI S), .int x] (setC σ h) (none) (setC (g_pickBase σ fx S x B) h) := by
  refine XMet.of hl rfl rfl (Nat.le_of_ble_eq_true rfl) (fun Y O hh hQ => ?_)
  show SW Y 0 0 (setC σ h) 0 [.ref 1003, .ref 1001, .int (nI 6), .int (nI fx), .int (nI S), .int x, xx_d] []
  refine sw_iload_n O (xx_dt dd_X2_pickFrom 0 rfl) rfl ?_
  refine sw_aload_n O (xx_dt dd_X2_pickFrom 1 rfl) rfl ?_
  refine sw_get (v := .int (nI B)) O (xx_dt dd_X2_pickFrom 2 rfl) cl_X6 fl_X2_78 (ly_1001 σ h) (by decide) (congrArg Value.int hB) ?_
  refine sw_icmp_ge (tgt := 14) O (xx_dt dd_X2_pickFrom 3 rfl) (by decide) (fun q1 => ?_) (fun q1 => ?_)
  · refine sw_aload_n O (xx_dt dd_X2_pickFrom 7 rfl) rfl ?_
    refine sw_iload O (xx_dt dd_X2_pickFrom 8 rfl) rfl ?_
    refine sw_iload O (xx_dt dd_X2_pickFrom 9 rfl) rfl ?_
    refine sw_callVx (as := [.int (nI S), .int x]) (st := []) (st2 := []) O (ct_X2_keepIfBetter hl (σ := σ) (S := S) (x := x) (by omega)) ce_X2_keepIfBetter ml_X2_83 iv_X2_keepIfBetter cl_X2 rfl (ly_1003 σ h) (xx_dt dd_X2_pickFrom 10 rfl) (by first | decide | omega) rfl rfl (Nat.le_of_ble_eq_true rfl) rfl ?_
    exact sw_ret O (xx_dt dd_X2_pickFrom 11 rfl) rfl (by rw [hQ]; exact ⟨rfl, by unfold g_pickBase; rfl⟩)
  · exact absurd q1 (fun e => e ((nI_leI (a := B) (b := 6) (by omega) (by omega)).mpr hB6))
theorem fr_pickStep {σ : XS9} {g_rec : XS9 → Nat → Int32 → XS9} (fr_rec : ∀ {σ : XS9} {S : Nat} {x : Int32} {q : Nat}, (S < 64 ∧ q ≠ 1042 ∧ q ≠ 1043 ∧ q ≠ 1044 ∧ (q < 1051 ∨ 1114 < q) ∧ (q < 1121 ∨ 1124 < q)) → g_rec σ S x q = σ q) {i fx S : Nat} {x : Int32} {R B : Nat} {gr cnt : Nat → Nat} (hg : gr i < 4) (hS : S < 64) (hor : S ||| 2 ^ i < 64) {q : Nat} (h : q ≠ 1042 ∧ q ≠ 1043 ∧ q ≠ 1044 ∧ (q < 1051 ∨ 1114 < q) ∧ (q < 1121 ∨ 1124 < q)) : g_pickStep σ g_rec i fx S x R B gr cnt q = σ q := by
  have H0 : ∀ s0, (x_pickStep_45 σ g_rec i fx S x R B gr cnt s0) q = s0 q := fun s0 => xit_keep (fun s : XS9 => s q) (fun i s => by (try dsimp only); (repeat' split) <;> first | rfl | simp (disch := omega) only [fr_rec, fr_take, fr_giveBack]) _ _ _
  unfold g_pickStep
  (repeat' split) <;> first | rfl | simp (disch := omega) only [fr_rec, fr_keepIfBetter, H0]
def g_pickFrom (fx R B : Nat) (gr cnt : Nat → Nat) : Nat → Nat → XS9 → Nat → Int32 → XS9
  | 0, _, σ, S, x => g_pickBase σ fx S x B
  | f + 1, i, σ, S, x => g_pickStep σ (fun σ S x => g_pickFrom fx R B gr cnt f (i + 1) σ S x) i fx S x R B gr cnt
theorem fr_pickF {fx R B : Nat} {gr cnt : Nat → Nat} (hg : ∀ i, i < 6 → gr i < 4) : ∀ (f i : Nat), i + f = 6 → ∀ {σ : XS9} {S : Nat} {x : Int32} {q : Nat}, (S < 64 ∧ q ≠ 1042 ∧ q ≠ 1043 ∧ q ≠ 1044 ∧ (q < 1051 ∨ 1114 < q) ∧ (q < 1121 ∨ 1124 < q)) → g_pickFrom fx R B gr cnt f i σ S x q = σ q
  | 0, i, e, σ, S, x, q, h => by
    unfold g_pickFrom g_pickBase
    simp (disch := omega) only [fr_keepIfBetter]
  | f + 1, i, e, σ, S, x, q, h => by
    unfold g_pickFrom
    exact fr_pickStep (fun h' => fr_pickF hg f (i + 1) (by omega) h') (hg i (by omega)) h.1 (or_bit_lt h.1 (by omega)) h.2
theorem ct_pickF {l : Launch} {h : XH} (hl : l.stackTraces = false) {fx R B : Nat} {gr cnt : Nat → Nat} (hf : fx < 6) (hB6 : B ≤ 6) (hR5 : R ≤ 5) : ∀ (f i : Nat), i + f = 6 → ∀ (σ : XS9) (S : Nat) (y x : Int32), y = nI S → S < 64 → σ 1001 9 = nI B → σ 1001 4 = nI R → (∀ i, i < 6 → σ 1017 i = nI (gr i) ∧ gr i < 4) → (∀ i, i < 6 → σ 1020 i = nI (cnt i) ∧ cnt i ≤ 6) → XEx l m_X2_pickFrom (f + 2) 0 0 [.ref 1003, .ref 1001, .int (nI i), .int (nI fx), .int y, .int x] (setC σ h) none (setC (g_pickFrom fx R B gr cnt f i σ S x) h)
  | 0, i, e, σ, S, y, x, hy, hS, hB, hR, hgr, hct => by
    subst hy
    obtain rfl : i = 6 := by omega
    exact ct_X2_pickBase hl hf hS hB hB6
  | f + 1, i, e, σ, S, y, x, hy, hS, hB, hR, hgr, hct => by
    subst hy
    exact ct_X2_pickStep hl (fun h' => fr_pickF (fun i hi => (hgr i hi).2) f (i + 1) (by omega) h') (by omega) hf hS (or_bit_lt hS (by omega)) hB hB6 hR hR5 hgr hct (d0 := f + 2) (by omega) (fun σ S y x e1 e2 e3 e4 e5 e6 => ct_pickF hl hf hB6 hR5 f (i + 1) (by omega) σ S y x e1 e2 e3 e4 e5 e6)
def cnt1 (cnt : Nat → Nat) (i : Nat) : Nat → Nat := fun j => if j = i then cnt i + 1 else cnt j
theorem cnt1_ok {σ A : XS9} {cnt : Nat → Nat} {i : Nat} (hct : ∀ i, i < 6 → σ 1020 i = nI (cnt i) ∧ cnt i ≤ 6) (hA : A 1020 = σ 1020) (hc : cnt i < 6) : ∀ j, j < 6 → u2 A 1020 i (nI (cnt i + 1)) 1020 j = nI (cnt1 cnt i j) ∧ cnt1 cnt i j ≤ 6 := by
  intro j hj
  unfold cnt1
  by_cases e : j = i
  · subst e
    rw [if_pos rfl, u2_at]
    exact ⟨rfl, hc⟩
  · rw [if_neg e]
    rw [show u2 A 1020 i (nI (cnt i + 1)) 1020 j = A 1020 j from u2_oi e, hA]
    exact hct j hj
