/-! ===== packages are added ===== -/
theorem fr_findWinners {σ : XS9}  {q : Nat} (h : q ≠ 1040 ∧ q ≠ 1041) : g_findWinners σ  q = σ q := by
  have H0 : ∀ s0, (x_findWinners_4 σ s0).1 q = s0.1 q := fun s0 => xit_keep (fun s : XS9 × Nat => s.1 q) (fun i s => by (try dsimp only); (repeat' split) <;> first | rfl | simp (disch := omega) only [u2_ne, uR_ne, fr_fill, fr_useWaiver, fr_undoContradictions, fr_lowerEligible, fr_moveHeld, fr_raisePrices, fr_begin, fr_closeRound, fr_moveTaken, fr_findDisturbed, fr_addRegion, fr_addBidder, fr_take, fr_giveBack, fr_keepIfBetter]) _ _ _
  unfold g_findWinners
  (repeat' split) <;> first | rfl | simp (disch := omega) only [u2_ne, uR_ne, fr_fill, fr_useWaiver, fr_undoContradictions, fr_lowerEligible, fr_moveHeld, fr_raisePrices, fr_begin, fr_closeRound, fr_moveTaken, fr_findDisturbed, fr_addRegion, fr_addBidder, fr_take, fr_giveBack, fr_keepIfBetter, H0]
theorem fr_pickFrom {fx R B : Nat} {gr cnt : Nat → Nat} {σ : XS9} {S : Nat} {x : Int32} {q : Nat} (h : (∀ i, i < 6 → gr i < 4) ∧ S < 64 ∧ q ≠ 1042 ∧ q ≠ 1043 ∧ q ≠ 1044 ∧ (q < 1051 ∨ 1114 < q) ∧ (q < 1121 ∨ 1124 < q)) : g_pickFrom fx R B gr cnt 6 0 σ S x q = σ q := fr_pickF h.1 6 0 rfl h.2
def g_addM (σ : XS9) (i : Nat) (x y : Int32) (R B : Nat) (gr cnt : Nat → Nat) : XS9 := (if (nI (cnt i)) < 6 then (if (f_fits (u2 (u2 (u2 σ (1022 + i) (cnt i) x) (1031 + i) (cnt i) y) 1020 i (nI (cnt i + 1))) i x R gr) = 0 then g_findWinners (u2 (u2 (u2 σ (1022 + i) (cnt i) x) (1031 + i) (cnt i) y) 1020 i (nI (cnt i + 1))) else g_findWinners (g_giveBack (g_pickFrom i R B gr (cnt1 cnt i) 6 0 (g_take (u2 (u2 (u2 σ (1022 + i) (cnt i) x) (1031 + i) (cnt i) y) 1020 i (nI (cnt i + 1))) i (cnt i) R gr) (2 ^ i) y) i (cnt i) R gr)) else σ)
theorem ct_X2_add {l : Launch} {h : XH} (hl : l.stackTraces = false) {σ : XS9} {R : Nat} (hR : σ 1001 4 = nI R) (hR5 : R ≤ 5) {B : Nat} (hB : σ 1001 9 = nI B) (hB6 : B ≤ 6) {gr : Nat → Nat} (hgr : ∀ i, i < 6 → σ 1017 i = nI (gr i) ∧ gr i < 4) {cnt : Nat → Nat} (hct : ∀ i, i < 6 → σ 1020 i = nI (cnt i) ∧ cnt i ≤ 6) {i : Nat} {x y : Int32} (hi : i < 6) : XEx l m_X2_add 9 0 0 [.ref 1003, .ref 1001, .int (nI i), .int x, .int y] (setC σ h) (none) (setC (g_addM σ i x y R B gr cnt) h) := by
  refine XMet.of hl rfl rfl (Nat.le_of_ble_eq_true rfl) (fun Y O hh hQ => ?_)
  show SW Y 0 0 (setC σ h) 0 [.ref 1003, .ref 1001, .int (nI i), .int x, .int y, xx_d] []
  refine sw_aload_n O (xx_dt dd_X2_add 0 rfl) rfl ?_
  refine sw_get (v := .ref 1020) O (xx_dt dd_X2_add 1 rfl) cl_X2 fl_X2_9 (ly_1003 σ h) (by decide) rfl ?_
  refine sw_iload_n O (xx_dt dd_X2_add 2 rfl) rfl ?_
  have hz5 := (hct i (by omega)).2
  refine sw_iaload (v := .int (nI (cnt i))) O (xx_dt dd_X2_add 3 rfl) (ly_1020 σ h) (pk_in i _ (by omega)) (by rw [nI_clamp (by omega)]; exact (congrArg Value.int (hct i (by omega)).1)) ?_
  refine sw_istore (ls2 := [.ref 1003, .ref 1001, .int (nI i), .int x, .int y, .int (nI (cnt i))]) O (xx_dt dd_X2_add 4 rfl) (by decide) rfl ?_
  refine sw_iload O (xx_dt dd_X2_add 5 rfl) rfl ?_
  refine sw_bipush (x := 6) O (xx_dt dd_X2_add 6 rfl) (by decide) ?_
  refine sw_icmp_lt (tgt := 16) O (xx_dt dd_X2_add 7 rfl) (by decide) (fun q1 => ?_) (fun q1 => ?_)
  · have hfq1 : (cnt i) < 6 := (nI_ltI (a := (cnt i)) (b := 6) (by omega) (by omega)).mp q1
    refine sw_aload_n O (xx_dt dd_X2_add 9 rfl) rfl ?_
    refine sw_get (v := .ref 1021) O (xx_dt dd_X2_add 10 rfl) cl_X2 fl_X2_17 (ly_1003 σ h) (by decide) rfl ?_
    refine sw_iload_n O (xx_dt dd_X2_add 11 rfl) rfl ?_
    refine sw_aaload (v := .ref (1022 + i)) O (xx_dt dd_X2_add 12 rfl) (by omega) (by omega) (ly_1021 σ h) (pk_in i _ (by omega)) (by rw [nI_clamp (by omega)]; try exact rfl) ?_
    refine sw_iload O (xx_dt dd_X2_add 13 rfl) rfl ?_
    refine sw_iload_n O (xx_dt dd_X2_add 14 rfl) rfl ?_
    refine sw_iastore (h2 := setC (u2 σ (1022 + i) (cnt i) x) h) O (xx_dt dd_X2_add 15 rfl) (lr_1021 σ h (k := i) (by omega)) (pk_in (cnt i) _ (by omega)) (by omega) (by rw [nI_clamp (by omega)]; exact (pr_1021 (by omega))) ?_
    refine sw_aload_n O (xx_dt dd_X2_add 16 rfl) rfl ?_
    refine sw_get (v := .ref 1030) O (xx_dt dd_X2_add 17 rfl) cl_X2 fl_X2_20 (ly_1003 (u2 σ (1022 + i) (cnt i) x) h) (by decide) rfl ?_
    refine sw_iload_n O (xx_dt dd_X2_add 18 rfl) rfl ?_
    refine sw_aaload (v := .ref (1031 + i)) O (xx_dt dd_X2_add 19 rfl) (by omega) (by omega) (ly_1030 (u2 σ (1022 + i) (cnt i) x) h) (pk_in i _ (by omega)) (by rw [nI_clamp (by omega)]; try exact rfl) ?_
    refine sw_iload O (xx_dt dd_X2_add 20 rfl) rfl ?_
    refine sw_iload O (xx_dt dd_X2_add 21 rfl) rfl ?_
    refine sw_iastore (h2 := setC (u2 (u2 σ (1022 + i) (cnt i) x) (1031 + i) (cnt i) y) h) O (xx_dt dd_X2_add 22 rfl) (lr_1030 (u2 σ (1022 + i) (cnt i) x) h (k := i) (by omega)) (pk_in (cnt i) _ (by omega)) (by omega) (by rw [nI_clamp (by omega)]; exact (pr_1030 (by omega))) ?_
    refine sw_aload_n O (xx_dt dd_X2_add 23 rfl) rfl ?_
    refine sw_get (v := .ref 1020) O (xx_dt dd_X2_add 24 rfl) cl_X2 fl_X2_9 (ly_1003 (u2 (u2 σ (1022 + i) (cnt i) x) (1031 + i) (cnt i) y) h) (by decide) rfl ?_
    refine sw_iload_n O (xx_dt dd_X2_add 25 rfl) rfl ?_
    refine sw_dup2 O (xx_dt dd_X2_add 26 rfl) rfl rfl ?_
    have hz43 := (hct i (by omega)).2
    refine sw_iaload (v := .int (nI (cnt i))) O (xx_dt dd_X2_add 27 rfl) (ly_1020 (u2 (u2 σ (1022 + i) (cnt i) x) (1031 + i) (cnt i) y) h) (pk_in i _ (by omega)) (by rw [nI_clamp (by omega)]; exact (congrArg Value.int (((congrFun (u2_ne (by omega)) i).trans (congrFun (u2_ne (by omega)) i)).trans (hct i (by omega)).1))) ?_
    refine sw_iconst (x := 1) O (xx_dt dd_X2_add 28 rfl) (by decide) ?_
    refine sw_iadd O (xx_dt dd_X2_add 29 rfl) ?_
    rw [nI_a1 (cnt i)]
    refine sw_iastore (h2 := setC (u2 (u2 (u2 σ (1022 + i) (cnt i) x) (1031 + i) (cnt i) y) 1020 i (nI (cnt i + 1))) h) O (xx_dt dd_X2_add 30 rfl) (ly_1020 (u2 (u2 σ (1022 + i) (cnt i) x) (1031 + i) (cnt i) y) h) (pk_in i _ (by omega)) (by decide) (by rw [nI_clamp (by omega)]; exact pa_1020) ?_
    refine sw_aload_n O (xx_dt dd_X2_add 31 rfl) rfl ?_
    refine sw_aload_n O (xx_dt dd_X2_add 32 rfl) rfl ?_
    refine sw_iload_n O (xx_dt dd_X2_add 33 rfl) rfl ?_
    refine sw_iload_n O (xx_dt dd_X2_add 34 rfl) rfl ?_
    refine sw_callVx (as := [.ref 1001, .int (nI i), .int x]) (st := []) (st2 := [.int (f_fits (u2 (u2 (u2 σ (1022 + i) (cnt i) x) (1031 + i) (cnt i) y) 1020 i (nI (cnt i + 1))) i x R gr)]) O (ct_X2_fits hl (σ := u2 (u2 (u2 σ (1022 + i) (cnt i) x) (1031 + i) (cnt i) y) 1020 i (nI (cnt i + 1))) (R := R) ((((congrFun (u2_ne (by omega)) 4).trans (congrFun (u2_ne (by omega)) 4)).trans (congrFun (u2_ne (by omega)) 4)).trans hR) (by omega) (gr := gr) (fun j9 hj9 => by rw [show (u2 (u2 (u2 σ (1022 + i) (cnt i) x) (1031 + i) (cnt i) y) 1020 i (nI (cnt i + 1))) 1017 = σ 1017 from (((u2_ne (by omega)).trans (u2_ne (by omega))).trans (u2_ne (by omega)))]; exact hgr j9 hj9) (i := i) (x := x) (by omega)) ce_X2_fits ml_X2_60 iv_X2_fits cl_X2 rfl (ly_1003 (u2 (u2 (u2 σ (1022 + i) (cnt i) x) (1031 + i) (cnt i) y) 1020 i (nI (cnt i + 1))) h) (xx_dt dd_X2_add 35 rfl) (by first | decide | omega) rfl rfl (Nat.le_of_ble_eq_true rfl) rfl ?_
    refine sw_if_eq (tgt := 85) O (xx_dt dd_X2_add 36 rfl) (by decide) (fun q2 => ?_) (fun q2 => ?_)
    · refine sw_aload_n O (xx_dt dd_X2_add 56 rfl) rfl ?_
      refine sw_callVx (as := []) (st := []) (st2 := []) O (ct_X2_findWinners hl (σ := u2 (u2 (u2 σ (1022 + i) (cnt i) x) (1031 + i) (cnt i) y) 1020 i (nI (cnt i + 1)))) ce_X2_findWinners ml_X2_75 iv_X2_findWinners cl_X2 rfl (ly_1003 (u2 (u2 (u2 σ (1022 + i) (cnt i) x) (1031 + i) (cnt i) y) 1020 i (nI (cnt i + 1))) h) (xx_dt dd_X2_add 57 rfl) (by first | decide | omega) rfl rfl (Nat.le_of_ble_eq_true rfl) rfl ?_
      exact sw_ret O (xx_dt dd_X2_add 58 rfl) rfl (by rw [hQ]; exact ⟨rfl, by unfold g_addM; simp only [if_pos q1, if_pos q2]⟩)
    · refine sw_aload_n O (xx_dt dd_X2_add 37 rfl) rfl ?_
      refine sw_aload_n O (xx_dt dd_X2_add 38 rfl) rfl ?_
      refine sw_iload_n O (xx_dt dd_X2_add 39 rfl) rfl ?_
      refine sw_iload O (xx_dt dd_X2_add 40 rfl) rfl ?_
      refine sw_callVx (as := [.ref 1001, .int (nI i), .int (nI (cnt i))]) (st := []) (st2 := []) O (ct_X2_take hl (σ := u2 (u2 (u2 σ (1022 + i) (cnt i) x) (1031 + i) (cnt i) y) 1020 i (nI (cnt i + 1))) (R := R) ((((congrFun (u2_ne (by omega)) 4).trans (congrFun (u2_ne (by omega)) 4)).trans (congrFun (u2_ne (by omega)) 4)).trans hR) (by omega) (gr := gr) (fun j9 hj9 => by rw [show (u2 (u2 (u2 σ (1022 + i) (cnt i) x) (1031 + i) (cnt i) y) 1020 i (nI (cnt i + 1))) 1017 = σ 1017 from (((u2_ne (by omega)).trans (u2_ne (by omega))).trans (u2_ne (by omega)))]; exact hgr j9 hj9) (i := i) (n := cnt i) (by omega) (by omega)) ce_X2_take ml_X2_64 iv_X2_take cl_X2 rfl (ly_1003 (u2 (u2 (u2 σ (1022 + i) (cnt i) x) (1031 + i) (cnt i) y) 1020 i (nI (cnt i + 1))) h) (xx_dt dd_X2_add 41 rfl) (by first | decide | omega) rfl rfl (Nat.le_of_ble_eq_true rfl) rfl ?_
      refine sw_aload_n O (xx_dt dd_X2_add 42 rfl) rfl ?_
      refine sw_aload_n O (xx_dt dd_X2_add 43 rfl) rfl ?_
      refine sw_iconst (x := 0) O (xx_dt dd_X2_add 44 rfl) (by decide) ?_
      refine sw_iload_n O (xx_dt dd_X2_add 45 rfl) rfl ?_
      refine sw_iconst (x := 1) O (xx_dt dd_X2_add 46 rfl) (by decide) ?_
      refine sw_iload_n O (xx_dt dd_X2_add 47 rfl) rfl ?_
      refine sw_ishl O (xx_dt dd_X2_add 48 rfl) ?_
      refine sw_iload O (xx_dt dd_X2_add 49 rfl) rfl ?_
      refine sw_callSx (as := [.ref 1003, .ref 1001, .int 0, .int (nI i), .int (1 <<< ((nI i) &&& 31)), .int y]) (st := []) (st2 := []) O (ct_pickF hl (fx := i) (R := R) (B := B) (gr := gr) (cnt := cnt1 cnt i) hi hB6 hR5 6 0 rfl (g_take (u2 (u2 (u2 σ (1022 + i) (cnt i) x) (1031 + i) (cnt i) y) 1020 i (nI (cnt i + 1))) i (cnt i) R gr) (2 ^ i) (1 <<< ((nI i) &&& 31)) y (one_bit (i := i) (by omega)) (one_bit_lt (by omega)) ((((((congrFun (fr_take (by omega)) 9).trans (congrFun (u2_ne (by omega)) 9)).trans (congrFun (u2_ne (by omega)) 9)).trans (congrFun (u2_ne (by omega)) 9)).trans hB)) ((((((congrFun (fr_take (by omega)) 4).trans (congrFun (u2_ne (by omega)) 4)).trans (congrFun (u2_ne (by omega)) 4)).trans (congrFun (u2_ne (by omega)) 4)).trans hR)) (fun j9 hj9 => by rw [show (g_take (u2 (u2 (u2 σ (1022 + i) (cnt i) x) (1031 + i) (cnt i) y) 1020 i (nI (cnt i + 1))) i (cnt i) R gr) 1017 = σ 1017 from ((((fr_take (by omega)).trans (u2_ne (by omega))).trans (u2_ne (by omega))).trans (u2_ne (by omega)))]; exact hgr j9 hj9) (fun j9 hj9 => by rw [show (g_take (u2 (u2 (u2 σ (1022 + i) (cnt i) x) (1031 + i) (cnt i) y) 1020 i (nI (cnt i + 1))) i (cnt i) R gr) 1020 = (u2 (u2 (u2 σ (1022 + i) (cnt i) x) (1031 + i) (cnt i) y) 1020 i (nI (cnt i + 1))) 1020 from (fr_take (by omega))]; exact cnt1_ok (A := u2 (u2 σ (1022 + i) (cnt i) x) (1031 + i) (cnt i) y) hct (by simp (disch := omega) only [u2_ne]) (by omega) j9 hj9)) ce_X2_pickFrom ml_X2_68 st_X2_pickFrom (xx_dt dd_X2_add 50 rfl) (by first | decide | omega) rfl rfl (Nat.le_of_ble_eq_true rfl) rfl ?_
      refine sw_aload_n O (xx_dt dd_X2_add 51 rfl) rfl ?_
      refine sw_aload_n O (xx_dt dd_X2_add 52 rfl) rfl ?_
      refine sw_iload_n O (xx_dt dd_X2_add 53 rfl) rfl ?_
      refine sw_iload O (xx_dt dd_X2_add 54 rfl) rfl ?_
      refine sw_callVx (as := [.ref 1001, .int (nI i), .int (nI (cnt i))]) (st := []) (st2 := []) O (ct_X2_giveBack hl (σ := g_pickFrom i R B gr (cnt1 cnt i) 6 0 (g_take (u2 (u2 (u2 σ (1022 + i) (cnt i) x) (1031 + i) (cnt i) y) 1020 i (nI (cnt i + 1))) i (cnt i) R gr) (2 ^ i) y) (R := R) ((((((congrFun (fr_pickFrom ⟨fun i9 hi9 => (hgr i9 hi9).2, one_bit_lt (by omega), by omega⟩) 4).trans (congrFun (fr_take (by omega)) 4)).trans (congrFun (u2_ne (by omega)) 4)).trans (congrFun (u2_ne (by omega)) 4)).trans (congrFun (u2_ne (by omega)) 4)).trans hR) (by omega) (gr := gr) (fun j9 hj9 => by rw [show (g_pickFrom i R B gr (cnt1 cnt i) 6 0 (g_take (u2 (u2 (u2 σ (1022 + i) (cnt i) x) (1031 + i) (cnt i) y) 1020 i (nI (cnt i + 1))) i (cnt i) R gr) (2 ^ i) y) 1017 = σ 1017 from (((((fr_pickFrom ⟨fun i9 hi9 => (hgr i9 hi9).2, one_bit_lt (by omega), by omega⟩).trans (fr_take (by omega))).trans (u2_ne (by omega))).trans (u2_ne (by omega))).trans (u2_ne (by omega)))]; exact hgr j9 hj9) (i := i) (n := cnt i) (by omega) (by omega)) ce_X2_giveBack ml_X2_72 iv_X2_giveBack cl_X2 rfl (ly_1003 (g_pickFrom i R B gr (cnt1 cnt i) 6 0 (g_take (u2 (u2 (u2 σ (1022 + i) (cnt i) x) (1031 + i) (cnt i) y) 1020 i (nI (cnt i + 1))) i (cnt i) R gr) (2 ^ i) y) h) (xx_dt dd_X2_add 55 rfl) (by first | decide | omega) rfl rfl (Nat.le_of_ble_eq_true rfl) rfl ?_
      refine sw_aload_n O (xx_dt dd_X2_add 56 rfl) rfl ?_
      refine sw_callVx (as := []) (st := []) (st2 := []) O (ct_X2_findWinners hl (σ := g_giveBack (g_pickFrom i R B gr (cnt1 cnt i) 6 0 (g_take (u2 (u2 (u2 σ (1022 + i) (cnt i) x) (1031 + i) (cnt i) y) 1020 i (nI (cnt i + 1))) i (cnt i) R gr) (2 ^ i) y) i (cnt i) R gr)) ce_X2_findWinners ml_X2_75 iv_X2_findWinners cl_X2 rfl (ly_1003 (g_giveBack (g_pickFrom i R B gr (cnt1 cnt i) 6 0 (g_take (u2 (u2 (u2 σ (1022 + i) (cnt i) x) (1031 + i) (cnt i) y) 1020 i (nI (cnt i + 1))) i (cnt i) R gr) (2 ^ i) y) i (cnt i) R gr) h) (xx_dt dd_X2_add 57 rfl) (by first | decide | omega) rfl rfl (Nat.le_of_ble_eq_true rfl) rfl ?_
      exact sw_ret O (xx_dt dd_X2_add 58 rfl) rfl (by rw [hQ]; exact ⟨rfl, by unfold g_addM; simp only [if_pos q1, if_neg q2]⟩)
  · have hfq1 : ¬ (cnt i) < 6 := fun e => q1 ((nI_ltI (a := (cnt i)) (b := 6) (by omega) (by omega)).mpr e)
    exact sw_ret O (xx_dt dd_X2_add 8 rfl) rfl (by rw [hQ]; exact ⟨rfl, by unfold g_addM; simp only [if_neg q1]⟩)
theorem fr_addM {σ : XS9} {i : Nat} {x y : Int32} {R B : Nat} {gr cnt : Nat → Nat} {q : Nat} (h : i < 6 ∧ (q < 1020 ∨ 1124 < q) ∧ ∀ i, i < 6 → gr i < 4) (hc : cnt i ≤ 6) : g_addM σ i x y R B gr cnt q = σ q := by
  obtain ⟨hi, hq, hg⟩ := h
  have hgi := hg i hi
  have HP : ∀ σ, g_pickFrom i R B gr (cnt1 cnt i) 6 0 σ (2 ^ i) y q = σ q := fun σ => fr_pickFrom ⟨hg, one_bit_lt hi, by omega⟩
  unfold g_addM
  (repeat' split) <;> first | rfl | simp (disch := omega) only [u2_ne, fr_findWinners, fr_giveBack, fr_take, HP]
def XCT (σ : XS9) : Prop := ∀ i, i < 6 → σ 1020 i = nI (cn (σ 1020 i)) ∧ cn (σ 1020 i) ≤ 6
theorem XCT.of {σ σ' : XS9} (h : XCT σ) (e : σ' 1020 = σ 1020) : XCT σ' := by unfold XCT; rw [e]; exact h
theorem XCT.add {σ : XS9} {i : Nat} {x y : Int32} {R B : Nat} {gr : Nat → Nat} (h : XCT σ) (hi : i < 6) (hg : ∀ i, i < 6 → gr i < 4) : XCT (g_addM σ i x y R B gr (fun j => cn (σ 1020 j))) := by
  have hgi := hg i hi
  have HP : ∀ σ, g_pickFrom i R B gr (cnt1 (fun j => cn (σ 1020 j)) i) 6 0 σ (2 ^ i) y 1020 = σ 1020 := fun σ => fr_pickFrom ⟨hg, one_bit_lt hi, by omega⟩
  have hci := h i hi
  unfold g_addM
  split
  · rename_i hc
    have hc' : cn (σ 1020 i) < 6 := (nI_ltI (a := cn (σ 1020 i)) (b := 6) (by omega) (by omega)).mp hc
    have K : XCT (u2 (u2 (u2 σ (1022 + i) (cn (σ 1020 i)) x) (1031 + i) (cn (σ 1020 i)) y) 1020 i (nI (cn (σ 1020 i) + 1))) := by
      have := cnt1_ok (σ := σ) (A := u2 (u2 σ (1022 + i) (cn (σ 1020 i)) x) (1031 + i) (cn (σ 1020 i)) y) (cnt := fun j => cn (σ 1020 j)) h (by simp (disch := omega) only [u2_ne]) hc'
      intro j hj
      obtain ⟨e1, e2⟩ := this j hj
      rw [e1, cn_nI (by omega)]
      exact ⟨rfl, e2⟩
    split
    · exact K.of (by simp (disch := omega) only [fr_findWinners])
    · exact K.of (by
        have HP : ∀ σ', g_pickFrom i R B gr (cnt1 (fun j => cn (σ 1020 j)) i) 6 0 σ' (2 ^ i) y 1020 = σ' 1020 := fun σ' => fr_pickFrom ⟨hg, one_bit_lt hi, by omega⟩
        simp (disch := omega) only [fr_findWinners, fr_giveBack, fr_take, HP])
  · exact h
def g_leaveOut (σ : XS9) (i : Nat) : XS9 := g_findWinners (u2 σ 1003 5 ((σ 1003 5) ||| (1 <<< ((nI i) &&& 31))))
theorem ct_X2_leaveOut {l : Launch} {h : XH} (hl : l.stackTraces = false) {σ : XS9} {i : Nat} (hi : i < 6) : XEx l m_X2_leaveOut 3 0 0 [.ref 1003, .int (nI i)] (setC σ h) (none) (setC (g_leaveOut σ i) h) := by
  refine XMet.of hl rfl rfl (Nat.le_of_ble_eq_true rfl) (fun Y O hh hQ => ?_)
  show SW Y 0 0 (setC σ h) 0 [.ref 1003, .int (nI i)] []
  refine sw_aload_n O (xx_dt dd_X2_leaveOut 0 rfl) rfl ?_
  refine sw_dup O (xx_dt dd_X2_leaveOut 1 rfl) rfl ?_
  refine sw_get (v := .int (σ 1003 5)) O (xx_dt dd_X2_leaveOut 2 rfl) cl_X2 fl_X2_50 (ly_1003 σ h) (by decide) rfl ?_
  refine sw_iconst (x := 1) O (xx_dt dd_X2_leaveOut 3 rfl) (by decide) ?_
  refine sw_iload_n O (xx_dt dd_X2_leaveOut 4 rfl) rfl ?_
  refine sw_ishl O (xx_dt dd_X2_leaveOut 5 rfl) ?_
  refine sw_ior O (xx_dt dd_X2_leaveOut 6 rfl) ?_
  refine sw_put (h2 := setC (u2 σ 1003 5 ((σ 1003 5) ||| (1 <<< ((nI i) &&& 31)))) h) O (xx_dt dd_X2_leaveOut 7 rfl) cl_X2 fl_X2_50 (ly_1003 σ h) (by decide) (by decide) rfl (fun _ => ⟨rfl, rfl⟩) pu_1003_5 ?_
  refine sw_aload_n O (xx_dt dd_X2_leaveOut 8 rfl) rfl ?_
  refine sw_callVx (as := []) (st := []) (st2 := []) O (ct_X2_findWinners hl (σ := u2 σ 1003 5 ((σ 1003 5) ||| (1 <<< ((nI i) &&& 31))))) ce_X2_findWinners ml_X2_75 iv_X2_findWinners cl_X2 rfl (ly_1003 (u2 σ 1003 5 ((σ 1003 5) ||| (1 <<< ((nI i) &&& 31)))) h) (xx_dt dd_X2_leaveOut 9 rfl) (by first | decide | omega) rfl rfl (Nat.le_of_ble_eq_true rfl) rfl ?_
  exact sw_ret O (xx_dt dd_X2_leaveOut 10 rfl) rfl (by rw [hQ]; exact ⟨rfl, by unfold g_leaveOut; rfl⟩)
theorem fr_leaveOut {σ : XS9} {i : Nat} {q : Nat} (h : q ≠ 1003 ∧ q ≠ 1040 ∧ q ≠ 1041) : g_leaveOut σ i q = σ q := by
  unfold g_leaveOut
  (repeat' split) <;> first | rfl | simp (disch := omega) only [u2_ne, uR_ne, fr_fill, fr_useWaiver, fr_undoContradictions, fr_lowerEligible, fr_moveHeld, fr_raisePrices, fr_begin, fr_closeRound, fr_moveTaken, fr_findDisturbed, fr_addRegion, fr_addBidder, fr_take, fr_giveBack, fr_keepIfBetter, fr_findWinners]
theorem xitR_keep {S R : Type} {step : Nat → S → S ⊕ R} {A : Type} (π : S → A) (πR : R → A) (h : ∀ i s s', step i s = .inl s' → π s' = π s) (hR : ∀ i s r, step i s = .inr r → πR r = π s) : ∀ (f i : Nat) (s : S), Sum.elim π πR (xitR step f i s) = π s
  | 0, _, _ => rfl
  | f + 1, i, s => by
    unfold xitR
    cases e : step i s with
    | inl s' => exact (xitR_keep π πR h hR f (i + 1) s').trans (h i s s' e)
    | inr r => exact hR i s r e
theorem fr_raiseEach {σ : XS9} {x y z : Int32} {q : Nat} (h : q ≠ 1131 + 2) : g_raiseEach σ x y z q = σ q := by
  have H0 : ∀ s0, (x_raiseEach_6 σ x y z s0).1 q = s0.1 q := fun s0 => xit_keep (fun s : XS9 × Int32 => s.1 q) (fun i s => by (try dsimp only); (repeat' split) <;> first | rfl | simp (disch := omega) only [u2_ne, uR_ne, fr_fill, fr_useWaiver, fr_undoContradictions, fr_lowerEligible, fr_moveHeld, fr_raisePrices, fr_begin, fr_closeRound, fr_moveTaken, fr_findDisturbed, fr_addRegion, fr_addBidder, fr_take, fr_giveBack, fr_keepIfBetter, fr_findWinners, fr_leaveOut]) _ _ _
  unfold g_raiseEach
  (repeat' split) <;> first | rfl | simp (disch := omega) only [u2_ne, uR_ne, fr_fill, fr_useWaiver, fr_undoContradictions, fr_lowerEligible, fr_moveHeld, fr_raisePrices, fr_begin, fr_closeRound, fr_moveTaken, fr_findDisturbed, fr_addRegion, fr_addBidder, fr_take, fr_giveBack, fr_keepIfBetter, fr_findWinners, fr_leaveOut, H0]
theorem fr_raiseOutside {σ : XS9} {x y : Int32} {q : Nat} (h : q ≠ 1131 + 2) : g_raiseOutside σ x y q = σ q := by
  have H0 : ∀ s0, (x_raiseOutside_5 σ x y s0).1 q = s0.1 q := fun s0 => xitB_keep (fun s : XS9 × Int32 => s.1 q) (fun i s s' e => by
    revert e
    (try dsimp only)
    (repeat' split) <;> intro e <;> rcases e with e | e <;> first | (cases e; done) | (injection e with e; subst e; first | exact fr_raiseEach h | rfl)) _ _ _
  unfold g_raiseOutside
  rw [fr_raiseEach h]
  exact H0 _
theorem fr_find {σ : XS9} {q : Nat} (h : q ≠ 1131 ∧ q ≠ 1132 ∧ q ≠ 1133) : g_find σ q = σ q := by
  have H0 : ∀ s0, x_find_2 σ s0 q = s0 q := fun s0 => xit_keep (fun s : XS9 => s q) (fun i s => by (try dsimp only); simp (disch := omega) only [u2_ne]) _ _ _
  have H1 : ∀ s0, Sum.elim (fun s : XS9 => s q) (fun s : XS9 => s q) (x_find_53 σ s0) = s0 q := fun s0 => by
   unfold x_find_53
   exact xitR_keep (fun s : XS9 => s q) (fun s : XS9 => s q) (fun i s s' e => by
    revert e
    (try dsimp only)
    split <;> intro e
    · cases e
    · exact (congrFun (Sum.inl.inj e) q).symm.trans (fr_raiseOutside (by omega))) (fun i s r e => by
    revert e
    (try dsimp only)
    split <;> intro e
    · exact (congrFun (Sum.inr.inj e) q).symm
    · cases e) _ _ _
  unfold g_find
  rw [← H0 σ, ← H1 (x_find_2 σ σ)]
  cases x_find_53 σ (x_find_2 σ σ) <;> rfl
