/-! ===== Clock ===== -/
def f_hasWaived (σ : XS9) (b : Nat) (i : Nat) : Int32 := (if ((σ b 12) &&& (1 <<< ((nI i) &&& 31))) = 0 then 0 else 1)
theorem ct_X1_hasWaived {l : Launch} {h : XH} (hl : l.stackTraces = false) {σ : XS9} {b : Nat} (hb : b = 2000 ∨ b = 3000) {i : Nat} : XEx l m_X1_hasWaived 0 0 0 [.ref b, .int (nI i)] (setC σ h) (some (.int (f_hasWaived σ b i))) (setC σ h) := by
  refine XMet.of hl rfl rfl (Nat.le_of_ble_eq_true rfl) (fun Y O hh hQ => ?_)
  show SW Y 0 0 (setC σ h) 0 [.ref b, .int (nI i)] []
  refine sw_aload_n O (xx_dt dd_X1_hasWaived 0 rfl) rfl ?_
  refine sw_get (v := .int (σ b 12)) O (xx_dt dd_X1_hasWaived 1 rfl) cl_X1 fl_X1_69 (lk_0 σ h hb) (by decide) rfl ?_
  refine sw_iconst (x := 1) O (xx_dt dd_X1_hasWaived 2 rfl) (by decide) ?_
  refine sw_iload_n O (xx_dt dd_X1_hasWaived 3 rfl) rfl ?_
  refine sw_ishl O (xx_dt dd_X1_hasWaived 4 rfl) ?_
  refine sw_iand O (xx_dt dd_X1_hasWaived 5 rfl) ?_
  refine sw_if_eq (tgt := 15) O (xx_dt dd_X1_hasWaived 6 rfl) (by decide) (fun q1 => ?_) (fun q1 => ?_)
  · refine sw_iconst (x := 0) O (xx_dt dd_X1_hasWaived 9 rfl) (by decide) ?_
    exact sw_iret O (xx_dt dd_X1_hasWaived 10 rfl) rfl rfl (by rw [hQ]; exact ⟨by unfold f_hasWaived; simp only [if_pos q1], rfl⟩)
  · refine sw_iconst (x := 1) O (xx_dt dd_X1_hasWaived 7 rfl) (by decide) ?_
    refine sw_goto (tgt := 16) O (xx_dt dd_X1_hasWaived 8 rfl) (by decide) ?_
    exact sw_iret O (xx_dt dd_X1_hasWaived 10 rfl) rfl rfl (by rw [hQ]; exact ⟨by unfold f_hasWaived; simp only [if_neg q1], rfl⟩)
def g_useWaiver (σ : XS9) (b : Nat) (i : Nat) : XS9 := u2 (u2 σ (b + 5) i ((σ (b + 5) i) - 1)) b 12 ((σ b 12) ||| (1 <<< ((nI i) &&& 31)))
theorem ct_X1_useWaiver {l : Launch} {h : XH} (hl : l.stackTraces = false) {σ : XS9} {b : Nat} (hb : b = 2000 ∨ b = 3000) {i : Nat} (hi : i < 6) : XEx l m_X1_useWaiver 0 0 0 [.ref b, .int (nI i)] (setC σ h) (none) (setC (g_useWaiver σ b i) h) := by
  refine XMet.of hl rfl rfl (Nat.le_of_ble_eq_true rfl) (fun Y O hh hQ => ?_)
  show SW Y 0 0 (setC σ h) 0 [.ref b, .int (nI i)] []
  refine sw_aload_n O (xx_dt dd_X1_useWaiver 0 rfl) rfl ?_
  refine sw_get (v := .ref (b + 5)) O (xx_dt dd_X1_useWaiver 1 rfl) cl_X1 fl_X1_24 (lk_0 σ h hb) (by decide) rfl ?_
  refine sw_iload_n O (xx_dt dd_X1_useWaiver 2 rfl) rfl ?_
  refine sw_dup2 O (xx_dt dd_X1_useWaiver 3 rfl) rfl rfl ?_
  refine sw_iaload (v := .int (σ (b + 5) i)) O (xx_dt dd_X1_useWaiver 4 rfl) (lk_5 σ h hb) (pk_in i _ (by omega)) (by rw [nI_clamp (by omega)]; try exact rfl) ?_
  refine sw_iconst (x := 1) O (xx_dt dd_X1_useWaiver 5 rfl) (by decide) ?_
  refine sw_isub O (xx_dt dd_X1_useWaiver 6 rfl) ?_
  refine sw_iastore (h2 := setC (u2 σ (b + 5) i ((σ (b + 5) i) - 1)) h) O (xx_dt dd_X1_useWaiver 7 rfl) (lk_5 σ h hb) (pk_in i _ (by omega)) (by omega) (by rw [nI_clamp (by omega)]; exact (pk_a5 hb)) ?_
  refine sw_aload_n O (xx_dt dd_X1_useWaiver 8 rfl) rfl ?_
  refine sw_dup O (xx_dt dd_X1_useWaiver 9 rfl) rfl ?_
  refine sw_get (v := .int (σ b 12)) O (xx_dt dd_X1_useWaiver 10 rfl) cl_X1 fl_X1_69 (lk_0 (u2 σ (b + 5) i ((σ (b + 5) i) - 1)) h hb) (by decide) (congrArg Value.int (congrFun (u2_ne (by omega)) 12)) ?_
  refine sw_iconst (x := 1) O (xx_dt dd_X1_useWaiver 11 rfl) (by decide) ?_
  refine sw_iload_n O (xx_dt dd_X1_useWaiver 12 rfl) rfl ?_
  refine sw_ishl O (xx_dt dd_X1_useWaiver 13 rfl) ?_
  refine sw_ior O (xx_dt dd_X1_useWaiver 14 rfl) ?_
  refine sw_put (h2 := setC (u2 (u2 σ (b + 5) i ((σ (b + 5) i) - 1)) b 12 ((σ b 12) ||| (1 <<< ((nI i) &&& 31)))) h) O (xx_dt dd_X1_useWaiver 15 rfl) cl_X1 fl_X1_69 (lk_0 (u2 σ (b + 5) i ((σ (b + 5) i) - 1)) h hb) (by decide) (by omega) rfl (fun _ => ⟨rfl, rfl⟩) (pk_f12 hb) ?_
  exact sw_ret O (xx_dt dd_X1_useWaiver 16 rfl) rfl (by rw [hQ]; exact ⟨rfl, by unfold g_useWaiver; rfl⟩)
def x_allPrices_4 (σ : XS9) (b : Nat)  (s0 : Int32) : Int32 := xit (fun i4 s4 => s4 + (σ (b + 1) i4)) 5 0 s0
def f_allPrices (σ : XS9) (b : Nat)  : Int32 := (x_allPrices_4 σ b 0)
theorem ct_X1_allPrices {l : Launch} {h : XH} (hl : l.stackTraces = false) {σ : XS9} {b : Nat} (hb : b = 2000 ∨ b = 3000)  : XEx l m_X1_allPrices 0 0 0 [.ref b] (setC σ h) (some (.int (f_allPrices σ b))) (setC σ h) := by
  refine XMet.of hl rfl rfl (Nat.le_of_ble_eq_true rfl) (fun Y O hh hQ => ?_)
  show SW Y 0 0 (setC σ h) 0 [.ref b, xx_d, xx_d] []
  refine sw_iconst (x := 0) O (xx_dt dd_X1_allPrices 0 rfl) (by decide) ?_
  refine sw_istore_n (ls2 := [.ref b, .int 0, xx_d]) O (xx_dt dd_X1_allPrices 1 rfl) (by decide) rfl ?_
  refine sw_iconst (x := 0) O (xx_dt dd_X1_allPrices 2 rfl) (by decide) ?_
  refine sw_istore_n (ls2 := [.ref b, .int 0, .int 0]) O (xx_dt dd_X1_allPrices 3 rfl) (by decide) rfl ?_
  refine sw_for (fun i4 s4 => s4 + (σ (b + 1) i4)) (fun _ _ => True) (hp := fun _ => setC σ h) (hd := 4) (lc := fun i4 s4 => [.ref b, .int s4, .int (nI i4)]) (N := 5) (fun i4 s4 hi4 hP4 => ⟨trivial, fun kk4 => ?_⟩) 5 0 0 (by omega) (trivial) (fun hP4 => ?_)
  · refine sw_iload_n O (xx_dt dd_X1_allPrices 4 rfl) rfl ?_
    refine sw_iconst (x := 5) O (xx_dt dd_X1_allPrices 5 rfl) (by decide) ?_
    refine sw_icmp_ge (tgt := 24) O (xx_dt dd_X1_allPrices 6 rfl) (by decide) (fun q1 => ?_) (fun q1 => ?_)
    · exact absurd q1 (nI_ge (b := 5) hi4 (by omega))
    · refine sw_iload_n O (xx_dt dd_X1_allPrices 7 rfl) rfl ?_
      refine sw_aload_n O (xx_dt dd_X1_allPrices 8 rfl) rfl ?_
      refine sw_get (v := .ref (b + 1)) O (xx_dt dd_X1_allPrices 9 rfl) cl_X1 fl_X1_9 (lk_0 σ h hb) (by decide) rfl ?_
      refine sw_iload_n O (xx_dt dd_X1_allPrices 10 rfl) rfl ?_
      refine sw_iaload (v := .int (σ (b + 1) i4)) O (xx_dt dd_X1_allPrices 11 rfl) (lk_1 σ h hb) (pk_in i4 _ (by omega)) (by rw [nI_clamp (by omega)]; try exact rfl) ?_
      refine sw_iadd O (xx_dt dd_X1_allPrices 12 rfl) ?_
      refine sw_istore_n (ls2 := [.ref b, .int (s4 + (σ (b + 1) i4)), .int (nI i4)]) O (xx_dt dd_X1_allPrices 13 rfl) (by decide) rfl ?_
      refine sw_iinc (y := nI (i4 + 1)) (ls2 := [.ref b, .int (s4 + (σ (b + 1) i4)), .int (nI (i4 + 1))]) O (xx_dt dd_X1_allPrices 14 rfl) rfl (nI_1 _) (by decide) rfl ?_
      refine sw_goto (tgt := 4) O (xx_dt dd_X1_allPrices 15 rfl) (by decide) ?_
      exact kk4
  · show SW Y _ _ (setC σ h) 4 [.ref b, .int (x_allPrices_4 σ b 0), .int (nI 5)] []
    refine sw_iload_n O (xx_dt dd_X1_allPrices 4 rfl) rfl ?_
    refine sw_iconst (x := 5) O (xx_dt dd_X1_allPrices 5 rfl) (by decide) ?_
    refine sw_icmp_ge (tgt := 24) O (xx_dt dd_X1_allPrices 6 rfl) (by decide) (fun q1 => ?_) (fun q1 => ?_)
    · refine sw_iload_n O (xx_dt dd_X1_allPrices 16 rfl) rfl ?_
      exact sw_iret O (xx_dt dd_X1_allPrices 17 rfl) rfl rfl (by rw [hQ]; exact ⟨by unfold f_allPrices; rfl, rfl⟩)
    · exact absurd (Int32.le_refl _) q1
def x_allContradictions_4 (σ : XS9) (b : Nat)  (s0 : Int32) : Int32 := xit (fun i4 s4 => s4 + (σ (b + 6) i4)) 6 0 s0
def f_allContradictions (σ : XS9) (b : Nat)  : Int32 := (x_allContradictions_4 σ b 0)
theorem ct_X1_allContradictions {l : Launch} {h : XH} (hl : l.stackTraces = false) {σ : XS9} {b : Nat} (hb : b = 2000 ∨ b = 3000)  : XEx l m_X1_allContradictions 0 0 0 [.ref b] (setC σ h) (some (.int (f_allContradictions σ b))) (setC σ h) := by
  refine XMet.of hl rfl rfl (Nat.le_of_ble_eq_true rfl) (fun Y O hh hQ => ?_)
  show SW Y 0 0 (setC σ h) 0 [.ref b, xx_d, xx_d] []
  refine sw_iconst (x := 0) O (xx_dt dd_X1_allContradictions 0 rfl) (by decide) ?_
  refine sw_istore_n (ls2 := [.ref b, .int 0, xx_d]) O (xx_dt dd_X1_allContradictions 1 rfl) (by decide) rfl ?_
  refine sw_iconst (x := 0) O (xx_dt dd_X1_allContradictions 2 rfl) (by decide) ?_
  refine sw_istore_n (ls2 := [.ref b, .int 0, .int 0]) O (xx_dt dd_X1_allContradictions 3 rfl) (by decide) rfl ?_
  refine sw_for (fun i4 s4 => s4 + (σ (b + 6) i4)) (fun _ _ => True) (hp := fun _ => setC σ h) (hd := 4) (lc := fun i4 s4 => [.ref b, .int s4, .int (nI i4)]) (N := 6) (fun i4 s4 hi4 hP4 => ⟨trivial, fun kk4 => ?_⟩) 6 0 0 (by omega) (trivial) (fun hP4 => ?_)
  · refine sw_iload_n O (xx_dt dd_X1_allContradictions 4 rfl) rfl ?_
    refine sw_bipush (x := 6) O (xx_dt dd_X1_allContradictions 5 rfl) (by decide) ?_
    refine sw_icmp_ge (tgt := 25) O (xx_dt dd_X1_allContradictions 6 rfl) (by decide) (fun q1 => ?_) (fun q1 => ?_)
    · exact absurd q1 (nI_ge (b := 6) hi4 (by omega))
    · refine sw_iload_n O (xx_dt dd_X1_allContradictions 7 rfl) rfl ?_
      refine sw_aload_n O (xx_dt dd_X1_allContradictions 8 rfl) rfl ?_
      refine sw_get (v := .ref (b + 6)) O (xx_dt dd_X1_allContradictions 9 rfl) cl_X1 fl_X1_27 (lk_0 σ h hb) (by decide) rfl ?_
      refine sw_iload_n O (xx_dt dd_X1_allContradictions 10 rfl) rfl ?_
      refine sw_iaload (v := .int (σ (b + 6) i4)) O (xx_dt dd_X1_allContradictions 11 rfl) (lk_6 σ h hb) (pk_in i4 _ (by omega)) (by rw [nI_clamp (by omega)]; try exact rfl) ?_
      refine sw_iadd O (xx_dt dd_X1_allContradictions 12 rfl) ?_
      refine sw_istore_n (ls2 := [.ref b, .int (s4 + (σ (b + 6) i4)), .int (nI i4)]) O (xx_dt dd_X1_allContradictions 13 rfl) (by decide) rfl ?_
      refine sw_iinc (y := nI (i4 + 1)) (ls2 := [.ref b, .int (s4 + (σ (b + 6) i4)), .int (nI (i4 + 1))]) O (xx_dt dd_X1_allContradictions 14 rfl) rfl (nI_1 _) (by decide) rfl ?_
      refine sw_goto (tgt := 4) O (xx_dt dd_X1_allContradictions 15 rfl) (by decide) ?_
      exact kk4
  · show SW Y _ _ (setC σ h) 4 [.ref b, .int (x_allContradictions_4 σ b 0), .int (nI 6)] []
    refine sw_iload_n O (xx_dt dd_X1_allContradictions 4 rfl) rfl ?_
    refine sw_bipush (x := 6) O (xx_dt dd_X1_allContradictions 5 rfl) (by decide) ?_
    refine sw_icmp_ge (tgt := 25) O (xx_dt dd_X1_allContradictions 6 rfl) (by decide) (fun q1 => ?_) (fun q1 => ?_)
    · refine sw_iload_n O (xx_dt dd_X1_allContradictions 16 rfl) rfl ?_
      exact sw_iret O (xx_dt dd_X1_allContradictions 17 rfl) rfl rfl (by rw [hQ]; exact ⟨by unfold f_allContradictions; rfl, rfl⟩)
    · exact absurd (Int32.le_refl _) q1
def x_wishedByAllies_6 (σ : XS9) (b : Nat) (i r B : Nat) (s0 : Int32) : Int32 := xit (fun i6 s6 => (if (f_areAllies σ i i6) = 0 then s6 else s6 + (f_many (σ (b + 3) i6) r))) B 0 s0
def f_wishedByAllies (σ : XS9) (b : Nat) (i r B : Nat) : Int32 := (x_wishedByAllies_6 σ b i r B 0)
theorem ct_X1_wishedByAllies {l : Launch} {h : XH} (hl : l.stackTraces = false) {σ : XS9} {b : Nat} (hb : b = 2000 ∨ b = 3000) {B : Nat} (hB : σ 1001 9 = nI B) (hB6 : B ≤ 6) {i r : Nat} (hi : i < 6) (hr : r < 5) : XEx l m_X1_wishedByAllies 1 0 0 [.ref b, .ref 1001, .int (nI i), .int (nI r)] (setC σ h) (some (.int (f_wishedByAllies σ b i r B))) (setC σ h) := by
  refine XMet.of hl rfl rfl (Nat.le_of_ble_eq_true rfl) (fun Y O hh hQ => ?_)
  show SW Y 0 0 (setC σ h) 0 [.ref b, .ref 1001, .int (nI i), .int (nI r), xx_d, xx_d] []
  refine sw_iconst (x := 0) O (xx_dt dd_X1_wishedByAllies 0 rfl) (by decide) ?_
  refine sw_istore (ls2 := [.ref b, .ref 1001, .int (nI i), .int (nI r), .int 0, xx_d]) O (xx_dt dd_X1_wishedByAllies 1 rfl) (by decide) rfl ?_
  refine sw_iconst (x := 0) O (xx_dt dd_X1_wishedByAllies 2 rfl) (by decide) ?_
  refine sw_istore (ls2 := [.ref b, .ref 1001, .int (nI i), .int (nI r), .int 0, .int 0]) O (xx_dt dd_X1_wishedByAllies 3 rfl) (by decide) rfl ?_
  refine sw_for (fun i6 s6 => (if (f_areAllies σ i i6) = 0 then s6 else s6 + (f_many (σ (b + 3) i6) r))) (fun _ _ => True) (hp := fun _ => setC σ h) (hd := 6) (lc := fun i6 s6 => [.ref b, .ref 1001, .int (nI i), .int (nI r), .int s6, .int (nI i6)]) (N := B) (fun i6 s6 hi6 hP6 => ⟨trivial, fun kk6 => ?_⟩) B 0 0 (by omega) (trivial) (fun hP6 => ?_)
  · refine sw_iload O (xx_dt dd_X1_wishedByAllies 4 rfl) rfl ?_
    refine sw_aload_n O (xx_dt dd_X1_wishedByAllies 5 rfl) rfl ?_
    refine sw_get (v := .int (nI B)) O (xx_dt dd_X1_wishedByAllies 6 rfl) cl_X6 fl_X1_99 (ly_1001 σ h) (by decide) (congrArg Value.int hB) ?_
    refine sw_icmp_ge (tgt := 47) O (xx_dt dd_X1_wishedByAllies 7 rfl) (by decide) (fun q1 => ?_) (fun q1 => ?_)
    · exact absurd q1 (nI_ge (b := B) hi6 (by omega))
    · refine sw_aload_n O (xx_dt dd_X1_wishedByAllies 8 rfl) rfl ?_
      refine sw_iload_n O (xx_dt dd_X1_wishedByAllies 9 rfl) rfl ?_
      refine sw_iload O (xx_dt dd_X1_wishedByAllies 10 rfl) rfl ?_
      refine sw_callVx (as := [.int (nI i), .int (nI i6)]) (st := []) (st2 := [.int (f_areAllies σ i i6)]) O (ct_X6_areAllies hl (σ := σ) (i := i) (j := i6) (by omega) (by omega)) ce_X6_areAllies ml_X1_102 iv_X6_areAllies cl_X6 rfl (ly_1001 σ h) (xx_dt dd_X1_wishedByAllies 11 rfl) (by decide) rfl rfl (Nat.le_of_ble_eq_true rfl) rfl ?_
      refine sw_if_eq (tgt := 41) O (xx_dt dd_X1_wishedByAllies 12 rfl) (by decide) (fun q2 => ?_) (fun q2 => ?_)
      · refine sw_iinc (y := nI (i6 + 1)) (ls2 := [.ref b, .ref 1001, .int (nI i), .int (nI r), .int s6, .int (nI (i6 + 1))]) O (xx_dt dd_X1_wishedByAllies 22 rfl) rfl (nI_1 _) (by decide) rfl ?_
        refine sw_goto (tgt := 6) O (xx_dt dd_X1_wishedByAllies 23 rfl) (by decide) ?_
        simp only [if_pos q2] at kk6
        exact kk6
      · refine sw_iload O (xx_dt dd_X1_wishedByAllies 13 rfl) rfl ?_
        refine sw_aload_n O (xx_dt dd_X1_wishedByAllies 14 rfl) rfl ?_
        refine sw_get (v := .ref (b + 3)) O (xx_dt dd_X1_wishedByAllies 15 rfl) cl_X1 fl_X1_18 (lk_0 σ h hb) (by decide) rfl ?_
        refine sw_iload O (xx_dt dd_X1_wishedByAllies 16 rfl) rfl ?_
        refine sw_iaload (v := .int (σ (b + 3) i6)) O (xx_dt dd_X1_wishedByAllies 17 rfl) (lk_3 σ h hb) (pk_in i6 _ (by omega)) (by rw [nI_clamp (by omega)]; try exact rfl) ?_
        refine sw_iload_n O (xx_dt dd_X1_wishedByAllies 18 rfl) rfl ?_
        refine sw_callSx (as := [.int (σ (b + 3) i6), .int (nI r)]) (st := [.int s6]) (st2 := [.int (f_many (σ (b + 3) i6) r), .int s6]) O (ct_X0_many hl (c := σ (b + 3) i6) (r := r) (by omega)) ce_X0_many ml_X1_72 st_X0_many (xx_dt dd_X1_wishedByAllies 19 rfl) (by decide) rfl rfl (Nat.le_of_ble_eq_true rfl) rfl ?_
        refine sw_iadd O (xx_dt dd_X1_wishedByAllies 20 rfl) ?_
        refine sw_istore (ls2 := [.ref b, .ref 1001, .int (nI i), .int (nI r), .int (s6 + (f_many (σ (b + 3) i6) r)), .int (nI i6)]) O (xx_dt dd_X1_wishedByAllies 21 rfl) (by decide) rfl ?_
        refine sw_iinc (y := nI (i6 + 1)) (ls2 := [.ref b, .ref 1001, .int (nI i), .int (nI r), .int (s6 + (f_many (σ (b + 3) i6) r)), .int (nI (i6 + 1))]) O (xx_dt dd_X1_wishedByAllies 22 rfl) rfl (nI_1 _) (by decide) rfl ?_
        refine sw_goto (tgt := 6) O (xx_dt dd_X1_wishedByAllies 23 rfl) (by decide) ?_
        simp only [if_neg q2] at kk6
        exact kk6
  · show SW Y _ _ (setC σ h) 6 [.ref b, .ref 1001, .int (nI i), .int (nI r), .int (x_wishedByAllies_6 σ b i r B 0), .int (nI B)] []
    refine sw_iload O (xx_dt dd_X1_wishedByAllies 4 rfl) rfl ?_
    refine sw_aload_n O (xx_dt dd_X1_wishedByAllies 5 rfl) rfl ?_
    refine sw_get (v := .int (nI B)) O (xx_dt dd_X1_wishedByAllies 6 rfl) cl_X6 fl_X1_99 (ly_1001 σ h) (by decide) (congrArg Value.int hB) ?_
    refine sw_icmp_ge (tgt := 47) O (xx_dt dd_X1_wishedByAllies 7 rfl) (by decide) (fun q1 => ?_) (fun q1 => ?_)
    · refine sw_iload O (xx_dt dd_X1_wishedByAllies 24 rfl) rfl ?_
      exact sw_iret O (xx_dt dd_X1_wishedByAllies 25 rfl) rfl rfl (by rw [hQ]; exact ⟨by unfold f_wishedByAllies; rfl, rfl⟩)
    · exact absurd (Int32.le_refl _) q1
def f_mayWish (σ : XS9) (b : Nat) (i r : Nat) (x : Int32) (B : Nat) : Int32 := (if (f_many (σ (b + 3) i) r) < x then (if (σ 1010 r) < x then 0 else (if (σ (b + 4) i) < (f_total (f_replaced (σ (b + 3) i) r x) 5 (σ 1011)) then 0 else (if (σ 1001 10) < (x + (f_wishedByAllies σ b i r B)) then 0 else 1))) else 1)
theorem ct_X1_mayWish {l : Launch} {h : XH} (hl : l.stackTraces = false) {σ : XS9} {b : Nat} (hb : b = 2000 ∨ b = 3000) {B : Nat} (hB : σ 1001 9 = nI B) (hB6 : B ≤ 6) {i r : Nat} {x : Int32} (hi : i < 6) (hr : r < 5) : XEx l m_X1_mayWish 2 0 0 [.ref b, .ref 1001, .int (nI i), .int (nI r), .int x] (setC σ h) (some (.int (f_mayWish σ b i r x B))) (setC σ h) := by
  refine XMet.of hl rfl rfl (Nat.le_of_ble_eq_true rfl) (fun Y O hh hQ => ?_)
  show SW Y 0 0 (setC σ h) 0 [.ref b, .ref 1001, .int (nI i), .int (nI r), .int x, xx_d, xx_d] []
  refine sw_aload_n O (xx_dt dd_X1_mayWish 0 rfl) rfl ?_
  refine sw_get (v := .ref (b + 3)) O (xx_dt dd_X1_mayWish 1 rfl) cl_X1 fl_X1_18 (lk_0 σ h hb) (by decide) rfl ?_
  refine sw_iload_n O (xx_dt dd_X1_mayWish 2 rfl) rfl ?_
  refine sw_iaload (v := .int (σ (b + 3) i)) O (xx_dt dd_X1_mayWish 3 rfl) (lk_3 σ h hb) (pk_in i _ (by omega)) (by rw [nI_clamp (by omega)]; try exact rfl) ?_
  refine sw_istore (ls2 := [.ref b, .ref 1001, .int (nI i), .int (nI r), .int x, .int (σ (b + 3) i), xx_d]) O (xx_dt dd_X1_mayWish 4 rfl) (by decide) rfl ?_
  refine sw_iload O (xx_dt dd_X1_mayWish 5 rfl) rfl ?_
  refine sw_iload O (xx_dt dd_X1_mayWish 6 rfl) rfl ?_
  refine sw_iload_n O (xx_dt dd_X1_mayWish 7 rfl) rfl ?_
  refine sw_callSx (as := [.int (σ (b + 3) i), .int (nI r)]) (st := [.int x]) (st2 := [.int (f_many (σ (b + 3) i) r), .int x]) O (ct_X0_many hl (c := σ (b + 3) i) (r := r) (by omega)) ce_X0_many ml_X1_72 st_X0_many (xx_dt dd_X1_mayWish 8 rfl) (by decide) rfl rfl (Nat.le_of_ble_eq_true rfl) rfl ?_
  refine sw_icmp_gt (tgt := 21) O (xx_dt dd_X1_mayWish 9 rfl) (by decide) (fun q1 => ?_) (fun q1 => ?_)
  · refine sw_iload O (xx_dt dd_X1_mayWish 12 rfl) rfl ?_
    refine sw_iload_n O (xx_dt dd_X1_mayWish 13 rfl) rfl ?_
    refine sw_iload O (xx_dt dd_X1_mayWish 14 rfl) rfl ?_
    refine sw_callSx (as := [.int (σ (b + 3) i), .int (nI r), .int x]) (st := []) (st2 := [.int (f_replaced (σ (b + 3) i) r x)]) O (ct_X0_replaced hl (c := σ (b + 3) i) (m := x) (r := r) (by omega)) ce_X0_replaced ml_X1_78 st_X0_replaced (xx_dt dd_X1_mayWish 15 rfl) (by decide) rfl rfl (Nat.le_of_ble_eq_true rfl) rfl ?_
    refine sw_aload_n O (xx_dt dd_X1_mayWish 16 rfl) rfl ?_
    refine sw_get (v := .ref 1011) O (xx_dt dd_X1_mayWish 17 rfl) cl_X6 fl_X1_82 (ly_1001 σ h) (by decide) rfl ?_
    refine sw_callSx (as := [.int (f_replaced (σ (b + 3) i) r x), .ref 1011]) (st := []) (st2 := [.int (f_total (f_replaced (σ (b + 3) i) r x) 5 (σ 1011))]) O (ct_X0_total hl (c := f_replaced (σ (b + 3) i) r x) (f := σ 1011) (ia_1011.getE rfl) (by omega)) ce_X0_total ml_X1_85 st_X0_total (xx_dt dd_X1_mayWish 18 rfl) (by decide) rfl rfl (Nat.le_of_ble_eq_true rfl) rfl ?_
    refine sw_istore (ls2 := [.ref b, .ref 1001, .int (nI i), .int (nI r), .int x, .int (σ (b + 3) i), .int (f_total (f_replaced (σ (b + 3) i) r x) 5 (σ 1011))]) O (xx_dt dd_X1_mayWish 19 rfl) (by decide) rfl ?_
    refine sw_iload O (xx_dt dd_X1_mayWish 20 rfl) rfl ?_
    refine sw_aload_n O (xx_dt dd_X1_mayWish 21 rfl) rfl ?_
    refine sw_get (v := .ref 1010) O (xx_dt dd_X1_mayWish 22 rfl) cl_X6 fl_X1_89 (ly_1001 σ h) (by decide) rfl ?_
    refine sw_iload_n O (xx_dt dd_X1_mayWish 23 rfl) rfl ?_
    refine sw_iaload (v := .int (σ 1010 r)) O (xx_dt dd_X1_mayWish 24 rfl) (ly_1010 σ h) (pk_in r _ (by omega)) (by rw [nI_clamp (by omega)]; try exact rfl) ?_
    refine sw_icmp_gt (tgt := 81) O (xx_dt dd_X1_mayWish 25 rfl) (by decide) (fun q2 => ?_) (fun q2 => ?_)
    · refine sw_iconst (x := 0) O (xx_dt dd_X1_mayWish 44 rfl) (by decide) ?_
      exact sw_iret O (xx_dt dd_X1_mayWish 45 rfl) rfl rfl (by rw [hQ]; exact ⟨by unfold f_mayWish; simp only [if_pos q1, if_pos q2], rfl⟩)
    · refine sw_iload O (xx_dt dd_X1_mayWish 26 rfl) rfl ?_
      refine sw_aload_n O (xx_dt dd_X1_mayWish 27 rfl) rfl ?_
      refine sw_get (v := .ref (b + 4)) O (xx_dt dd_X1_mayWish 28 rfl) cl_X1 fl_X1_21 (lk_0 σ h hb) (by decide) rfl ?_
      refine sw_iload_n O (xx_dt dd_X1_mayWish 29 rfl) rfl ?_
      refine sw_iaload (v := .int (σ (b + 4) i)) O (xx_dt dd_X1_mayWish 30 rfl) (lk_4 σ h hb) (pk_in i _ (by omega)) (by rw [nI_clamp (by omega)]; try exact rfl) ?_
      refine sw_icmp_gt (tgt := 81) O (xx_dt dd_X1_mayWish 31 rfl) (by decide) (fun q3 => ?_) (fun q3 => ?_)
      · refine sw_iconst (x := 0) O (xx_dt dd_X1_mayWish 44 rfl) (by decide) ?_
        exact sw_iret O (xx_dt dd_X1_mayWish 45 rfl) rfl rfl (by rw [hQ]; exact ⟨by unfold f_mayWish; simp only [if_pos q1, if_neg q2, if_pos q3], rfl⟩)
      · refine sw_iload O (xx_dt dd_X1_mayWish 32 rfl) rfl ?_
        refine sw_aload_n O (xx_dt dd_X1_mayWish 33 rfl) rfl ?_
        refine sw_aload_n O (xx_dt dd_X1_mayWish 34 rfl) rfl ?_
        refine sw_iload_n O (xx_dt dd_X1_mayWish 35 rfl) rfl ?_
        refine sw_iload_n O (xx_dt dd_X1_mayWish 36 rfl) rfl ?_
        refine sw_callVx (as := [.ref 1001, .int (nI i), .int (nI r)]) (st := [.int x]) (st2 := [.int (f_wishedByAllies σ b i r B), .int x]) O (ct_X1_wishedByAllies hl (σ := σ) hb (B := B) hB (by omega) (i := i) (r := r) (by omega) (by omega)) ce_X1_wishedByAllies ml_X1_92 iv_X1_wishedByAllies cl_X1 rfl (lk_0 σ h hb) (xx_dt dd_X1_mayWish 37 rfl) (by decide) rfl rfl (Nat.le_of_ble_eq_true rfl) rfl ?_
        refine sw_iadd O (xx_dt dd_X1_mayWish 38 rfl) ?_
        refine sw_aload_n O (xx_dt dd_X1_mayWish 39 rfl) rfl ?_
        refine sw_get (v := .int (σ 1001 10)) O (xx_dt dd_X1_mayWish 40 rfl) cl_X6 fl_X1_96 (ly_1001 σ h) (by decide) rfl ?_
        refine sw_icmp_gt (tgt := 81) O (xx_dt dd_X1_mayWish 41 rfl) (by decide) (fun q4 => ?_) (fun q4 => ?_)
        · refine sw_iconst (x := 0) O (xx_dt dd_X1_mayWish 44 rfl) (by decide) ?_
          exact sw_iret O (xx_dt dd_X1_mayWish 45 rfl) rfl rfl (by rw [hQ]; exact ⟨by unfold f_mayWish; simp only [if_pos q1, if_neg q2, if_neg q3, if_pos q4], rfl⟩)
        · refine sw_iconst (x := 1) O (xx_dt dd_X1_mayWish 42 rfl) (by decide) ?_
          refine sw_goto (tgt := 82) O (xx_dt dd_X1_mayWish 43 rfl) (by decide) ?_
          exact sw_iret O (xx_dt dd_X1_mayWish 45 rfl) rfl rfl (by rw [hQ]; exact ⟨by unfold f_mayWish; simp only [if_pos q1, if_neg q2, if_neg q3, if_neg q4], rfl⟩)
  · refine sw_iconst (x := 1) O (xx_dt dd_X1_mayWish 10 rfl) (by decide) ?_
    exact sw_iret O (xx_dt dd_X1_mayWish 11 rfl) rfl rfl (by rw [hQ]; exact ⟨by unfold f_mayWish; simp only [if_neg q1], rfl⟩)
def f_greatestWish (σ : XS9) (b : Nat) (i r : Nat) (B : Nat) : Int32 := (if (f_mayWish σ b i r 5 B) = 0 then (if (f_mayWish σ b i r 4 B) = 0 then (if (f_mayWish σ b i r 3 B) = 0 then (if (f_mayWish σ b i r 2 B) = 0 then (if (f_mayWish σ b i r 1 B) = 0 then 0 else 1) else 2) else 3) else 4) else 5)
theorem ct_X1_greatestWish {l : Launch} {h : XH} (hl : l.stackTraces = false) {σ : XS9} {b : Nat} (hb : b = 2000 ∨ b = 3000) {B : Nat} (hB : σ 1001 9 = nI B) (hB6 : B ≤ 6) {i r : Nat} (hi : i < 6) (hr : r < 5) : XEx l m_X1_greatestWish 3 0 0 [.ref b, .ref 1001, .int (nI i), .int (nI r)] (setC σ h) (some (.int (f_greatestWish σ b i r B))) (setC σ h) := by
  refine XMet.of hl rfl rfl (Nat.le_of_ble_eq_true rfl) (fun Y O hh hQ => ?_)
  show SW Y 0 0 (setC σ h) 0 [.ref b, .ref 1001, .int (nI i), .int (nI r), xx_d] []
  refine sw_iconst (x := 5) O (xx_dt dd_X1_greatestWish 0 rfl) (by decide) ?_
  refine sw_istore (ls2 := [.ref b, .ref 1001, .int (nI i), .int (nI r), .int 5]) O (xx_dt dd_X1_greatestWish 1 rfl) (by decide) rfl ?_
  refine sw_iload O (xx_dt dd_X1_greatestWish 2 rfl) rfl ?_
  refine sw_if_le (tgt := 29) O (xx_dt dd_X1_greatestWish 3 rfl) (by decide) (fun q1 => ?_) (fun q1 => ?_)
  · exact absurd q1 (by decide)
  · refine sw_aload_n O (xx_dt dd_X1_greatestWish 4 rfl) rfl ?_
    refine sw_aload_n O (xx_dt dd_X1_greatestWish 5 rfl) rfl ?_
    refine sw_iload_n O (xx_dt dd_X1_greatestWish 6 rfl) rfl ?_
    refine sw_iload_n O (xx_dt dd_X1_greatestWish 7 rfl) rfl ?_
    refine sw_iload O (xx_dt dd_X1_greatestWish 8 rfl) rfl ?_
    refine sw_callVx (as := [.ref 1001, .int (nI i), .int (nI r), .int 5]) (st := []) (st2 := [.int (f_mayWish σ b i r 5 B)]) O (ct_X1_mayWish hl (σ := σ) hb (B := B) hB (by omega) (i := i) (r := r) (x := 5) (by omega) (by omega)) ce_X1_mayWish ml_X1_106 iv_X1_mayWish cl_X1 rfl (lk_0 σ h hb) (xx_dt dd_X1_greatestWish 9 rfl) (by decide) rfl rfl (Nat.le_of_ble_eq_true rfl) rfl ?_
    refine sw_if_eq (tgt := 23) O (xx_dt dd_X1_greatestWish 10 rfl) (by decide) (fun q2 => ?_) (fun q2 => ?_)
    · refine sw_iinc (y := 4) (ls2 := [.ref b, .ref 1001, .int (nI i), .int (nI r), .int 4]) O (xx_dt dd_X1_greatestWish 13 rfl) rfl (by decide) (by decide) rfl ?_
      refine sw_goto (tgt := 3) O (xx_dt dd_X1_greatestWish 14 rfl) (by decide) ?_
      refine sw_iload O (xx_dt dd_X1_greatestWish 2 rfl) rfl ?_
      refine sw_if_le (tgt := 29) O (xx_dt dd_X1_greatestWish 3 rfl) (by decide) (fun q3 => ?_) (fun q3 => ?_)
      · exact absurd q3 (by decide)
      · refine sw_aload_n O (xx_dt dd_X1_greatestWish 4 rfl) rfl ?_
        refine sw_aload_n O (xx_dt dd_X1_greatestWish 5 rfl) rfl ?_
        refine sw_iload_n O (xx_dt dd_X1_greatestWish 6 rfl) rfl ?_
        refine sw_iload_n O (xx_dt dd_X1_greatestWish 7 rfl) rfl ?_
        refine sw_iload O (xx_dt dd_X1_greatestWish 8 rfl) rfl ?_
        refine sw_callVx (as := [.ref 1001, .int (nI i), .int (nI r), .int 4]) (st := []) (st2 := [.int (f_mayWish σ b i r 4 B)]) O (ct_X1_mayWish hl (σ := σ) hb (B := B) hB (by omega) (i := i) (r := r) (x := 4) (by omega) (by omega)) ce_X1_mayWish ml_X1_106 iv_X1_mayWish cl_X1 rfl (lk_0 σ h hb) (xx_dt dd_X1_greatestWish 9 rfl) (by decide) rfl rfl (Nat.le_of_ble_eq_true rfl) rfl ?_
        refine sw_if_eq (tgt := 23) O (xx_dt dd_X1_greatestWish 10 rfl) (by decide) (fun q4 => ?_) (fun q4 => ?_)
        · refine sw_iinc (y := 3) (ls2 := [.ref b, .ref 1001, .int (nI i), .int (nI r), .int 3]) O (xx_dt dd_X1_greatestWish 13 rfl) rfl (by decide) (by decide) rfl ?_
          refine sw_goto (tgt := 3) O (xx_dt dd_X1_greatestWish 14 rfl) (by decide) ?_
          refine sw_iload O (xx_dt dd_X1_greatestWish 2 rfl) rfl ?_
          refine sw_if_le (tgt := 29) O (xx_dt dd_X1_greatestWish 3 rfl) (by decide) (fun q5 => ?_) (fun q5 => ?_)
          · exact absurd q5 (by decide)
          · refine sw_aload_n O (xx_dt dd_X1_greatestWish 4 rfl) rfl ?_
            refine sw_aload_n O (xx_dt dd_X1_greatestWish 5 rfl) rfl ?_
            refine sw_iload_n O (xx_dt dd_X1_greatestWish 6 rfl) rfl ?_
            refine sw_iload_n O (xx_dt dd_X1_greatestWish 7 rfl) rfl ?_
            refine sw_iload O (xx_dt dd_X1_greatestWish 8 rfl) rfl ?_
            refine sw_callVx (as := [.ref 1001, .int (nI i), .int (nI r), .int 3]) (st := []) (st2 := [.int (f_mayWish σ b i r 3 B)]) O (ct_X1_mayWish hl (σ := σ) hb (B := B) hB (by omega) (i := i) (r := r) (x := 3) (by omega) (by omega)) ce_X1_mayWish ml_X1_106 iv_X1_mayWish cl_X1 rfl (lk_0 σ h hb) (xx_dt dd_X1_greatestWish 9 rfl) (by decide) rfl rfl (Nat.le_of_ble_eq_true rfl) rfl ?_
            refine sw_if_eq (tgt := 23) O (xx_dt dd_X1_greatestWish 10 rfl) (by decide) (fun q6 => ?_) (fun q6 => ?_)
            · refine sw_iinc (y := 2) (ls2 := [.ref b, .ref 1001, .int (nI i), .int (nI r), .int 2]) O (xx_dt dd_X1_greatestWish 13 rfl) rfl (by decide) (by decide) rfl ?_
              refine sw_goto (tgt := 3) O (xx_dt dd_X1_greatestWish 14 rfl) (by decide) ?_
              refine sw_iload O (xx_dt dd_X1_greatestWish 2 rfl) rfl ?_
              refine sw_if_le (tgt := 29) O (xx_dt dd_X1_greatestWish 3 rfl) (by decide) (fun q7 => ?_) (fun q7 => ?_)
              · exact absurd q7 (by decide)
              · refine sw_aload_n O (xx_dt dd_X1_greatestWish 4 rfl) rfl ?_
                refine sw_aload_n O (xx_dt dd_X1_greatestWish 5 rfl) rfl ?_
                refine sw_iload_n O (xx_dt dd_X1_greatestWish 6 rfl) rfl ?_
                refine sw_iload_n O (xx_dt dd_X1_greatestWish 7 rfl) rfl ?_
                refine sw_iload O (xx_dt dd_X1_greatestWish 8 rfl) rfl ?_
                refine sw_callVx (as := [.ref 1001, .int (nI i), .int (nI r), .int 2]) (st := []) (st2 := [.int (f_mayWish σ b i r 2 B)]) O (ct_X1_mayWish hl (σ := σ) hb (B := B) hB (by omega) (i := i) (r := r) (x := 2) (by omega) (by omega)) ce_X1_mayWish ml_X1_106 iv_X1_mayWish cl_X1 rfl (lk_0 σ h hb) (xx_dt dd_X1_greatestWish 9 rfl) (by decide) rfl rfl (Nat.le_of_ble_eq_true rfl) rfl ?_
                refine sw_if_eq (tgt := 23) O (xx_dt dd_X1_greatestWish 10 rfl) (by decide) (fun q8 => ?_) (fun q8 => ?_)
                · refine sw_iinc (y := 1) (ls2 := [.ref b, .ref 1001, .int (nI i), .int (nI r), .int 1]) O (xx_dt dd_X1_greatestWish 13 rfl) rfl (by decide) (by decide) rfl ?_
                  refine sw_goto (tgt := 3) O (xx_dt dd_X1_greatestWish 14 rfl) (by decide) ?_
                  refine sw_iload O (xx_dt dd_X1_greatestWish 2 rfl) rfl ?_
                  refine sw_if_le (tgt := 29) O (xx_dt dd_X1_greatestWish 3 rfl) (by decide) (fun q9 => ?_) (fun q9 => ?_)
                  · exact absurd q9 (by decide)
                  · refine sw_aload_n O (xx_dt dd_X1_greatestWish 4 rfl) rfl ?_
                    refine sw_aload_n O (xx_dt dd_X1_greatestWish 5 rfl) rfl ?_
                    refine sw_iload_n O (xx_dt dd_X1_greatestWish 6 rfl) rfl ?_
                    refine sw_iload_n O (xx_dt dd_X1_greatestWish 7 rfl) rfl ?_
                    refine sw_iload O (xx_dt dd_X1_greatestWish 8 rfl) rfl ?_
                    refine sw_callVx (as := [.ref 1001, .int (nI i), .int (nI r), .int 1]) (st := []) (st2 := [.int (f_mayWish σ b i r 1 B)]) O (ct_X1_mayWish hl (σ := σ) hb (B := B) hB (by omega) (i := i) (r := r) (x := 1) (by omega) (by omega)) ce_X1_mayWish ml_X1_106 iv_X1_mayWish cl_X1 rfl (lk_0 σ h hb) (xx_dt dd_X1_greatestWish 9 rfl) (by decide) rfl rfl (Nat.le_of_ble_eq_true rfl) rfl ?_
                    refine sw_if_eq (tgt := 23) O (xx_dt dd_X1_greatestWish 10 rfl) (by decide) (fun q10 => ?_) (fun q10 => ?_)
                    · refine sw_iinc (y := 0) (ls2 := [.ref b, .ref 1001, .int (nI i), .int (nI r), .int 0]) O (xx_dt dd_X1_greatestWish 13 rfl) rfl (by decide) (by decide) rfl ?_
                      refine sw_goto (tgt := 3) O (xx_dt dd_X1_greatestWish 14 rfl) (by decide) ?_
                      refine sw_iload O (xx_dt dd_X1_greatestWish 2 rfl) rfl ?_
                      refine sw_if_le (tgt := 29) O (xx_dt dd_X1_greatestWish 3 rfl) (by decide) (fun q11 => ?_) (fun q11 => ?_)
                      · refine sw_iconst (x := 0) O (xx_dt dd_X1_greatestWish 15 rfl) (by decide) ?_
                        exact sw_iret O (xx_dt dd_X1_greatestWish 16 rfl) rfl rfl (by rw [hQ]; exact ⟨by unfold f_greatestWish; simp only [if_pos q2, if_pos q4, if_pos q6, if_pos q8, if_pos q10], rfl⟩)
                      · exact absurd q11 (by decide)
                    · refine sw_iload O (xx_dt dd_X1_greatestWish 11 rfl) rfl ?_
                      exact sw_iret O (xx_dt dd_X1_greatestWish 12 rfl) rfl rfl (by rw [hQ]; exact ⟨by unfold f_greatestWish; simp only [if_pos q2, if_pos q4, if_pos q6, if_pos q8, if_neg q10], rfl⟩)
                · refine sw_iload O (xx_dt dd_X1_greatestWish 11 rfl) rfl ?_
                  exact sw_iret O (xx_dt dd_X1_greatestWish 12 rfl) rfl rfl (by rw [hQ]; exact ⟨by unfold f_greatestWish; simp only [if_pos q2, if_pos q4, if_pos q6, if_neg q8], rfl⟩)
            · refine sw_iload O (xx_dt dd_X1_greatestWish 11 rfl) rfl ?_
              exact sw_iret O (xx_dt dd_X1_greatestWish 12 rfl) rfl rfl (by rw [hQ]; exact ⟨by unfold f_greatestWish; simp only [if_pos q2, if_pos q4, if_neg q6], rfl⟩)
        · refine sw_iload O (xx_dt dd_X1_greatestWish 11 rfl) rfl ?_
          exact sw_iret O (xx_dt dd_X1_greatestWish 12 rfl) rfl rfl (by rw [hQ]; exact ⟨by unfold f_greatestWish; simp only [if_pos q2, if_neg q4], rfl⟩)
    · refine sw_iload O (xx_dt dd_X1_greatestWish 11 rfl) rfl ?_
      exact sw_iret O (xx_dt dd_X1_greatestWish 12 rfl) rfl rfl (by rw [hQ]; exact ⟨by unfold f_greatestWish; simp only [if_neg q2], rfl⟩)
def f_lastValue (σ : XS9) (b : Nat) (c : Int32) (K : Nat) : Int32 := f_total c 5 (σ (b + 101 + K))
theorem ct_X1_lastValue {l : Launch} {h : XH} (hl : l.stackTraces = false) {σ : XS9} {b : Nat} (hb : b = 2000 ∨ b = 3000) {c : Int32} {K : Nat} (hK : σ b 9 = nI (K + 1)) (hK60 : K < 60) : XEx l m_X1_lastValue 1 0 0 [.ref b, .int c] (setC σ h) (some (.int (f_lastValue σ b c K))) (setC σ h) := by
  refine XMet.of hl rfl rfl (Nat.le_of_ble_eq_true rfl) (fun Y O hh hQ => ?_)
  show SW Y 0 0 (setC σ h) 0 [.ref b, .int c] []
  refine sw_aload_n O (xx_dt dd_X1_lastValue 0 rfl) rfl ?_
  refine sw_get (v := .int (nI (K + 1))) O (xx_dt dd_X1_lastValue 1 rfl) cl_X1 fl_X1_65 (lk_0 σ h hb) (by decide) (congrArg Value.int hK) ?_
  refine sw_if_le (tgt := 25) O (xx_dt dd_X1_lastValue 2 rfl) (by decide) (fun q1 => ?_) (fun q1 => ?_)
  · exact absurd q1 (nI_ge (a := 0) (b := K + 1) (by omega) (by omega))
  · refine sw_iload_n O (xx_dt dd_X1_lastValue 3 rfl) rfl ?_
    refine sw_aload_n O (xx_dt dd_X1_lastValue 4 rfl) rfl ?_
    refine sw_get (v := .ref (b + 100)) O (xx_dt dd_X1_lastValue 5 rfl) cl_X1 fl_X1_32 (lk_0 σ h hb) (by decide) rfl ?_
    refine sw_aload_n O (xx_dt dd_X1_lastValue 6 rfl) rfl ?_
    refine sw_get (v := .int (nI (K + 1))) O (xx_dt dd_X1_lastValue 7 rfl) cl_X1 fl_X1_65 (lk_0 σ h hb) (by decide) (congrArg Value.int hK) ?_
    refine sw_iconst (x := 1) O (xx_dt dd_X1_lastValue 8 rfl) (by decide) ?_
    refine sw_isub O (xx_dt dd_X1_lastValue 9 rfl) ?_
    rw [nI_s1 K]
    refine sw_aaload (v := .ref (b + 101 + K)) O (xx_dt dd_X1_lastValue 10 rfl) (by omega) (by omega) (lk_100 σ h hb) (pk_in K _ (by omega)) (by rw [nI_clamp (by omega)]; try exact rfl) ?_
    refine sw_callSx (as := [.int c, .ref (b + 101 + K)]) (st := []) (st2 := [.int (f_total c 5 (σ (b + 101 + K)))]) O (ct_X0_total hl (c := c) (f := σ (b + 101 + K)) ((ikr_100 hb (k := K) (by omega)).getE rfl) (by omega)) ce_X0_total ml_X1_85 st_X0_total (xx_dt dd_X1_lastValue 11 rfl) (by decide) rfl rfl (Nat.le_of_ble_eq_true rfl) rfl ?_
    refine sw_goto (tgt := 26) O (xx_dt dd_X1_lastValue 12 rfl) (by decide) ?_
    exact sw_iret O (xx_dt dd_X1_lastValue 14 rfl) rfl rfl (by rw [hQ]; exact ⟨by unfold f_lastValue; rfl, rfl⟩)
def x_contradictedRound_2 (σ : XS9) (b : Nat) (i K : Nat) (s0 : Unit) : Unit ⊕ Int32 := xitR (fun i2 s2 => (if (f_dearer (σ (b + 3) i) (σ (b + 301 + i2) i) 5 (σ (b + 1)) (σ (b + 101 + i2))) ≤ 0 then .inl () else .inr (nI (i2 + 1)))) K 0 s0
def f_contradictedRound (σ : XS9) (b : Nat) (i K : Nat) : Int32 := (match (x_contradictedRound_2 σ b i K ()) with | .inl s2 => (-1) | .inr r2 => r2)
theorem ct_X1_contradictedRound {l : Launch} {h : XH} (hl : l.stackTraces = false) {σ : XS9} {b : Nat} (hb : b = 2000 ∨ b = 3000) {K : Nat} (hK : σ b 9 = nI K) (hK60 : K ≤ 60) {i : Nat} (hi : i < 6) : XEx l m_X1_contradictedRound 1 0 0 [.ref b, .int (nI i)] (setC σ h) (some (.int (f_contradictedRound σ b i K))) (setC σ h) := by
  refine XMet.of hl rfl rfl (Nat.le_of_ble_eq_true rfl) (fun Y O hh hQ => ?_)
  show SW Y 0 0 (setC σ h) 0 [.ref b, .int (nI i), xx_d] []
  refine sw_iconst (x := 0) O (xx_dt dd_X1_contradictedRound 0 rfl) (by decide) ?_
  refine sw_istore_n (ls2 := [.ref b, .int (nI i), .int 0]) O (xx_dt dd_X1_contradictedRound 1 rfl) (by decide) rfl ?_
  refine sw_forR (R := Int32) (fun i2 s2 => (if (f_dearer (σ (b + 3) i) (σ (b + 301 + i2) i) 5 (σ (b + 1)) (σ (b + 101 + i2))) ≤ 0 then .inl () else .inr (nI (i2 + 1)))) (fun _ _ => True) (FR := fun r => f_contradictedRound σ b i K = r) (hp := fun _ => setC σ h) (hd := 2) (lc := fun i2 s2 => [.ref b, .int (nI i), .int (nI i2)]) (N := K) (fun i2 s2 hi2 hP2 => ⟨fun _ _ => trivial, fun kk2 kr2 => ?_⟩) K 0 () (by omega) (trivial) (fun sN2 eN2 hP2 => ?_) (fun r2 eN2 => ?_)
  · refine sw_iload_n O (xx_dt dd_X1_contradictedRound 2 rfl) rfl ?_
    refine sw_aload_n O (xx_dt dd_X1_contradictedRound 3 rfl) rfl ?_
    refine sw_get (v := .int (nI K)) O (xx_dt dd_X1_contradictedRound 4 rfl) cl_X1 fl_X1_65 (lk_0 σ h hb) (by decide) (congrArg Value.int hK) ?_
    refine sw_icmp_ge (tgt := 50) O (xx_dt dd_X1_contradictedRound 5 rfl) (by decide) (fun q1 => ?_) (fun q1 => ?_)
    · exact absurd q1 (nI_ge (b := K) hi2 (by omega))
    · refine sw_aload_n O (xx_dt dd_X1_contradictedRound 6 rfl) rfl ?_
      refine sw_get (v := .ref (b + 3)) O (xx_dt dd_X1_contradictedRound 7 rfl) cl_X1 fl_X1_18 (lk_0 σ h hb) (by decide) rfl ?_
      refine sw_iload_n O (xx_dt dd_X1_contradictedRound 8 rfl) rfl ?_
      refine sw_iaload (v := .int (σ (b + 3) i)) O (xx_dt dd_X1_contradictedRound 9 rfl) (lk_3 σ h hb) (pk_in i _ (by omega)) (by rw [nI_clamp (by omega)]; try exact rfl) ?_
      refine sw_aload_n O (xx_dt dd_X1_contradictedRound 10 rfl) rfl ?_
      refine sw_get (v := .ref (b + 300)) O (xx_dt dd_X1_contradictedRound 11 rfl) cl_X1 fl_X1_38 (lk_0 σ h hb) (by decide) rfl ?_
      refine sw_iload_n O (xx_dt dd_X1_contradictedRound 12 rfl) rfl ?_
      refine sw_aaload (v := .ref (b + 301 + i2)) O (xx_dt dd_X1_contradictedRound 13 rfl) (by omega) (by omega) (lk_300 σ h hb) (pk_in i2 _ (by omega)) (by rw [nI_clamp (by omega)]; try exact rfl) ?_
      refine sw_iload_n O (xx_dt dd_X1_contradictedRound 14 rfl) rfl ?_
      refine sw_iaload (v := .int (σ (b + 301 + i2) i)) O (xx_dt dd_X1_contradictedRound 15 rfl) (lkr_300 σ h hb (k := i2) (by omega)) (pk_in i _ (by omega)) (by rw [nI_clamp (by omega)]; try exact rfl) ?_
      refine sw_aload_n O (xx_dt dd_X1_contradictedRound 16 rfl) rfl ?_
      refine sw_get (v := .ref (b + 1)) O (xx_dt dd_X1_contradictedRound 17 rfl) cl_X1 fl_X1_9 (lk_0 σ h hb) (by decide) rfl ?_
      refine sw_aload_n O (xx_dt dd_X1_contradictedRound 18 rfl) rfl ?_
      refine sw_get (v := .ref (b + 100)) O (xx_dt dd_X1_contradictedRound 19 rfl) cl_X1 fl_X1_32 (lk_0 σ h hb) (by decide) rfl ?_
      refine sw_iload_n O (xx_dt dd_X1_contradictedRound 20 rfl) rfl ?_
      refine sw_aaload (v := .ref (b + 101 + i2)) O (xx_dt dd_X1_contradictedRound 21 rfl) (by omega) (by omega) (lk_100 σ h hb) (pk_in i2 _ (by omega)) (by rw [nI_clamp (by omega)]; try exact rfl) ?_
      refine sw_callSx (as := [.int (σ (b + 3) i), .int (σ (b + 301 + i2) i), .ref (b + 1), .ref (b + 101 + i2)]) (st := []) (st2 := [.int (f_dearer (σ (b + 3) i) (σ (b + 301 + i2) i) 5 (σ (b + 1)) (σ (b + 101 + i2)))]) O (ct_X0_dearer hl (c := σ (b + 3) i) (d := σ (b + 301 + i2) i) (f := σ (b + 1)) (g := σ (b + 101 + i2)) ((ik_1 hb).getE rfl) ((ikr_100 hb (k := i2) (by omega)).getE rfl) (by omega)) ce_X0_dearer ml_X1_136 st_X0_dearer (xx_dt dd_X1_contradictedRound 22 rfl) (by decide) rfl rfl (Nat.le_of_ble_eq_true rfl) rfl ?_
      refine sw_if_le (tgt := 44) O (xx_dt dd_X1_contradictedRound 23 rfl) (by decide) (fun q2 => ?_) (fun q2 => ?_)
      · refine sw_iinc (y := nI (i2 + 1)) (ls2 := [.ref b, .int (nI i), .int (nI (i2 + 1))]) O (xx_dt dd_X1_contradictedRound 28 rfl) rfl (nI_1 _) (by decide) rfl ?_
        refine sw_goto (tgt := 2) O (xx_dt dd_X1_contradictedRound 29 rfl) (by decide) ?_
        exact kk2 () (by simp only [if_pos q2])
      · refine sw_iload_n O (xx_dt dd_X1_contradictedRound 24 rfl) rfl ?_
        refine sw_iconst (x := 1) O (xx_dt dd_X1_contradictedRound 25 rfl) (by decide) ?_
        refine sw_iadd O (xx_dt dd_X1_contradictedRound 26 rfl) ?_
        rw [nI_a1 i2]
        exact sw_iret O (xx_dt dd_X1_contradictedRound 27 rfl) rfl rfl (by rw [hQ, kr2 (nI (i2 + 1)) (by simp only [if_neg q2])]; exact ⟨rfl, rfl⟩)
  · show SW Y _ _ (setC σ h) 2 [.ref b, .int (nI i), .int (nI K)] []
    refine sw_iload_n O (xx_dt dd_X1_contradictedRound 2 rfl) rfl ?_
    refine sw_aload_n O (xx_dt dd_X1_contradictedRound 3 rfl) rfl ?_
    refine sw_get (v := .int (nI K)) O (xx_dt dd_X1_contradictedRound 4 rfl) cl_X1 fl_X1_65 (lk_0 σ h hb) (by decide) (congrArg Value.int hK) ?_
    refine sw_icmp_ge (tgt := 50) O (xx_dt dd_X1_contradictedRound 5 rfl) (by decide) (fun q1 => ?_) (fun q1 => ?_)
    · refine sw_iconst (x := (-1)) O (xx_dt dd_X1_contradictedRound 30 rfl) (by decide) ?_
      exact sw_iret O (xx_dt dd_X1_contradictedRound 31 rfl) rfl rfl (by rw [hQ]; exact ⟨by unfold f_contradictedRound; simp only [x_contradictedRound_2, eN2], rfl⟩)
    · exact absurd (Int32.le_refl _) q1
  · unfold f_contradictedRound; simp only [x_contradictedRound_2, eN2]
theorem fr_useWaiver {σ : XS9} {b i : Nat} {q : Nat} (h : q ≠ b + 5 ∧ q ≠ b) : g_useWaiver σ b i q = σ q := by
  unfold g_useWaiver
  (repeat' split) <;> first | rfl | simp (disch := omega) only [u2_ne, uR_ne, fr_fill]
def x_undoContradictions_2 (σ : XS9) (b : Nat) (B K : Nat) (s0 : XS9) : XS9 := xit (fun i2 s2 => (if (f_contradictedRound s2 b i2 K) = (-1) then s2 else u2 (u2 s2 (b + 6) i2 ((s2 (b + 6) i2) + 1)) (b + 3) i2 (s2 (b + 2) i2))) B 0 s0
def g_undoContradictions (σ : XS9) (b : Nat) (B K : Nat) : XS9 := (x_undoContradictions_2 σ b B K σ)
theorem ct_X1_undoContradictions {l : Launch} {h : XH} (hl : l.stackTraces = false) {σ : XS9} {b : Nat} (hb : b = 2000 ∨ b = 3000) {B : Nat} (hB : σ 1001 9 = nI B) (hB6 : B ≤ 6) {K : Nat} (hK : σ b 9 = nI K) (hK60 : K ≤ 60)  : XEx l m_X1_undoContradictions 2 0 0 [.ref b, .ref 1001] (setC σ h) (none) (setC (g_undoContradictions σ b B K) h) := by
  refine XMet.of hl rfl rfl (Nat.le_of_ble_eq_true rfl) (fun Y O hh hQ => ?_)
  show SW Y 0 0 (setC σ h) 0 [.ref b, .ref 1001, xx_d] []
  refine sw_iconst (x := 0) O (xx_dt dd_X1_undoContradictions 0 rfl) (by decide) ?_
  refine sw_istore_n (ls2 := [.ref b, .ref 1001, .int 0]) O (xx_dt dd_X1_undoContradictions 1 rfl) (by decide) rfl ?_
  refine sw_for (fun i2 s2 => (if (f_contradictedRound s2 b i2 K) = (-1) then s2 else u2 (u2 s2 (b + 6) i2 ((s2 (b + 6) i2) + 1)) (b + 3) i2 (s2 (b + 2) i2))) (fun _ s2 => s2 1001 9 = nI B ∧ s2 b 9 = nI K) (hp := fun s2 => setC s2 h) (hd := 2) (lc := fun i2 s2 => [.ref b, .ref 1001, .int (nI i2)]) (N := B) (fun i2 s2 hi2 hP2 => ⟨(by (try dsimp only); (repeat' split) <;> first | exact hP2 | (simp (disch := omega) only [u2_ne, uR_ne, fr_fill, fr_useWaiver]; exact hP2)), fun kk2 => ?_⟩) B 0 σ (by omega) (⟨hB, hK⟩) (fun hP2 => ?_)
  · refine sw_iload_n O (xx_dt dd_X1_undoContradictions 2 rfl) rfl ?_
    refine sw_aload_n O (xx_dt dd_X1_undoContradictions 3 rfl) rfl ?_
    refine sw_get (v := .int (nI B)) O (xx_dt dd_X1_undoContradictions 4 rfl) cl_X6 fl_X1_99 (ly_1001 s2 h) (by decide) (congrArg Value.int hP2.1) ?_
    refine sw_icmp_ge (tgt := 47) O (xx_dt dd_X1_undoContradictions 5 rfl) (by decide) (fun q1 => ?_) (fun q1 => ?_)
    · exact absurd q1 (nI_ge (b := B) hi2 (by omega))
    · refine sw_aload_n O (xx_dt dd_X1_undoContradictions 6 rfl) rfl ?_
      refine sw_iload_n O (xx_dt dd_X1_undoContradictions 7 rfl) rfl ?_
      refine sw_callVx (as := [.int (nI i2)]) (st := []) (st2 := [.int (f_contradictedRound s2 b i2 K)]) O (ct_X1_contradictedRound hl (σ := s2) hb (K := K) hP2.2 (by omega) (i := i2) (by omega)) ce_X1_contradictedRound ml_X1_132 iv_X1_contradictedRound cl_X1 rfl (lk_0 s2 h hb) (xx_dt dd_X1_undoContradictions 8 rfl) (by decide) rfl rfl (Nat.le_of_ble_eq_true rfl) rfl ?_
      refine sw_iconst (x := (-1)) O (xx_dt dd_X1_undoContradictions 9 rfl) (by decide) ?_
      refine sw_icmp_eq (tgt := 41) O (xx_dt dd_X1_undoContradictions 10 rfl) (by decide) (fun q2 => ?_) (fun q2 => ?_)
      · refine sw_iinc (y := nI (i2 + 1)) (ls2 := [.ref b, .ref 1001, .int (nI (i2 + 1))]) O (xx_dt dd_X1_undoContradictions 27 rfl) rfl (nI_1 _) (by decide) rfl ?_
        refine sw_goto (tgt := 2) O (xx_dt dd_X1_undoContradictions 28 rfl) (by decide) ?_
        simp only [if_pos q2] at kk2
        exact kk2
      · refine sw_aload_n O (xx_dt dd_X1_undoContradictions 11 rfl) rfl ?_
        refine sw_get (v := .ref (b + 6)) O (xx_dt dd_X1_undoContradictions 12 rfl) cl_X1 fl_X1_27 (lk_0 s2 h hb) (by decide) rfl ?_
        refine sw_iload_n O (xx_dt dd_X1_undoContradictions 13 rfl) rfl ?_
        refine sw_dup2 O (xx_dt dd_X1_undoContradictions 14 rfl) rfl rfl ?_
        refine sw_iaload (v := .int (s2 (b + 6) i2)) O (xx_dt dd_X1_undoContradictions 15 rfl) (lk_6 s2 h hb) (pk_in i2 _ (by omega)) (by rw [nI_clamp (by omega)]; try exact rfl) ?_
        refine sw_iconst (x := 1) O (xx_dt dd_X1_undoContradictions 16 rfl) (by decide) ?_
        refine sw_iadd O (xx_dt dd_X1_undoContradictions 17 rfl) ?_
        refine sw_iastore (h2 := setC (u2 s2 (b + 6) i2 ((s2 (b + 6) i2) + 1)) h) O (xx_dt dd_X1_undoContradictions 18 rfl) (lk_6 s2 h hb) (pk_in i2 _ (by omega)) (by omega) (by rw [nI_clamp (by omega)]; exact (pk_a6 hb)) ?_
        refine sw_aload_n O (xx_dt dd_X1_undoContradictions 19 rfl) rfl ?_
        refine sw_get (v := .ref (b + 3)) O (xx_dt dd_X1_undoContradictions 20 rfl) cl_X1 fl_X1_18 (lk_0 (u2 s2 (b + 6) i2 ((s2 (b + 6) i2) + 1)) h hb) (by decide) rfl ?_
        refine sw_iload_n O (xx_dt dd_X1_undoContradictions 21 rfl) rfl ?_
        refine sw_aload_n O (xx_dt dd_X1_undoContradictions 22 rfl) rfl ?_
        refine sw_get (v := .ref (b + 2)) O (xx_dt dd_X1_undoContradictions 23 rfl) cl_X1 fl_X1_15 (lk_0 (u2 s2 (b + 6) i2 ((s2 (b + 6) i2) + 1)) h hb) (by decide) rfl ?_
        refine sw_iload_n O (xx_dt dd_X1_undoContradictions 24 rfl) rfl ?_
        refine sw_iaload (v := .int (s2 (b + 2) i2)) O (xx_dt dd_X1_undoContradictions 25 rfl) (lk_2 (u2 s2 (b + 6) i2 ((s2 (b + 6) i2) + 1)) h hb) (pk_in i2 _ (by omega)) (by rw [nI_clamp (by omega)]; exact (congrArg Value.int (congrFun (u2_ne (by omega)) i2))) ?_
        refine sw_iastore (h2 := setC (u2 (u2 s2 (b + 6) i2 ((s2 (b + 6) i2) + 1)) (b + 3) i2 (s2 (b + 2) i2)) h) O (xx_dt dd_X1_undoContradictions 26 rfl) (lk_3 (u2 s2 (b + 6) i2 ((s2 (b + 6) i2) + 1)) h hb) (pk_in i2 _ (by omega)) (by omega) (by rw [nI_clamp (by omega)]; exact (pk_a3 hb)) ?_
        refine sw_iinc (y := nI (i2 + 1)) (ls2 := [.ref b, .ref 1001, .int (nI (i2 + 1))]) O (xx_dt dd_X1_undoContradictions 27 rfl) rfl (nI_1 _) (by decide) rfl ?_
        refine sw_goto (tgt := 2) O (xx_dt dd_X1_undoContradictions 28 rfl) (by decide) ?_
        simp only [if_neg q2] at kk2
        exact kk2
  · show SW Y _ _ (setC (x_undoContradictions_2 σ b B K σ) h) 2 [.ref b, .ref 1001, .int (nI B)] []
    refine sw_iload_n O (xx_dt dd_X1_undoContradictions 2 rfl) rfl ?_
    refine sw_aload_n O (xx_dt dd_X1_undoContradictions 3 rfl) rfl ?_
    refine sw_get (v := .int (nI B)) O (xx_dt dd_X1_undoContradictions 4 rfl) cl_X6 fl_X1_99 (ly_1001 (x_undoContradictions_2 σ b B K σ) h) (by decide) (congrArg Value.int hP2.1) ?_
    refine sw_icmp_ge (tgt := 47) O (xx_dt dd_X1_undoContradictions 5 rfl) (by decide) (fun q1 => ?_) (fun q1 => ?_)
    · exact sw_ret O (xx_dt dd_X1_undoContradictions 29 rfl) rfl (by rw [hQ]; exact ⟨rfl, by unfold g_undoContradictions; rfl⟩)
    · exact absurd (Int32.le_refl _) q1
theorem fr_undoContradictions {σ : XS9} {b B K : Nat} {q : Nat} (h : q ≠ b + 6 ∧ q ≠ b + 3) : g_undoContradictions σ b B K q = σ q := by
  have H0 : ∀ s0, (x_undoContradictions_2 σ b B K s0) q = s0 q := fun s0 => xit_keep (fun s : XS9 => s q) (fun i s => by (try dsimp only); (repeat' split) <;> first | rfl | simp (disch := omega) only [u2_ne, uR_ne, fr_fill, fr_useWaiver]) _ _ _
  unfold g_undoContradictions
  (repeat' split) <;> first | rfl | simp (disch := omega) only [u2_ne, uR_ne, fr_fill, fr_useWaiver, H0]
def x_lowerEligible_2 (σ : XS9) (b : Nat) (B : Nat) (s0 : XS9) : XS9 := xit (fun i2 s2 => (if (8 * (s2 (b + 4) i2)) ≤ (10 * (f_total (s2 (b + 3) i2) 5 (s2 1011))) then s2 else (if (f_hasWaived s2 b i2) = 0 then u2 s2 (b + 4) i2 ((10 * (f_total (s2 (b + 3) i2) 5 (s2 1011))) / 8) else s2))) B 0 s0
def g_lowerEligible (σ : XS9) (b : Nat) (B : Nat) : XS9 := (x_lowerEligible_2 σ b B σ)
theorem ct_X1_lowerEligible {l : Launch} {h : XH} (hl : l.stackTraces = false) {σ : XS9} {b : Nat} (hb : b = 2000 ∨ b = 3000) {B : Nat} (hB : σ 1001 9 = nI B) (hB6 : B ≤ 6)  : XEx l m_X1_lowerEligible 1 0 0 [.ref b, .ref 1001] (setC σ h) (none) (setC (g_lowerEligible σ b B) h) := by
  refine XMet.of hl rfl rfl (Nat.le_of_ble_eq_true rfl) (fun Y O hh hQ => ?_)
  show SW Y 0 0 (setC σ h) 0 [.ref b, .ref 1001, xx_d, xx_d] []
  refine sw_iconst (x := 0) O (xx_dt dd_X1_lowerEligible 0 rfl) (by decide) ?_
  refine sw_istore_n (ls2 := [.ref b, .ref 1001, .int 0, xx_d]) O (xx_dt dd_X1_lowerEligible 1 rfl) (by decide) rfl ?_
  refine sw_for (fun i2 s2 => (if (8 * (s2 (b + 4) i2)) ≤ (10 * (f_total (s2 (b + 3) i2) 5 (s2 1011))) then s2 else (if (f_hasWaived s2 b i2) = 0 then u2 s2 (b + 4) i2 ((10 * (f_total (s2 (b + 3) i2) 5 (s2 1011))) / 8) else s2))) (fun _ s2 => s2 1001 9 = nI B) (hp := fun s2 => setC s2 h) (hd := 2) (lc := fun i2 s2 => [.ref b, .ref 1001, .int (nI i2), xx_d]) (N := B) (fun i2 s2 hi2 hP2 => ⟨(by (try dsimp only); (repeat' split) <;> first | exact hP2 | (simp (disch := omega) only [u2_ne, uR_ne, fr_fill, fr_useWaiver, fr_undoContradictions]; exact hP2)), fun kk2 => ?_⟩) B 0 σ (by omega) (hB) (fun hP2 => ?_)
  · refine sw_iload_n O (xx_dt dd_X1_lowerEligible 2 rfl) rfl ?_
    refine sw_aload_n O (xx_dt dd_X1_lowerEligible 3 rfl) rfl ?_
    refine sw_get (v := .int (nI B)) O (xx_dt dd_X1_lowerEligible 4 rfl) cl_X6 fl_X1_99 (ly_1001 s2 h) (by decide) (congrArg Value.int hP2) ?_
    refine sw_icmp_ge (tgt := 67) O (xx_dt dd_X1_lowerEligible 5 rfl) (by decide) (fun q1 => ?_) (fun q1 => ?_)
    · exact absurd q1 (nI_ge (b := B) hi2 (by omega))
    · refine sw_aload_n O (xx_dt dd_X1_lowerEligible 6 rfl) rfl ?_
      refine sw_get (v := .ref (b + 3)) O (xx_dt dd_X1_lowerEligible 7 rfl) cl_X1 fl_X1_18 (lk_0 s2 h hb) (by decide) rfl ?_
      refine sw_iload_n O (xx_dt dd_X1_lowerEligible 8 rfl) rfl ?_
      refine sw_iaload (v := .int (s2 (b + 3) i2)) O (xx_dt dd_X1_lowerEligible 9 rfl) (lk_3 s2 h hb) (pk_in i2 _ (by omega)) (by rw [nI_clamp (by omega)]; try exact rfl) ?_
      refine sw_aload_n O (xx_dt dd_X1_lowerEligible 10 rfl) rfl ?_
      refine sw_get (v := .ref 1011) O (xx_dt dd_X1_lowerEligible 11 rfl) cl_X6 fl_X1_82 (ly_1001 s2 h) (by decide) rfl ?_
      refine sw_callSx (as := [.int (s2 (b + 3) i2), .ref 1011]) (st := []) (st2 := [.int (f_total (s2 (b + 3) i2) 5 (s2 1011))]) O (ct_X0_total hl (c := s2 (b + 3) i2) (f := s2 1011) (ia_1011.getE rfl) (by omega)) ce_X0_total ml_X1_85 st_X0_total (xx_dt dd_X1_lowerEligible 12 rfl) (by decide) rfl rfl (Nat.le_of_ble_eq_true rfl) rfl ?_
      refine sw_istore_n (ls2 := [.ref b, .ref 1001, .int (nI i2), .int (f_total (s2 (b + 3) i2) 5 (s2 1011))]) O (xx_dt dd_X1_lowerEligible 13 rfl) (by decide) rfl ?_
      refine sw_bipush (x := 10) O (xx_dt dd_X1_lowerEligible 14 rfl) (by decide) ?_
      refine sw_iload_n O (xx_dt dd_X1_lowerEligible 15 rfl) rfl ?_
      refine sw_imul O (xx_dt dd_X1_lowerEligible 16 rfl) ?_
      refine sw_bipush (x := 8) O (xx_dt dd_X1_lowerEligible 17 rfl) (by decide) ?_
      refine sw_aload_n O (xx_dt dd_X1_lowerEligible 18 rfl) rfl ?_
      refine sw_get (v := .ref (b + 4)) O (xx_dt dd_X1_lowerEligible 19 rfl) cl_X1 fl_X1_21 (lk_0 s2 h hb) (by decide) rfl ?_
      refine sw_iload_n O (xx_dt dd_X1_lowerEligible 20 rfl) rfl ?_
      refine sw_iaload (v := .int (s2 (b + 4) i2)) O (xx_dt dd_X1_lowerEligible 21 rfl) (lk_4 s2 h hb) (pk_in i2 _ (by omega)) (by rw [nI_clamp (by omega)]; try exact rfl) ?_
      refine sw_imul O (xx_dt dd_X1_lowerEligible 22 rfl) ?_
      refine sw_icmp_ge (tgt := 61) O (xx_dt dd_X1_lowerEligible 23 rfl) (by decide) (fun q2 => ?_) (fun q2 => ?_)
      · refine sw_iinc (y := nI (i2 + 1)) (ls2 := [.ref b, .ref 1001, .int (nI (i2 + 1)), .int (f_total (s2 (b + 3) i2) 5 (s2 1011))]) O (xx_dt dd_X1_lowerEligible 37 rfl) rfl (nI_1 _) (by decide) rfl ?_
        refine sw_goto (tgt := 2) O (xx_dt dd_X1_lowerEligible 38 rfl) (by decide) ?_
        refine sw_dum (ls2 := [.ref b, .ref 1001, .int (nI (i2 + 1)), xx_d]) ⟨.inr rfl, .inr rfl, .inr rfl, .inl rfl, trivial⟩ ?_
        simp only [if_pos q2] at kk2
        exact kk2
      · refine sw_aload_n O (xx_dt dd_X1_lowerEligible 24 rfl) rfl ?_
        refine sw_iload_n O (xx_dt dd_X1_lowerEligible 25 rfl) rfl ?_
        refine sw_callVx (as := [.int (nI i2)]) (st := []) (st2 := [.int (f_hasWaived s2 b i2)]) O (ct_X1_hasWaived hl (σ := s2) hb (i := i2)) ce_X1_hasWaived ml_X1_140 iv_X1_hasWaived cl_X1 rfl (lk_0 s2 h hb) (xx_dt dd_X1_lowerEligible 26 rfl) (by decide) rfl rfl (Nat.le_of_ble_eq_true rfl) rfl ?_
        refine sw_if_ne (tgt := 61) O (xx_dt dd_X1_lowerEligible 27 rfl) (by decide) (fun q3 => ?_) (fun q3 => ?_)
        · refine sw_iinc (y := nI (i2 + 1)) (ls2 := [.ref b, .ref 1001, .int (nI (i2 + 1)), .int (f_total (s2 (b + 3) i2) 5 (s2 1011))]) O (xx_dt dd_X1_lowerEligible 37 rfl) rfl (nI_1 _) (by decide) rfl ?_
          refine sw_goto (tgt := 2) O (xx_dt dd_X1_lowerEligible 38 rfl) (by decide) ?_
          refine sw_dum (ls2 := [.ref b, .ref 1001, .int (nI (i2 + 1)), xx_d]) ⟨.inr rfl, .inr rfl, .inr rfl, .inl rfl, trivial⟩ ?_
          simp only [if_neg q2, if_neg q3] at kk2
          exact kk2
        · refine sw_aload_n O (xx_dt dd_X1_lowerEligible 28 rfl) rfl ?_
          refine sw_get (v := .ref (b + 4)) O (xx_dt dd_X1_lowerEligible 29 rfl) cl_X1 fl_X1_21 (lk_0 s2 h hb) (by decide) rfl ?_
          refine sw_iload_n O (xx_dt dd_X1_lowerEligible 30 rfl) rfl ?_
          refine sw_bipush (x := 10) O (xx_dt dd_X1_lowerEligible 31 rfl) (by decide) ?_
          refine sw_iload_n O (xx_dt dd_X1_lowerEligible 32 rfl) rfl ?_
          refine sw_imul O (xx_dt dd_X1_lowerEligible 33 rfl) ?_
          refine sw_bipush (x := 8) O (xx_dt dd_X1_lowerEligible 34 rfl) (by decide) ?_
          refine sw_idiv O (xx_dt dd_X1_lowerEligible 35 rfl) (by first | decide | assumption) ?_
          refine sw_iastore (h2 := setC (u2 s2 (b + 4) i2 ((10 * (f_total (s2 (b + 3) i2) 5 (s2 1011))) / 8)) h) O (xx_dt dd_X1_lowerEligible 36 rfl) (lk_4 s2 h hb) (pk_in i2 _ (by omega)) (by omega) (by rw [nI_clamp (by omega)]; exact (pk_a4 hb)) ?_
          refine sw_iinc (y := nI (i2 + 1)) (ls2 := [.ref b, .ref 1001, .int (nI (i2 + 1)), .int (f_total (s2 (b + 3) i2) 5 (s2 1011))]) O (xx_dt dd_X1_lowerEligible 37 rfl) rfl (nI_1 _) (by decide) rfl ?_
          refine sw_goto (tgt := 2) O (xx_dt dd_X1_lowerEligible 38 rfl) (by decide) ?_
          refine sw_dum (ls2 := [.ref b, .ref 1001, .int (nI (i2 + 1)), xx_d]) ⟨.inr rfl, .inr rfl, .inr rfl, .inl rfl, trivial⟩ ?_
          simp only [if_neg q2, if_pos q3] at kk2
          exact kk2
  · show SW Y _ _ (setC (x_lowerEligible_2 σ b B σ) h) 2 [.ref b, .ref 1001, .int (nI B), xx_d] []
    refine sw_iload_n O (xx_dt dd_X1_lowerEligible 2 rfl) rfl ?_
    refine sw_aload_n O (xx_dt dd_X1_lowerEligible 3 rfl) rfl ?_
    refine sw_get (v := .int (nI B)) O (xx_dt dd_X1_lowerEligible 4 rfl) cl_X6 fl_X1_99 (ly_1001 (x_lowerEligible_2 σ b B σ) h) (by decide) (congrArg Value.int hP2) ?_
    refine sw_icmp_ge (tgt := 67) O (xx_dt dd_X1_lowerEligible 5 rfl) (by decide) (fun q1 => ?_) (fun q1 => ?_)
    · exact sw_ret O (xx_dt dd_X1_lowerEligible 39 rfl) rfl (by rw [hQ]; exact ⟨rfl, by unfold g_lowerEligible; rfl⟩)
    · exact absurd (Int32.le_refl _) q1
theorem fr_lowerEligible {σ : XS9} {b B : Nat} {q : Nat} (h : q ≠ b + 4) : g_lowerEligible σ b B q = σ q := by
  have H0 : ∀ s0, (x_lowerEligible_2 σ b B s0) q = s0 q := fun s0 => xit_keep (fun s : XS9 => s q) (fun i s => by (try dsimp only); (repeat' split) <;> first | rfl | simp (disch := omega) only [u2_ne, uR_ne, fr_fill, fr_useWaiver, fr_undoContradictions]) _ _ _
  unfold g_lowerEligible
  (repeat' split) <;> first | rfl | simp (disch := omega) only [u2_ne, uR_ne, fr_fill, fr_useWaiver, fr_undoContradictions, H0]
def x_moveHeld_2 (σ : XS9) (b : Nat) (r B : Nat) (s0 : XS9) : XS9 := xit (fun i2 s2 => (if (f_many (s2 (b + 3) i2) r) < (f_many (s2 (b + 2) i2) r) then s2 else u2 s2 (b + 2) i2 (f_replaced (s2 (b + 2) i2) r (f_many (s2 (b + 3) i2) r)))) B 0 s0
def x_moveHeld_80 (σ : XS9) (b : Nat) (r B : Nat) (s0 : XS9 × Int32) : XS9 × Int32 := xitB (fun i80 s80 => (if s80.2 ≤ 0 then .inr (s80.1, s80.2) else .inl (u2 s80.1 (b + 2) i80 (f_replaced (s80.1 (b + 2) i80) r ((f_many (s80.1 (b + 2) i80) r) - (if ((f_many (s80.1 (b + 2) i80) r) - (f_many (s80.1 (b + 3) i80) r)) < s80.2 then ((f_many (s80.1 (b + 2) i80) r) - (f_many (s80.1 (b + 3) i80) r)) else s80.2))), s80.2 - (if ((f_many (s80.1 (b + 2) i80) r) - (f_many (s80.1 (b + 3) i80) r)) < s80.2 then ((f_many (s80.1 (b + 2) i80) r) - (f_many (s80.1 (b + 3) i80) r)) else s80.2)))) B 0 s0
def g_moveHeld (σ : XS9) (b : Nat) (r B : Nat) : XS9 := (x_moveHeld_80 σ b r B ((x_moveHeld_2 σ b r B σ), (f_together 6 ((x_moveHeld_2 σ b r B σ) (b + 2)) r) - ((x_moveHeld_2 σ b r B σ) 1010 r))).1
theorem ct_X1_moveHeld {l : Launch} {h : XH} (hl : l.stackTraces = false) {σ : XS9} {b : Nat} (hb : b = 2000 ∨ b = 3000) {B : Nat} (hB : σ 1001 9 = nI B) (hB6 : B ≤ 6) {r : Nat} (hr : r < 5) : XEx l m_X1_moveHeld 2 0 0 [.ref b, .ref 1001, .int (nI r)] (setC σ h) (none) (setC (g_moveHeld σ b r B) h) := by
  refine XMet.of hl rfl rfl (Nat.le_of_ble_eq_true rfl) (fun Y O hh hQ => ?_)
  show SW Y 0 0 (setC σ h) 0 [.ref b, .ref 1001, .int (nI r), xx_d, xx_d, xx_d, xx_d] []
  refine sw_iconst (x := 0) O (xx_dt dd_X1_moveHeld 0 rfl) (by decide) ?_
  refine sw_istore_n (ls2 := [.ref b, .ref 1001, .int (nI r), .int 0, xx_d, xx_d, xx_d]) O (xx_dt dd_X1_moveHeld 1 rfl) (by decide) rfl ?_
  refine sw_for (fun i2 s2 => (if (f_many (s2 (b + 3) i2) r) < (f_many (s2 (b + 2) i2) r) then s2 else u2 s2 (b + 2) i2 (f_replaced (s2 (b + 2) i2) r (f_many (s2 (b + 3) i2) r)))) (fun _ s2 => s2 1001 9 = nI B) (hp := fun s2 => setC s2 h) (hd := 2) (lc := fun i2 s2 => [.ref b, .ref 1001, .int (nI r), .int (nI i2), xx_d, xx_d, xx_d]) (N := B) (fun i2 s2 hi2 hP2 => ⟨(by (try dsimp only); (repeat' split) <;> first | exact hP2 | (simp (disch := omega) only [u2_ne, uR_ne, fr_fill, fr_useWaiver, fr_undoContradictions, fr_lowerEligible]; exact hP2)), fun kk2 => ?_⟩) B 0 σ (by omega) (hB) (fun hP2 => ?_)
  · refine sw_iload_n O (xx_dt dd_X1_moveHeld 2 rfl) rfl ?_
    refine sw_aload_n O (xx_dt dd_X1_moveHeld 3 rfl) rfl ?_
    refine sw_get (v := .int (nI B)) O (xx_dt dd_X1_moveHeld 4 rfl) cl_X6 fl_X1_99 (ly_1001 s2 h) (by decide) (congrArg Value.int hP2) ?_
    refine sw_icmp_ge (tgt := 61) O (xx_dt dd_X1_moveHeld 5 rfl) (by decide) (fun q1 => ?_) (fun q1 => ?_)
    · exact absurd q1 (nI_ge (b := B) hi2 (by omega))
    · refine sw_aload_n O (xx_dt dd_X1_moveHeld 6 rfl) rfl ?_
      refine sw_get (v := .ref (b + 3)) O (xx_dt dd_X1_moveHeld 7 rfl) cl_X1 fl_X1_18 (lk_0 s2 h hb) (by decide) rfl ?_
      refine sw_iload_n O (xx_dt dd_X1_moveHeld 8 rfl) rfl ?_
      refine sw_iaload (v := .int (s2 (b + 3) i2)) O (xx_dt dd_X1_moveHeld 9 rfl) (lk_3 s2 h hb) (pk_in i2 _ (by omega)) (by rw [nI_clamp (by omega)]; try exact rfl) ?_
      refine sw_iload_n O (xx_dt dd_X1_moveHeld 10 rfl) rfl ?_
      refine sw_callSx (as := [.int (s2 (b + 3) i2), .int (nI r)]) (st := []) (st2 := [.int (f_many (s2 (b + 3) i2) r)]) O (ct_X0_many hl (c := s2 (b + 3) i2) (r := r) (by omega)) ce_X0_many ml_X1_72 st_X0_many (xx_dt dd_X1_moveHeld 11 rfl) (by decide) rfl rfl (Nat.le_of_ble_eq_true rfl) rfl ?_
      refine sw_istore (ls2 := [.ref b, .ref 1001, .int (nI r), .int (nI i2), .int (f_many (s2 (b + 3) i2) r), xx_d, xx_d]) O (xx_dt dd_X1_moveHeld 12 rfl) (by decide) rfl ?_
      refine sw_iload O (xx_dt dd_X1_moveHeld 13 rfl) rfl ?_
      refine sw_aload_n O (xx_dt dd_X1_moveHeld 14 rfl) rfl ?_
      refine sw_get (v := .ref (b + 2)) O (xx_dt dd_X1_moveHeld 15 rfl) cl_X1 fl_X1_15 (lk_0 s2 h hb) (by decide) rfl ?_
      refine sw_iload_n O (xx_dt dd_X1_moveHeld 16 rfl) rfl ?_
      refine sw_iaload (v := .int (s2 (b + 2) i2)) O (xx_dt dd_X1_moveHeld 17 rfl) (lk_2 s2 h hb) (pk_in i2 _ (by omega)) (by rw [nI_clamp (by omega)]; try exact rfl) ?_
      refine sw_iload_n O (xx_dt dd_X1_moveHeld 18 rfl) rfl ?_
      refine sw_callSx (as := [.int (s2 (b + 2) i2), .int (nI r)]) (st := [.int (f_many (s2 (b + 3) i2) r)]) (st2 := [.int (f_many (s2 (b + 2) i2) r), .int (f_many (s2 (b + 3) i2) r)]) O (ct_X0_many hl (c := s2 (b + 2) i2) (r := r) (by omega)) ce_X0_many ml_X1_72 st_X0_many (xx_dt dd_X1_moveHeld 19 rfl) (by decide) rfl rfl (Nat.le_of_ble_eq_true rfl) rfl ?_
      refine sw_icmp_lt (tgt := 55) O (xx_dt dd_X1_moveHeld 20 rfl) (by decide) (fun q2 => ?_) (fun q2 => ?_)
      · refine sw_iinc (y := nI (i2 + 1)) (ls2 := [.ref b, .ref 1001, .int (nI r), .int (nI (i2 + 1)), .int (f_many (s2 (b + 3) i2) r), xx_d, xx_d]) O (xx_dt dd_X1_moveHeld 32 rfl) rfl (nI_1 _) (by decide) rfl ?_
        refine sw_goto (tgt := 2) O (xx_dt dd_X1_moveHeld 33 rfl) (by decide) ?_
        refine sw_dum (ls2 := [.ref b, .ref 1001, .int (nI r), .int (nI (i2 + 1)), xx_d, xx_d, xx_d]) ⟨.inr rfl, .inr rfl, .inr rfl, .inr rfl, .inl rfl, .inr rfl, .inr rfl, trivial⟩ ?_
        simp only [if_pos q2] at kk2
        exact kk2
      · refine sw_aload_n O (xx_dt dd_X1_moveHeld 21 rfl) rfl ?_
        refine sw_get (v := .ref (b + 2)) O (xx_dt dd_X1_moveHeld 22 rfl) cl_X1 fl_X1_15 (lk_0 s2 h hb) (by decide) rfl ?_
        refine sw_iload_n O (xx_dt dd_X1_moveHeld 23 rfl) rfl ?_
        refine sw_aload_n O (xx_dt dd_X1_moveHeld 24 rfl) rfl ?_
        refine sw_get (v := .ref (b + 2)) O (xx_dt dd_X1_moveHeld 25 rfl) cl_X1 fl_X1_15 (lk_0 s2 h hb) (by decide) rfl ?_
        refine sw_iload_n O (xx_dt dd_X1_moveHeld 26 rfl) rfl ?_
        refine sw_iaload (v := .int (s2 (b + 2) i2)) O (xx_dt dd_X1_moveHeld 27 rfl) (lk_2 s2 h hb) (pk_in i2 _ (by omega)) (by rw [nI_clamp (by omega)]; try exact rfl) ?_
        refine sw_iload_n O (xx_dt dd_X1_moveHeld 28 rfl) rfl ?_
        refine sw_iload O (xx_dt dd_X1_moveHeld 29 rfl) rfl ?_
        refine sw_callSx (as := [.int (s2 (b + 2) i2), .int (nI r), .int (f_many (s2 (b + 3) i2) r)]) (st := [.int (nI i2), .ref (b + 2)]) (st2 := [.int (f_replaced (s2 (b + 2) i2) r (f_many (s2 (b + 3) i2) r)), .int (nI i2), .ref (b + 2)]) O (ct_X0_replaced hl (c := s2 (b + 2) i2) (m := f_many (s2 (b + 3) i2) r) (r := r) (by omega)) ce_X0_replaced ml_X1_78 st_X0_replaced (xx_dt dd_X1_moveHeld 30 rfl) (by decide) rfl rfl (Nat.le_of_ble_eq_true rfl) rfl ?_
        refine sw_iastore (h2 := setC (u2 s2 (b + 2) i2 (f_replaced (s2 (b + 2) i2) r (f_many (s2 (b + 3) i2) r))) h) O (xx_dt dd_X1_moveHeld 31 rfl) (lk_2 s2 h hb) (pk_in i2 _ (by omega)) (by omega) (by rw [nI_clamp (by omega)]; exact (pk_a2 hb)) ?_
        refine sw_iinc (y := nI (i2 + 1)) (ls2 := [.ref b, .ref 1001, .int (nI r), .int (nI (i2 + 1)), .int (f_many (s2 (b + 3) i2) r), xx_d, xx_d]) O (xx_dt dd_X1_moveHeld 32 rfl) rfl (nI_1 _) (by decide) rfl ?_
        refine sw_goto (tgt := 2) O (xx_dt dd_X1_moveHeld 33 rfl) (by decide) ?_
        refine sw_dum (ls2 := [.ref b, .ref 1001, .int (nI r), .int (nI (i2 + 1)), xx_d, xx_d, xx_d]) ⟨.inr rfl, .inr rfl, .inr rfl, .inr rfl, .inl rfl, .inr rfl, .inr rfl, trivial⟩ ?_
        simp only [if_neg q2] at kk2
        exact kk2
  · show SW Y _ _ (setC (x_moveHeld_2 σ b r B σ) h) 2 [.ref b, .ref 1001, .int (nI r), .int (nI B), xx_d, xx_d, xx_d] []
    refine sw_iload_n O (xx_dt dd_X1_moveHeld 2 rfl) rfl ?_
    refine sw_aload_n O (xx_dt dd_X1_moveHeld 3 rfl) rfl ?_
    refine sw_get (v := .int (nI B)) O (xx_dt dd_X1_moveHeld 4 rfl) cl_X6 fl_X1_99 (ly_1001 (x_moveHeld_2 σ b r B σ) h) (by decide) (congrArg Value.int hP2) ?_
    refine sw_icmp_ge (tgt := 61) O (xx_dt dd_X1_moveHeld 5 rfl) (by decide) (fun q1 => ?_) (fun q1 => ?_)
    · refine sw_aload_n O (xx_dt dd_X1_moveHeld 34 rfl) rfl ?_
      refine sw_get (v := .ref (b + 2)) O (xx_dt dd_X1_moveHeld 35 rfl) cl_X1 fl_X1_15 (lk_0 (x_moveHeld_2 σ b r B σ) h hb) (by decide) rfl ?_
      refine sw_iload_n O (xx_dt dd_X1_moveHeld 36 rfl) rfl ?_
      refine sw_callSx (as := [.ref (b + 2), .int (nI r)]) (st := []) (st2 := [.int (f_together 6 ((x_moveHeld_2 σ b r B σ) (b + 2)) r)]) O (ct_X0_together hl (r := r) (f := (x_moveHeld_2 σ b r B σ) (b + 2)) ((ik_2 hb).getE rfl) (by omega) (by omega)) ce_X0_together ml_X1_144 st_X0_together (xx_dt dd_X1_moveHeld 37 rfl) (by decide) rfl rfl (Nat.le_of_ble_eq_true rfl) rfl ?_
      refine sw_aload_n O (xx_dt dd_X1_moveHeld 38 rfl) rfl ?_
      refine sw_get (v := .ref 1010) O (xx_dt dd_X1_moveHeld 39 rfl) cl_X6 fl_X1_89 (ly_1001 (x_moveHeld_2 σ b r B σ) h) (by decide) rfl ?_
      refine sw_iload_n O (xx_dt dd_X1_moveHeld 40 rfl) rfl ?_
      refine sw_iaload (v := .int ((x_moveHeld_2 σ b r B σ) 1010 r)) O (xx_dt dd_X1_moveHeld 41 rfl) (ly_1010 (x_moveHeld_2 σ b r B σ) h) (pk_in r _ (by omega)) (by rw [nI_clamp (by omega)]; try exact rfl) ?_
      refine sw_isub O (xx_dt dd_X1_moveHeld 42 rfl) ?_
      refine sw_istore_n (ls2 := [.ref b, .ref 1001, .int (nI r), .int ((f_together 6 ((x_moveHeld_2 σ b r B σ) (b + 2)) r) - ((x_moveHeld_2 σ b r B σ) 1010 r)), xx_d, xx_d, xx_d]) O (xx_dt dd_X1_moveHeld 43 rfl) (by decide) rfl ?_
      refine sw_iconst (x := 0) O (xx_dt dd_X1_moveHeld 44 rfl) (by decide) ?_
      refine sw_istore (ls2 := [.ref b, .ref 1001, .int (nI r), .int ((f_together 6 ((x_moveHeld_2 σ b r B σ) (b + 2)) r) - ((x_moveHeld_2 σ b r B σ) 1010 r)), .int 0, xx_d, xx_d]) O (xx_dt dd_X1_moveHeld 45 rfl) (by decide) rfl ?_
      refine sw_forB (fun i80 s80 => (if s80.2 ≤ 0 then .inr (s80.1, s80.2) else .inl (u2 s80.1 (b + 2) i80 (f_replaced (s80.1 (b + 2) i80) r ((f_many (s80.1 (b + 2) i80) r) - (if ((f_many (s80.1 (b + 2) i80) r) - (f_many (s80.1 (b + 3) i80) r)) < s80.2 then ((f_many (s80.1 (b + 2) i80) r) - (f_many (s80.1 (b + 3) i80) r)) else s80.2))), s80.2 - (if ((f_many (s80.1 (b + 2) i80) r) - (f_many (s80.1 (b + 3) i80) r)) < s80.2 then ((f_many (s80.1 (b + 2) i80) r) - (f_many (s80.1 (b + 3) i80) r)) else s80.2)))) (fun _ s80 => s80.1 1001 9 = nI B) (fun s80 => s80.1 1001 9 = nI B) (hp := fun s80 => setC s80.1 h) (hd := 80) (lc := fun i80 s80 => [.ref b, .ref 1001, .int (nI r), .int s80.2, .int (nI i80), xx_d, xx_d]) (ex := 160) (lx := fun s80 => [.ref b, .ref 1001, .int (nI r), .int s80.2, xx_d, xx_d, xx_d]) (N := B) (fun i80 s80 hi80 hP80 => ⟨⟨(by intro s' e'; revert e'; (try dsimp only); (repeat' split) <;> intro e' <;> first | (cases e'; done) | (injection e' with e'; subst e'; first | exact hP80 | (simp (disch := omega) only [u2_ne, uR_ne, fr_fill, fr_useWaiver, fr_undoContradictions, fr_lowerEligible]; exact hP80))), (by intro s' e'; revert e'; (try dsimp only); (repeat' split) <;> intro e' <;> first | (cases e'; done) | (injection e' with e'; subst e'; first | exact hP80 | (simp (disch := omega) only [u2_ne, uR_ne, fr_fill, fr_useWaiver, fr_undoContradictions, fr_lowerEligible]; exact hP80)))⟩, fun kk80 kb80 => ?_⟩) (fun s80 hP80 => ⟨hP80, fun kx80 => ?_⟩) B 0 ((x_moveHeld_2 σ b r B σ), (f_together 6 ((x_moveHeld_2 σ b r B σ) (b + 2)) r) - ((x_moveHeld_2 σ b r B σ) 1010 r)) (by omega) (hP2) (fun hP80 => ?_)
      · refine sw_iload O (xx_dt dd_X1_moveHeld 46 rfl) rfl ?_
        refine sw_aload_n O (xx_dt dd_X1_moveHeld 47 rfl) rfl ?_
        refine sw_get (v := .int (nI B)) O (xx_dt dd_X1_moveHeld 48 rfl) cl_X6 fl_X1_99 (ly_1001 s80.1 h) (by decide) (congrArg Value.int hP80) ?_
        refine sw_icmp_ge (tgt := 160) O (xx_dt dd_X1_moveHeld 49 rfl) (by decide) (fun q3 => ?_) (fun q3 => ?_)
        · exact absurd q3 (nI_ge (b := B) hi80 (by omega))
        · refine sw_iload_n O (xx_dt dd_X1_moveHeld 50 rfl) rfl ?_
          refine sw_if_le (tgt := 160) O (xx_dt dd_X1_moveHeld 51 rfl) (by decide) (fun q4 => ?_) (fun q4 => ?_)
          · refine sw_dum (ls2 := [.ref b, .ref 1001, .int (nI r), .int s80.2, xx_d, xx_d, xx_d]) ⟨.inr rfl, .inr rfl, .inr rfl, .inr rfl, .inl rfl, .inr rfl, .inr rfl, trivial⟩ ?_
            exact kb80 (s80.1, s80.2) (by simp only [if_pos q4])
          · refine sw_aload_n O (xx_dt dd_X1_moveHeld 52 rfl) rfl ?_
            refine sw_get (v := .ref (b + 2)) O (xx_dt dd_X1_moveHeld 53 rfl) cl_X1 fl_X1_15 (lk_0 s80.1 h hb) (by decide) rfl ?_
            refine sw_iload O (xx_dt dd_X1_moveHeld 54 rfl) rfl ?_
            refine sw_iaload (v := .int (s80.1 (b + 2) i80)) O (xx_dt dd_X1_moveHeld 55 rfl) (lk_2 s80.1 h hb) (pk_in i80 _ (by omega)) (by rw [nI_clamp (by omega)]; try exact rfl) ?_
            refine sw_iload_n O (xx_dt dd_X1_moveHeld 56 rfl) rfl ?_
            refine sw_callSx (as := [.int (s80.1 (b + 2) i80), .int (nI r)]) (st := []) (st2 := [.int (f_many (s80.1 (b + 2) i80) r)]) O (ct_X0_many hl (c := s80.1 (b + 2) i80) (r := r) (by omega)) ce_X0_many ml_X1_72 st_X0_many (xx_dt dd_X1_moveHeld 57 rfl) (by decide) rfl rfl (Nat.le_of_ble_eq_true rfl) rfl ?_
            refine sw_istore (ls2 := [.ref b, .ref 1001, .int (nI r), .int s80.2, .int (nI i80), .int (f_many (s80.1 (b + 2) i80) r), xx_d]) O (xx_dt dd_X1_moveHeld 58 rfl) (by decide) rfl ?_
            refine sw_iload_n O (xx_dt dd_X1_moveHeld 59 rfl) rfl ?_
            refine sw_iload O (xx_dt dd_X1_moveHeld 60 rfl) rfl ?_
            refine sw_aload_n O (xx_dt dd_X1_moveHeld 61 rfl) rfl ?_
            refine sw_get (v := .ref (b + 3)) O (xx_dt dd_X1_moveHeld 62 rfl) cl_X1 fl_X1_18 (lk_0 s80.1 h hb) (by decide) rfl ?_
            refine sw_iload O (xx_dt dd_X1_moveHeld 63 rfl) rfl ?_
            refine sw_iaload (v := .int (s80.1 (b + 3) i80)) O (xx_dt dd_X1_moveHeld 64 rfl) (lk_3 s80.1 h hb) (pk_in i80 _ (by omega)) (by rw [nI_clamp (by omega)]; try exact rfl) ?_
            refine sw_iload_n O (xx_dt dd_X1_moveHeld 65 rfl) rfl ?_
            refine sw_callSx (as := [.int (s80.1 (b + 3) i80), .int (nI r)]) (st := [.int (f_many (s80.1 (b + 2) i80) r), .int s80.2]) (st2 := [.int (f_many (s80.1 (b + 3) i80) r), .int (f_many (s80.1 (b + 2) i80) r), .int s80.2]) O (ct_X0_many hl (c := s80.1 (b + 3) i80) (r := r) (by omega)) ce_X0_many ml_X1_72 st_X0_many (xx_dt dd_X1_moveHeld 66 rfl) (by decide) rfl rfl (Nat.le_of_ble_eq_true rfl) rfl ?_
            refine sw_isub O (xx_dt dd_X1_moveHeld 67 rfl) ?_
            refine sw_min O mm_X1_148 (xx_dt dd_X1_moveHeld 68 rfl) (by omega) (Nat.le_of_ble_eq_true rfl) ?_
            refine sw_istore (ls2 := [.ref b, .ref 1001, .int (nI r), .int s80.2, .int (nI i80), .int (f_many (s80.1 (b + 2) i80) r), .int (if ((f_many (s80.1 (b + 2) i80) r) - (f_many (s80.1 (b + 3) i80) r)) < s80.2 then ((f_many (s80.1 (b + 2) i80) r) - (f_many (s80.1 (b + 3) i80) r)) else s80.2)]) O (xx_dt dd_X1_moveHeld 69 rfl) (by decide) rfl ?_
            refine sw_aload_n O (xx_dt dd_X1_moveHeld 70 rfl) rfl ?_
            refine sw_get (v := .ref (b + 2)) O (xx_dt dd_X1_moveHeld 71 rfl) cl_X1 fl_X1_15 (lk_0 s80.1 h hb) (by decide) rfl ?_
            refine sw_iload O (xx_dt dd_X1_moveHeld 72 rfl) rfl ?_
            refine sw_aload_n O (xx_dt dd_X1_moveHeld 73 rfl) rfl ?_
            refine sw_get (v := .ref (b + 2)) O (xx_dt dd_X1_moveHeld 74 rfl) cl_X1 fl_X1_15 (lk_0 s80.1 h hb) (by decide) rfl ?_
            refine sw_iload O (xx_dt dd_X1_moveHeld 75 rfl) rfl ?_
            refine sw_iaload (v := .int (s80.1 (b + 2) i80)) O (xx_dt dd_X1_moveHeld 76 rfl) (lk_2 s80.1 h hb) (pk_in i80 _ (by omega)) (by rw [nI_clamp (by omega)]; try exact rfl) ?_
            refine sw_iload_n O (xx_dt dd_X1_moveHeld 77 rfl) rfl ?_
            refine sw_iload O (xx_dt dd_X1_moveHeld 78 rfl) rfl ?_
            refine sw_iload O (xx_dt dd_X1_moveHeld 79 rfl) rfl ?_
            refine sw_isub O (xx_dt dd_X1_moveHeld 80 rfl) ?_
            refine sw_callSx (as := [.int (s80.1 (b + 2) i80), .int (nI r), .int ((f_many (s80.1 (b + 2) i80) r) - (if ((f_many (s80.1 (b + 2) i80) r) - (f_many (s80.1 (b + 3) i80) r)) < s80.2 then ((f_many (s80.1 (b + 2) i80) r) - (f_many (s80.1 (b + 3) i80) r)) else s80.2))]) (st := [.int (nI i80), .ref (b + 2)]) (st2 := [.int (f_replaced (s80.1 (b + 2) i80) r ((f_many (s80.1 (b + 2) i80) r) - (if ((f_many (s80.1 (b + 2) i80) r) - (f_many (s80.1 (b + 3) i80) r)) < s80.2 then ((f_many (s80.1 (b + 2) i80) r) - (f_many (s80.1 (b + 3) i80) r)) else s80.2))), .int (nI i80), .ref (b + 2)]) O (ct_X0_replaced hl (c := s80.1 (b + 2) i80) (m := (f_many (s80.1 (b + 2) i80) r) - (if ((f_many (s80.1 (b + 2) i80) r) - (f_many (s80.1 (b + 3) i80) r)) < s80.2 then ((f_many (s80.1 (b + 2) i80) r) - (f_many (s80.1 (b + 3) i80) r)) else s80.2)) (r := r) (by omega)) ce_X0_replaced ml_X1_78 st_X0_replaced (xx_dt dd_X1_moveHeld 81 rfl) (by decide) rfl rfl (Nat.le_of_ble_eq_true rfl) rfl ?_
            refine sw_iastore (h2 := setC (u2 s80.1 (b + 2) i80 (f_replaced (s80.1 (b + 2) i80) r ((f_many (s80.1 (b + 2) i80) r) - (if ((f_many (s80.1 (b + 2) i80) r) - (f_many (s80.1 (b + 3) i80) r)) < s80.2 then ((f_many (s80.1 (b + 2) i80) r) - (f_many (s80.1 (b + 3) i80) r)) else s80.2)))) h) O (xx_dt dd_X1_moveHeld 82 rfl) (lk_2 s80.1 h hb) (pk_in i80 _ (by omega)) (by omega) (by rw [nI_clamp (by omega)]; exact (pk_a2 hb)) ?_
            refine sw_iload_n O (xx_dt dd_X1_moveHeld 83 rfl) rfl ?_
            refine sw_iload O (xx_dt dd_X1_moveHeld 84 rfl) rfl ?_
            refine sw_isub O (xx_dt dd_X1_moveHeld 85 rfl) ?_
            refine sw_istore_n (ls2 := [.ref b, .ref 1001, .int (nI r), .int (s80.2 - (if ((f_many (s80.1 (b + 2) i80) r) - (f_many (s80.1 (b + 3) i80) r)) < s80.2 then ((f_many (s80.1 (b + 2) i80) r) - (f_many (s80.1 (b + 3) i80) r)) else s80.2)), .int (nI i80), .int (f_many (s80.1 (b + 2) i80) r), .int (if ((f_many (s80.1 (b + 2) i80) r) - (f_many (s80.1 (b + 3) i80) r)) < s80.2 then ((f_many (s80.1 (b + 2) i80) r) - (f_many (s80.1 (b + 3) i80) r)) else s80.2)]) O (xx_dt dd_X1_moveHeld 86 rfl) (by decide) rfl ?_
            refine sw_iinc (y := nI (i80 + 1)) (ls2 := [.ref b, .ref 1001, .int (nI r), .int (s80.2 - (if ((f_many (s80.1 (b + 2) i80) r) - (f_many (s80.1 (b + 3) i80) r)) < s80.2 then ((f_many (s80.1 (b + 2) i80) r) - (f_many (s80.1 (b + 3) i80) r)) else s80.2)), .int (nI (i80 + 1)), .int (f_many (s80.1 (b + 2) i80) r), .int (if ((f_many (s80.1 (b + 2) i80) r) - (f_many (s80.1 (b + 3) i80) r)) < s80.2 then ((f_many (s80.1 (b + 2) i80) r) - (f_many (s80.1 (b + 3) i80) r)) else s80.2)]) O (xx_dt dd_X1_moveHeld 87 rfl) rfl (nI_1 _) (by decide) rfl ?_
            refine sw_goto (tgt := 80) O (xx_dt dd_X1_moveHeld 88 rfl) (by decide) ?_
            refine sw_dum (ls2 := [.ref b, .ref 1001, .int (nI r), .int (s80.2 - (if ((f_many (s80.1 (b + 2) i80) r) - (f_many (s80.1 (b + 3) i80) r)) < s80.2 then ((f_many (s80.1 (b + 2) i80) r) - (f_many (s80.1 (b + 3) i80) r)) else s80.2)), .int (nI (i80 + 1)), xx_d, xx_d]) ⟨.inr rfl, .inr rfl, .inr rfl, .inr rfl, .inr rfl, .inl rfl, .inl rfl, trivial⟩ ?_
            exact kk80 (u2 s80.1 (b + 2) i80 (f_replaced (s80.1 (b + 2) i80) r ((f_many (s80.1 (b + 2) i80) r) - (if ((f_many (s80.1 (b + 2) i80) r) - (f_many (s80.1 (b + 3) i80) r)) < s80.2 then ((f_many (s80.1 (b + 2) i80) r) - (f_many (s80.1 (b + 3) i80) r)) else s80.2))), s80.2 - (if ((f_many (s80.1 (b + 2) i80) r) - (f_many (s80.1 (b + 3) i80) r)) < s80.2 then ((f_many (s80.1 (b + 2) i80) r) - (f_many (s80.1 (b + 3) i80) r)) else s80.2)) (by simp only [if_neg q4])
      · show SW Y _ _ (setC s80.1 h) 80 [.ref b, .ref 1001, .int (nI r), .int s80.2, .int (nI B), xx_d, xx_d] []
        refine sw_iload O (xx_dt dd_X1_moveHeld 46 rfl) rfl ?_
        refine sw_aload_n O (xx_dt dd_X1_moveHeld 47 rfl) rfl ?_
        refine sw_get (v := .int (nI B)) O (xx_dt dd_X1_moveHeld 48 rfl) cl_X6 fl_X1_99 (ly_1001 s80.1 h) (by decide) (congrArg Value.int hP80) ?_
        refine sw_icmp_ge (tgt := 160) O (xx_dt dd_X1_moveHeld 49 rfl) (by decide) (fun q3 => ?_) (fun q3 => ?_)
        · refine sw_dum (ls2 := [.ref b, .ref 1001, .int (nI r), .int s80.2, xx_d, xx_d, xx_d]) ⟨.inr rfl, .inr rfl, .inr rfl, .inr rfl, .inl rfl, .inr rfl, .inr rfl, trivial⟩ ?_
          exact kx80
        · exact absurd (Int32.le_refl _) q3
      · show SW Y _ _ (setC ((x_moveHeld_80 σ b r B ((x_moveHeld_2 σ b r B σ), (f_together 6 ((x_moveHeld_2 σ b r B σ) (b + 2)) r) - ((x_moveHeld_2 σ b r B σ) 1010 r))).1) h) 160 [.ref b, .ref 1001, .int (nI r), .int ((x_moveHeld_80 σ b r B ((x_moveHeld_2 σ b r B σ), (f_together 6 ((x_moveHeld_2 σ b r B σ) (b + 2)) r) - ((x_moveHeld_2 σ b r B σ) 1010 r))).2), xx_d, xx_d, xx_d] []
        exact sw_ret O (xx_dt dd_X1_moveHeld 89 rfl) rfl (by rw [hQ]; exact ⟨rfl, by unfold g_moveHeld; rfl⟩)
    · exact absurd (Int32.le_refl _) q1
theorem fr_moveHeld {σ : XS9} {b r B : Nat} {q : Nat} (h : q ≠ b + 2) : g_moveHeld σ b r B q = σ q := by
  have H0 : ∀ s0, (x_moveHeld_2 σ b r B s0) q = s0 q := fun s0 => xit_keep (fun s : XS9 => s q) (fun i s => by (try dsimp only); (repeat' split) <;> first | rfl | simp (disch := omega) only [u2_ne, uR_ne, fr_fill, fr_useWaiver, fr_undoContradictions, fr_lowerEligible]) _ _ _
  have H1 : ∀ s0, (x_moveHeld_80 σ b r B s0).1 q = s0.1 q := fun s0 => xitB_keep (fun s : XS9 × Int32 => s.1 q) (fun i s s' e => by revert e; (try dsimp only); (repeat' split) <;> intro e <;> rcases e with e | e <;> first | (cases e; done) | (injection e with e; subst e; first | rfl | simp (disch := omega) only [u2_ne, uR_ne, fr_fill, fr_useWaiver, fr_undoContradictions, fr_lowerEligible])) _ _ _
  unfold g_moveHeld
  (repeat' split) <;> first | rfl | simp (disch := omega) only [u2_ne, uR_ne, fr_fill, fr_useWaiver, fr_undoContradictions, fr_lowerEligible, H0, H1]
def x_raisePrices_5 (σ : XS9) (b : Nat) (x : Int32) (R : Nat) (s0 : XS9 × Int32) : XS9 × Int32 := xit (fun i5 s5 => (if (f_together 6 (s5.1 (b + 2)) i5) ≤ (s5.1 1010 i5) then (s5.1, s5.2) else (u2 s5.1 (b + 1) i5 (if ((s5.1 (b + 1) i5) + (if 1 < (((s5.1 (b + 1) i5) * x) / 100) then (((s5.1 (b + 1) i5) * x) / 100) else 1)) < 9999 then ((s5.1 (b + 1) i5) + (if 1 < (((s5.1 (b + 1) i5) * x) / 100) then (((s5.1 (b + 1) i5) * x) / 100) else 1)) else 9999), 1))) R 0 s0
def f_raisePrices (σ : XS9) (b : Nat) (x : Int32) (R : Nat) : Int32 := (x_raisePrices_5 σ b x R (σ, 0)).2
def g_raisePrices (σ : XS9) (b : Nat) (x : Int32) (R : Nat) : XS9 := (x_raisePrices_5 σ b x R (σ, 0)).1
theorem ct_X1_raisePrices {l : Launch} {h : XH} (hl : l.stackTraces = false) {σ : XS9} {b : Nat} (hb : b = 2000 ∨ b = 3000) {R : Nat} (hR : σ 1001 4 = nI R) (hR5 : R ≤ 5) {x : Int32} : XEx l m_X1_raisePrices 2 0 0 [.ref b, .ref 1001, .int x] (setC σ h) (some (.int (f_raisePrices σ b x R))) (setC (g_raisePrices σ b x R) h) := by
  refine XMet.of hl rfl rfl (Nat.le_of_ble_eq_true rfl) (fun Y O hh hQ => ?_)
  show SW Y 0 0 (setC σ h) 0 [.ref b, .ref 1001, .int x, xx_d, xx_d, xx_d] []
  refine sw_iconst (x := 0) O (xx_dt dd_X1_raisePrices 0 rfl) (by decide) ?_
  refine sw_istore_n (ls2 := [.ref b, .ref 1001, .int x, .int 0, xx_d, xx_d]) O (xx_dt dd_X1_raisePrices 1 rfl) (by decide) rfl ?_
  refine sw_iconst (x := 0) O (xx_dt dd_X1_raisePrices 2 rfl) (by decide) ?_
  refine sw_istore (ls2 := [.ref b, .ref 1001, .int x, .int 0, .int 0, xx_d]) O (xx_dt dd_X1_raisePrices 3 rfl) (by decide) rfl ?_
  refine sw_for (fun i5 s5 => (if (f_together 6 (s5.1 (b + 2)) i5) ≤ (s5.1 1010 i5) then (s5.1, s5.2) else (u2 s5.1 (b + 1) i5 (if ((s5.1 (b + 1) i5) + (if 1 < (((s5.1 (b + 1) i5) * x) / 100) then (((s5.1 (b + 1) i5) * x) / 100) else 1)) < 9999 then ((s5.1 (b + 1) i5) + (if 1 < (((s5.1 (b + 1) i5) * x) / 100) then (((s5.1 (b + 1) i5) * x) / 100) else 1)) else 9999), 1))) (fun _ s5 => s5.1 1001 4 = nI R ∧ (s5.2 = 0 ∨ s5.2 = 1)) (hp := fun s5 => setC s5.1 h) (hd := 5) (lc := fun i5 s5 => [.ref b, .ref 1001, .int x, .int s5.2, .int (nI i5), xx_d]) (N := R) (fun i5 s5 hi5 hP5 => ⟨(by (try dsimp only); (repeat' split) <;> (refine ⟨?_, ?_⟩ <;> (first | exact hP5.1 | exact hP5.2 | exact hi5 | exact .inl rfl | exact .inr rfl | (simp (disch := omega) only [u2_ne, uR_ne, fr_fill, fr_useWaiver, fr_undoContradictions, fr_lowerEligible, fr_moveHeld]; first | exact hP5.1 | exact hP5.2)))), fun kk5 => ?_⟩) R 0 (σ, 0) (by omega) (⟨hR, .inl rfl⟩) (fun hP5 => ?_)
  · refine sw_iload O (xx_dt dd_X1_raisePrices 4 rfl) rfl ?_
    refine sw_aload_n O (xx_dt dd_X1_raisePrices 5 rfl) rfl ?_
    refine sw_get (v := .int (nI R)) O (xx_dt dd_X1_raisePrices 6 rfl) cl_X6 fl_X1_121 (ly_1001 s5.1 h) (by decide) (congrArg Value.int hP5.1) ?_
    refine sw_icmp_ge (tgt := 82) O (xx_dt dd_X1_raisePrices 7 rfl) (by decide) (fun q1 => ?_) (fun q1 => ?_)
    · exact absurd q1 (nI_ge (b := R) hi5 (by omega))
    · refine sw_aload_n O (xx_dt dd_X1_raisePrices 8 rfl) rfl ?_
      refine sw_get (v := .ref (b + 2)) O (xx_dt dd_X1_raisePrices 9 rfl) cl_X1 fl_X1_15 (lk_0 s5.1 h hb) (by decide) rfl ?_
      refine sw_iload O (xx_dt dd_X1_raisePrices 10 rfl) rfl ?_
      refine sw_callSx (as := [.ref (b + 2), .int (nI i5)]) (st := []) (st2 := [.int (f_together 6 (s5.1 (b + 2)) i5)]) O (ct_X0_together hl (r := i5) (f := s5.1 (b + 2)) ((ik_2 hb).getE rfl) (by omega) (by omega)) ce_X0_together ml_X1_144 st_X0_together (xx_dt dd_X1_raisePrices 11 rfl) (by decide) rfl rfl (Nat.le_of_ble_eq_true rfl) rfl ?_
      refine sw_aload_n O (xx_dt dd_X1_raisePrices 12 rfl) rfl ?_
      refine sw_get (v := .ref 1010) O (xx_dt dd_X1_raisePrices 13 rfl) cl_X6 fl_X1_89 (ly_1001 s5.1 h) (by decide) rfl ?_
      refine sw_iload O (xx_dt dd_X1_raisePrices 14 rfl) rfl ?_
      refine sw_iaload (v := .int (s5.1 1010 i5)) O (xx_dt dd_X1_raisePrices 15 rfl) (ly_1010 s5.1 h) (pk_in i5 _ (by omega)) (by rw [nI_clamp (by omega)]; try exact rfl) ?_
      refine sw_icmp_le (tgt := 76) O (xx_dt dd_X1_raisePrices 16 rfl) (by decide) (fun q2 => ?_) (fun q2 => ?_)
      · refine sw_iinc (y := nI (i5 + 1)) (ls2 := [.ref b, .ref 1001, .int x, .int s5.2, .int (nI (i5 + 1)), xx_d]) O (xx_dt dd_X1_raisePrices 42 rfl) rfl (nI_1 _) (by decide) rfl ?_
        refine sw_goto (tgt := 5) O (xx_dt dd_X1_raisePrices 43 rfl) (by decide) ?_
        simp only [if_pos q2] at kk5
        exact kk5
      · refine sw_iconst (x := 1) O (xx_dt dd_X1_raisePrices 17 rfl) (by decide) ?_
        refine sw_aload_n O (xx_dt dd_X1_raisePrices 18 rfl) rfl ?_
        refine sw_get (v := .ref (b + 1)) O (xx_dt dd_X1_raisePrices 19 rfl) cl_X1 fl_X1_9 (lk_0 s5.1 h hb) (by decide) rfl ?_
        refine sw_iload O (xx_dt dd_X1_raisePrices 20 rfl) rfl ?_
        refine sw_iaload (v := .int (s5.1 (b + 1) i5)) O (xx_dt dd_X1_raisePrices 21 rfl) (lk_1 s5.1 h hb) (pk_in i5 _ (by omega)) (by rw [nI_clamp (by omega)]; try exact rfl) ?_
        refine sw_iload_n O (xx_dt dd_X1_raisePrices 22 rfl) rfl ?_
        refine sw_imul O (xx_dt dd_X1_raisePrices 23 rfl) ?_
        refine sw_bipush (x := 100) O (xx_dt dd_X1_raisePrices 24 rfl) (by decide) ?_
        refine sw_idiv O (xx_dt dd_X1_raisePrices 25 rfl) (by first | decide | assumption) ?_
        refine sw_max O mm_X1_153 (xx_dt dd_X1_raisePrices 26 rfl) (by omega) (Nat.le_of_ble_eq_true rfl) ?_
        refine sw_istore (ls2 := [.ref b, .ref 1001, .int x, .int s5.2, .int (nI i5), .int (if 1 < (((s5.1 (b + 1) i5) * x) / 100) then (((s5.1 (b + 1) i5) * x) / 100) else 1)]) O (xx_dt dd_X1_raisePrices 27 rfl) (by decide) rfl ?_
        refine sw_aload_n O (xx_dt dd_X1_raisePrices 28 rfl) rfl ?_
        refine sw_get (v := .ref (b + 1)) O (xx_dt dd_X1_raisePrices 29 rfl) cl_X1 fl_X1_9 (lk_0 s5.1 h hb) (by decide) rfl ?_
        refine sw_iload O (xx_dt dd_X1_raisePrices 30 rfl) rfl ?_
        refine sw_sipush (x := 9999) O (xx_dt dd_X1_raisePrices 31 rfl) (by decide) ?_
        refine sw_aload_n O (xx_dt dd_X1_raisePrices 32 rfl) rfl ?_
        refine sw_get (v := .ref (b + 1)) O (xx_dt dd_X1_raisePrices 33 rfl) cl_X1 fl_X1_9 (lk_0 s5.1 h hb) (by decide) rfl ?_
        refine sw_iload O (xx_dt dd_X1_raisePrices 34 rfl) rfl ?_
        refine sw_iaload (v := .int (s5.1 (b + 1) i5)) O (xx_dt dd_X1_raisePrices 35 rfl) (lk_1 s5.1 h hb) (pk_in i5 _ (by omega)) (by rw [nI_clamp (by omega)]; try exact rfl) ?_
        refine sw_iload O (xx_dt dd_X1_raisePrices 36 rfl) rfl ?_
        refine sw_iadd O (xx_dt dd_X1_raisePrices 37 rfl) ?_
        refine sw_min O mm_X1_148 (xx_dt dd_X1_raisePrices 38 rfl) (by omega) (Nat.le_of_ble_eq_true rfl) ?_
        refine sw_iastore (h2 := setC (u2 s5.1 (b + 1) i5 (if ((s5.1 (b + 1) i5) + (if 1 < (((s5.1 (b + 1) i5) * x) / 100) then (((s5.1 (b + 1) i5) * x) / 100) else 1)) < 9999 then ((s5.1 (b + 1) i5) + (if 1 < (((s5.1 (b + 1) i5) * x) / 100) then (((s5.1 (b + 1) i5) * x) / 100) else 1)) else 9999)) h) O (xx_dt dd_X1_raisePrices 39 rfl) (lk_1 s5.1 h hb) (pk_in i5 _ (by omega)) (by omega) (by rw [nI_clamp (by omega)]; exact (pk_a1 hb)) ?_
        refine sw_iconst (x := 1) O (xx_dt dd_X1_raisePrices 40 rfl) (by decide) ?_
        refine sw_istore_n (ls2 := [.ref b, .ref 1001, .int x, .int 1, .int (nI i5), .int (if 1 < (((s5.1 (b + 1) i5) * x) / 100) then (((s5.1 (b + 1) i5) * x) / 100) else 1)]) O (xx_dt dd_X1_raisePrices 41 rfl) (by decide) rfl ?_
        refine sw_iinc (y := nI (i5 + 1)) (ls2 := [.ref b, .ref 1001, .int x, .int 1, .int (nI (i5 + 1)), .int (if 1 < (((s5.1 (b + 1) i5) * x) / 100) then (((s5.1 (b + 1) i5) * x) / 100) else 1)]) O (xx_dt dd_X1_raisePrices 42 rfl) rfl (nI_1 _) (by decide) rfl ?_
        refine sw_goto (tgt := 5) O (xx_dt dd_X1_raisePrices 43 rfl) (by decide) ?_
        refine sw_dum (ls2 := [.ref b, .ref 1001, .int x, .int 1, .int (nI (i5 + 1)), xx_d]) ⟨.inr rfl, .inr rfl, .inr rfl, .inr rfl, .inr rfl, .inl rfl, trivial⟩ ?_
        simp only [if_neg q2] at kk5
        exact kk5
  · show SW Y _ _ (setC ((x_raisePrices_5 σ b x R (σ, 0)).1) h) 5 [.ref b, .ref 1001, .int x, .int ((x_raisePrices_5 σ b x R (σ, 0)).2), .int (nI R), xx_d] []
    have hP5 : ((x_raisePrices_5 σ b x R (σ, 0)).1) 1001 4 = nI R ∧ ((x_raisePrices_5 σ b x R (σ, 0)).2 = 0 ∨ (x_raisePrices_5 σ b x R (σ, 0)).2 = 1) := hP5
    refine sw_iload O (xx_dt dd_X1_raisePrices 4 rfl) rfl ?_
    refine sw_aload_n O (xx_dt dd_X1_raisePrices 5 rfl) rfl ?_
    refine sw_get (v := .int (nI R)) O (xx_dt dd_X1_raisePrices 6 rfl) cl_X6 fl_X1_121 (ly_1001 ((x_raisePrices_5 σ b x R (σ, 0)).1) h) (by decide) (congrArg Value.int hP5.1) ?_
    refine sw_icmp_ge (tgt := 82) O (xx_dt dd_X1_raisePrices 7 rfl) (by decide) (fun q1 => ?_) (fun q1 => ?_)
    · refine sw_iload_n O (xx_dt dd_X1_raisePrices 44 rfl) rfl ?_
      exact sw_iret O (xx_dt dd_X1_raisePrices 45 rfl) rfl (xx_bool hP5.2) (by rw [hQ]; exact ⟨by unfold f_raisePrices; rfl, by unfold g_raisePrices; rfl⟩)
    · exact absurd (Int32.le_refl _) q1
theorem fr_raisePrices {σ : XS9} {b R : Nat} {x : Int32} {q : Nat} (h : q ≠ b + 1) : g_raisePrices σ b x R q = σ q := by
  have H0 : ∀ s0, (x_raisePrices_5 σ b x R s0).1 q = s0.1 q := fun s0 => xit_keep (fun s : XS9 × Int32 => s.1 q) (fun i s => by (try dsimp only); (repeat' split) <;> first | rfl | simp (disch := omega) only [u2_ne, uR_ne, fr_fill, fr_useWaiver, fr_undoContradictions, fr_lowerEligible, fr_moveHeld]) _ _ _
  unfold g_raisePrices
  (repeat' split) <;> first | rfl | simp (disch := omega) only [u2_ne, uR_ne, fr_fill, fr_useWaiver, fr_undoContradictions, fr_lowerEligible, fr_moveHeld, H0]
def g_begin (σ : XS9) (b : Nat)  : XS9 := u2 (u2 (g_fill (g_fill (g_fill (g_fill (uR (uR σ (b + 1) (va_cpy (σ 1012) (σ (b + 1)) 0 0 5)) (b + 4) (va_cpy (σ 1015) (σ (b + 4)) 0 0 6)) (b + 2) 6 0) (b + 3) 6 0) (b + 5) 6 2) (b + 6) 6 0) b 9 0) b 12 0
theorem ct_X1_begin {l : Launch} {h : XH} (hl : l.stackTraces = false) {σ : XS9} {b : Nat} (hb : b = 2000 ∨ b = 3000)  : XEx l m_X1_begin 1 0 0 [.ref b, .ref 1001] (setC σ h) (none) (setC (g_begin σ b) h) := by
  refine XMet.of hl rfl rfl (Nat.le_of_ble_eq_true rfl) (fun Y O hh hQ => ?_)
  show SW Y 0 0 (setC σ h) 0 [.ref b, .ref 1001] []
  refine sw_aload_n O (xx_dt dd_X1_begin 0 rfl) rfl ?_
  refine sw_get (v := .ref 1012) O (xx_dt dd_X1_begin 1 rfl) cl_X6 fl_X1_47 (ly_1001 σ h) (by decide) rfl ?_
  refine sw_iconst (x := 0) O (xx_dt dd_X1_begin 2 rfl) (by decide) ?_
  refine sw_aload_n O (xx_dt dd_X1_begin 3 rfl) rfl ?_
  refine sw_get (v := .ref (b + 1)) O (xx_dt dd_X1_begin 4 rfl) cl_X1 fl_X1_9 (lk_0 σ h hb) (by decide) rfl ?_
  refine sw_iconst (x := 0) O (xx_dt dd_X1_begin 5 rfl) (by decide) ?_
  refine sw_iconst (x := 5) O (xx_dt dd_X1_begin 6 rfl) (by decide) ?_
  refine sw_copy (h2' := setC (uR σ (b + 1) (va_cpy (σ 1012) (σ (b + 1)) 0 0 5)) h) O ay_X1_52 (xx_dt dd_X1_begin 7 rfl) (ia_1012.getE rfl) ((ik_1 hb).getE rfl) (by omega) (by decide) (by decide) (by decide) (by decide) (by decide) (by omega) (by decide +kernel) (ik_1 hb).putR ?_
  refine sw_aload_n O (xx_dt dd_X1_begin 8 rfl) rfl ?_
  refine sw_get (v := .ref 1015) O (xx_dt dd_X1_begin 9 rfl) cl_X6 fl_X1_58 (ly_1001 (uR σ (b + 1) (va_cpy (σ 1012) (σ (b + 1)) 0 0 5)) h) (by decide) rfl ?_
  refine sw_iconst (x := 0) O (xx_dt dd_X1_begin 10 rfl) (by decide) ?_
  refine sw_aload_n O (xx_dt dd_X1_begin 11 rfl) rfl ?_
  refine sw_get (v := .ref (b + 4)) O (xx_dt dd_X1_begin 12 rfl) cl_X1 fl_X1_21 (lk_0 (uR σ (b + 1) (va_cpy (σ 1012) (σ (b + 1)) 0 0 5)) h hb) (by decide) rfl ?_
  refine sw_iconst (x := 0) O (xx_dt dd_X1_begin 13 rfl) (by decide) ?_
  refine sw_bipush (x := 6) O (xx_dt dd_X1_begin 14 rfl) (by decide) ?_
  refine sw_copy (h2' := setC (uR (uR σ (b + 1) (va_cpy (σ 1012) (σ (b + 1)) 0 0 5)) (b + 4) (va_cpy (σ 1015) (σ (b + 4)) 0 0 6)) h) O ay_X1_52 (xx_dt dd_X1_begin 15 rfl) (ia_1015.getE (uR_ne (by omega))) ((ik_4 hb).getE (uR_ne (by omega))) (by omega) (by decide) (by decide) (by decide) (by decide) (by decide) (by omega) (by decide +kernel) (ik_4 hb).putR ?_
  refine sw_aload_n O (xx_dt dd_X1_begin 16 rfl) rfl ?_
  refine sw_get (v := .ref (b + 2)) O (xx_dt dd_X1_begin 17 rfl) cl_X1 fl_X1_15 (lk_0 (uR (uR σ (b + 1) (va_cpy (σ 1012) (σ (b + 1)) 0 0 5)) (b + 4) (va_cpy (σ 1015) (σ (b + 4)) 0 0 6)) h hb) (by decide) rfl ?_
  refine sw_iconst (x := 0) O (xx_dt dd_X1_begin 18 rfl) (by decide) ?_
  refine sw_callSx (as := [.ref (b + 2), .int 0]) (st := []) (st2 := []) O (ct_J7_fill_53178 hl (ik_2 hb) (by omega)) ce_J7_fill_53178 ml_X1_59 st_J7_fill_53178 (xx_dt dd_X1_begin 19 rfl) (by decide) rfl rfl (Nat.le_of_ble_eq_true rfl) rfl ?_
  refine sw_aload_n O (xx_dt dd_X1_begin 20 rfl) rfl ?_
  refine sw_get (v := .ref (b + 3)) O (xx_dt dd_X1_begin 21 rfl) cl_X1 fl_X1_18 (lk_0 (g_fill (uR (uR σ (b + 1) (va_cpy (σ 1012) (σ (b + 1)) 0 0 5)) (b + 4) (va_cpy (σ 1015) (σ (b + 4)) 0 0 6)) (b + 2) 6 0) h hb) (by decide) rfl ?_
  refine sw_iconst (x := 0) O (xx_dt dd_X1_begin 22 rfl) (by decide) ?_
  refine sw_callSx (as := [.ref (b + 3), .int 0]) (st := []) (st2 := []) O (ct_J7_fill_53178 hl (ik_3 hb) (by omega)) ce_J7_fill_53178 ml_X1_59 st_J7_fill_53178 (xx_dt dd_X1_begin 23 rfl) (by decide) rfl rfl (Nat.le_of_ble_eq_true rfl) rfl ?_
  refine sw_aload_n O (xx_dt dd_X1_begin 24 rfl) rfl ?_
  refine sw_get (v := .ref (b + 5)) O (xx_dt dd_X1_begin 25 rfl) cl_X1 fl_X1_24 (lk_0 (g_fill (g_fill (uR (uR σ (b + 1) (va_cpy (σ 1012) (σ (b + 1)) 0 0 5)) (b + 4) (va_cpy (σ 1015) (σ (b + 4)) 0 0 6)) (b + 2) 6 0) (b + 3) 6 0) h hb) (by decide) rfl ?_
  refine sw_iconst (x := 2) O (xx_dt dd_X1_begin 26 rfl) (by decide) ?_
  refine sw_callSx (as := [.ref (b + 5), .int 2]) (st := []) (st2 := []) O (ct_J7_fill_53178 hl (ik_5 hb) (by omega)) ce_J7_fill_53178 ml_X1_59 st_J7_fill_53178 (xx_dt dd_X1_begin 27 rfl) (by decide) rfl rfl (Nat.le_of_ble_eq_true rfl) rfl ?_
  refine sw_aload_n O (xx_dt dd_X1_begin 28 rfl) rfl ?_
  refine sw_get (v := .ref (b + 6)) O (xx_dt dd_X1_begin 29 rfl) cl_X1 fl_X1_27 (lk_0 (g_fill (g_fill (g_fill (uR (uR σ (b + 1) (va_cpy (σ 1012) (σ (b + 1)) 0 0 5)) (b + 4) (va_cpy (σ 1015) (σ (b + 4)) 0 0 6)) (b + 2) 6 0) (b + 3) 6 0) (b + 5) 6 2) h hb) (by decide) rfl ?_
  refine sw_iconst (x := 0) O (xx_dt dd_X1_begin 30 rfl) (by decide) ?_
  refine sw_callSx (as := [.ref (b + 6), .int 0]) (st := []) (st2 := []) O (ct_J7_fill_53178 hl (ik_6 hb) (by omega)) ce_J7_fill_53178 ml_X1_59 st_J7_fill_53178 (xx_dt dd_X1_begin 31 rfl) (by decide) rfl rfl (Nat.le_of_ble_eq_true rfl) rfl ?_
  refine sw_aload_n O (xx_dt dd_X1_begin 32 rfl) rfl ?_
  refine sw_iconst (x := 0) O (xx_dt dd_X1_begin 33 rfl) (by decide) ?_
  refine sw_put (h2 := setC (u2 (g_fill (g_fill (g_fill (g_fill (uR (uR σ (b + 1) (va_cpy (σ 1012) (σ (b + 1)) 0 0 5)) (b + 4) (va_cpy (σ 1015) (σ (b + 4)) 0 0 6)) (b + 2) 6 0) (b + 3) 6 0) (b + 5) 6 2) (b + 6) 6 0) b 9 0) h) O (xx_dt dd_X1_begin 34 rfl) cl_X1 fl_X1_65 (lk_0 (g_fill (g_fill (g_fill (g_fill (uR (uR σ (b + 1) (va_cpy (σ 1012) (σ (b + 1)) 0 0 5)) (b + 4) (va_cpy (σ 1015) (σ (b + 4)) 0 0 6)) (b + 2) 6 0) (b + 3) 6 0) (b + 5) 6 2) (b + 6) 6 0) h hb) (by decide) (by omega) rfl (fun _ => ⟨rfl, rfl⟩) (pk_f9 hb) ?_
  refine sw_aload_n O (xx_dt dd_X1_begin 35 rfl) rfl ?_
  refine sw_iconst (x := 0) O (xx_dt dd_X1_begin 36 rfl) (by decide) ?_
  refine sw_put (h2 := setC (u2 (u2 (g_fill (g_fill (g_fill (g_fill (uR (uR σ (b + 1) (va_cpy (σ 1012) (σ (b + 1)) 0 0 5)) (b + 4) (va_cpy (σ 1015) (σ (b + 4)) 0 0 6)) (b + 2) 6 0) (b + 3) 6 0) (b + 5) 6 2) (b + 6) 6 0) b 9 0) b 12 0) h) O (xx_dt dd_X1_begin 37 rfl) cl_X1 fl_X1_69 (lk_0 (u2 (g_fill (g_fill (g_fill (g_fill (uR (uR σ (b + 1) (va_cpy (σ 1012) (σ (b + 1)) 0 0 5)) (b + 4) (va_cpy (σ 1015) (σ (b + 4)) 0 0 6)) (b + 2) 6 0) (b + 3) 6 0) (b + 5) 6 2) (b + 6) 6 0) b 9 0) h hb) (by decide) (by omega) rfl (fun _ => ⟨rfl, rfl⟩) (pk_f12 hb) ?_
  exact sw_ret O (xx_dt dd_X1_begin 38 rfl) rfl (by rw [hQ]; exact ⟨rfl, by unfold g_begin; rfl⟩)
theorem fr_begin {σ : XS9} {b : Nat} {q : Nat} (h : q ≠ b ∧ q ≠ b + 1 ∧ q ≠ b + 2 ∧ q ≠ b + 3 ∧ q ≠ b + 4 ∧ q ≠ b + 5 ∧ q ≠ b + 6) : g_begin σ b q = σ q := by
  unfold g_begin
  (repeat' split) <;> first | rfl | simp (disch := omega) only [u2_ne, uR_ne, fr_fill, fr_useWaiver, fr_undoContradictions, fr_lowerEligible, fr_moveHeld, fr_raisePrices, fr_fill]
def x_closeRound_92 (σ : XS9) (b : Nat) (x : Int32) (B R K : Nat) (s0 : XS9) : XS9 := xit (fun i92 s92 => g_moveHeld s92 b i92 B) R 0 s0
def f_closeRound (σ : XS9) (b : Nat) (x : Int32) (B R K : Nat) : Int32 := (if (nI K) < 60 then (if (σ 1001 11) = 0 then (if (f_raisePrices (x_closeRound_92 σ b x B R K (g_lowerEligible (uR (uR (u2 (u2 σ (b + 7) K x) (b + 8) K (σ b 12)) (b + 101 + K) (va_cpy (σ (b + 1)) (σ (b + 101 + K)) 0 0 5)) (b + 201 + K) (va_cpy (σ (b + 3)) (σ (b + 201 + K)) 0 0 6)) b B)) b x R) = 0 then 1 else (if (nI (K + 1)) = 60 then 1 else 0)) else (if (f_raisePrices (x_closeRound_92 σ b x B R K (g_lowerEligible (g_undoContradictions (uR (uR (u2 (u2 σ (b + 7) K x) (b + 8) K (σ b 12)) (b + 101 + K) (va_cpy (σ (b + 1)) (σ (b + 101 + K)) 0 0 5)) (b + 201 + K) (va_cpy (σ (b + 3)) (σ (b + 201 + K)) 0 0 6)) b B K) b B)) b x R) = 0 then 1 else (if (nI (K + 1)) = 60 then 1 else 0))) else 1)
def g_closeRound (σ : XS9) (b : Nat) (x : Int32) (B R K : Nat) : XS9 := (if (nI K) < 60 then (if (σ 1001 11) = 0 then u2 (u2 (uR (uR (g_raisePrices (x_closeRound_92 σ b x B R K (g_lowerEligible (uR (uR (u2 (u2 σ (b + 7) K x) (b + 8) K (σ b 12)) (b + 101 + K) (va_cpy (σ (b + 1)) (σ (b + 101 + K)) 0 0 5)) (b + 201 + K) (va_cpy (σ (b + 3)) (σ (b + 201 + K)) 0 0 6)) b B)) b x R) (b + 301 + K) (va_cpy ((x_closeRound_92 σ b x B R K (g_lowerEligible (uR (uR (u2 (u2 σ (b + 7) K x) (b + 8) K (σ b 12)) (b + 101 + K) (va_cpy (σ (b + 1)) (σ (b + 101 + K)) 0 0 5)) (b + 201 + K) (va_cpy (σ (b + 3)) (σ (b + 201 + K)) 0 0 6)) b B)) (b + 2)) ((x_closeRound_92 σ b x B R K (g_lowerEligible (uR (uR (u2 (u2 σ (b + 7) K x) (b + 8) K (σ b 12)) (b + 101 + K) (va_cpy (σ (b + 1)) (σ (b + 101 + K)) 0 0 5)) (b + 201 + K) (va_cpy (σ (b + 3)) (σ (b + 201 + K)) 0 0 6)) b B)) (b + 301 + K)) 0 0 6)) (b + 3) (va_cpy ((x_closeRound_92 σ b x B R K (g_lowerEligible (uR (uR (u2 (u2 σ (b + 7) K x) (b + 8) K (σ b 12)) (b + 101 + K) (va_cpy (σ (b + 1)) (σ (b + 101 + K)) 0 0 5)) (b + 201 + K) (va_cpy (σ (b + 3)) (σ (b + 201 + K)) 0 0 6)) b B)) (b + 2)) ((x_closeRound_92 σ b x B R K (g_lowerEligible (uR (uR (u2 (u2 σ (b + 7) K x) (b + 8) K (σ b 12)) (b + 101 + K) (va_cpy (σ (b + 1)) (σ (b + 101 + K)) 0 0 5)) (b + 201 + K) (va_cpy (σ (b + 3)) (σ (b + 201 + K)) 0 0 6)) b B)) (b + 3)) 0 0 6)) b 12 0) b 9 (nI (K + 1)) else u2 (u2 (uR (uR (g_raisePrices (x_closeRound_92 σ b x B R K (g_lowerEligible (g_undoContradictions (uR (uR (u2 (u2 σ (b + 7) K x) (b + 8) K (σ b 12)) (b + 101 + K) (va_cpy (σ (b + 1)) (σ (b + 101 + K)) 0 0 5)) (b + 201 + K) (va_cpy (σ (b + 3)) (σ (b + 201 + K)) 0 0 6)) b B K) b B)) b x R) (b + 301 + K) (va_cpy ((x_closeRound_92 σ b x B R K (g_lowerEligible (g_undoContradictions (uR (uR (u2 (u2 σ (b + 7) K x) (b + 8) K (σ b 12)) (b + 101 + K) (va_cpy (σ (b + 1)) (σ (b + 101 + K)) 0 0 5)) (b + 201 + K) (va_cpy (σ (b + 3)) (σ (b + 201 + K)) 0 0 6)) b B K) b B)) (b + 2)) ((x_closeRound_92 σ b x B R K (g_lowerEligible (g_undoContradictions (uR (uR (u2 (u2 σ (b + 7) K x) (b + 8) K (σ b 12)) (b + 101 + K) (va_cpy (σ (b + 1)) (σ (b + 101 + K)) 0 0 5)) (b + 201 + K) (va_cpy (σ (b + 3)) (σ (b + 201 + K)) 0 0 6)) b B K) b B)) (b + 301 + K)) 0 0 6)) (b + 3) (va_cpy ((x_closeRound_92 σ b x B R K (g_lowerEligible (g_undoContradictions (uR (uR (u2 (u2 σ (b + 7) K x) (b + 8) K (σ b 12)) (b + 101 + K) (va_cpy (σ (b + 1)) (σ (b + 101 + K)) 0 0 5)) (b + 201 + K) (va_cpy (σ (b + 3)) (σ (b + 201 + K)) 0 0 6)) b B K) b B)) (b + 2)) ((x_closeRound_92 σ b x B R K (g_lowerEligible (g_undoContradictions (uR (uR (u2 (u2 σ (b + 7) K x) (b + 8) K (σ b 12)) (b + 101 + K) (va_cpy (σ (b + 1)) (σ (b + 101 + K)) 0 0 5)) (b + 201 + K) (va_cpy (σ (b + 3)) (σ (b + 201 + K)) 0 0 6)) b B K) b B)) (b + 3)) 0 0 6)) b 12 0) b 9 (nI (K + 1))) else σ)
theorem ct_X1_closeRound {l : Launch} {h : XH} (hl : l.stackTraces = false) {σ : XS9} {b : Nat} (hb : b = 2000 ∨ b = 3000) {B : Nat} (hB : σ 1001 9 = nI B) (hB6 : B ≤ 6) {R : Nat} (hR : σ 1001 4 = nI R) (hR5 : R ≤ 5) {K : Nat} (hK : σ b 9 = nI K) (hK60 : K ≤ 60) {x : Int32} : XEx l m_X1_closeRound 3 0 0 [.ref b, .ref 1001, .int x] (setC σ h) (some (.int (f_closeRound σ b x B R K))) (setC (g_closeRound σ b x B R K) h) := by
  refine XMet.of hl rfl rfl (Nat.le_of_ble_eq_true rfl) (fun Y O hh hQ => ?_)
  show SW Y 0 0 (setC σ h) 0 [.ref b, .ref 1001, .int x, xx_d] []
  refine sw_aload_n O (xx_dt dd_X1_closeRound 0 rfl) rfl ?_
  refine sw_get (v := .int (nI K)) O (xx_dt dd_X1_closeRound 1 rfl) cl_X1 fl_X1_65 (lk_0 σ h hb) (by decide) (congrArg Value.int hK) ?_
  refine sw_bipush (x := 60) O (xx_dt dd_X1_closeRound 2 rfl) (by decide) ?_
  refine sw_icmp_lt (tgt := 11) O (xx_dt dd_X1_closeRound 3 rfl) (by decide) (fun q1 => ?_) (fun q1 => ?_)
  · have hfq1 : K < 60 := (nI_ltI (a := K) (b := 60) (by omega) (by omega)).mp q1
    refine sw_aload_n O (xx_dt dd_X1_closeRound 6 rfl) rfl ?_
    refine sw_get (v := .ref (b + 7)) O (xx_dt dd_X1_closeRound 7 rfl) cl_X1 fl_X1_41 (lk_0 σ h hb) (by decide) rfl ?_
    refine sw_aload_n O (xx_dt dd_X1_closeRound 8 rfl) rfl ?_
    refine sw_get (v := .int (nI K)) O (xx_dt dd_X1_closeRound 9 rfl) cl_X1 fl_X1_65 (lk_0 σ h hb) (by decide) (congrArg Value.int hK) ?_
    refine sw_iload_n O (xx_dt dd_X1_closeRound 10 rfl) rfl ?_
    refine sw_iastore (h2 := setC (u2 σ (b + 7) K x) h) O (xx_dt dd_X1_closeRound 11 rfl) (lk_7 σ h hb) (pk_in K _ (by omega)) (by omega) (by rw [nI_clamp (by omega)]; exact (pk_a7 hb)) ?_
    refine sw_aload_n O (xx_dt dd_X1_closeRound 12 rfl) rfl ?_
    refine sw_get (v := .ref (b + 8)) O (xx_dt dd_X1_closeRound 13 rfl) cl_X1 fl_X1_44 (lk_0 (u2 σ (b + 7) K x) h hb) (by decide) rfl ?_
    refine sw_aload_n O (xx_dt dd_X1_closeRound 14 rfl) rfl ?_
    refine sw_get (v := .int (nI K)) O (xx_dt dd_X1_closeRound 15 rfl) cl_X1 fl_X1_65 (lk_0 (u2 σ (b + 7) K x) h hb) (by decide) (congrArg Value.int ((congrFun (u2_ne (by omega)) 9).trans hK)) ?_
    refine sw_aload_n O (xx_dt dd_X1_closeRound 16 rfl) rfl ?_
    refine sw_get (v := .int (σ b 12)) O (xx_dt dd_X1_closeRound 17 rfl) cl_X1 fl_X1_69 (lk_0 (u2 σ (b + 7) K x) h hb) (by decide) (congrArg Value.int (congrFun (u2_ne (by omega)) 12)) ?_
    refine sw_iastore (h2 := setC (u2 (u2 σ (b + 7) K x) (b + 8) K (σ b 12)) h) O (xx_dt dd_X1_closeRound 18 rfl) (lk_8 (u2 σ (b + 7) K x) h hb) (pk_in K _ (by omega)) (by omega) (by rw [nI_clamp (by omega)]; exact (pk_a8 hb)) ?_
    refine sw_aload_n O (xx_dt dd_X1_closeRound 19 rfl) rfl ?_
    refine sw_get (v := .ref (b + 1)) O (xx_dt dd_X1_closeRound 20 rfl) cl_X1 fl_X1_9 (lk_0 (u2 (u2 σ (b + 7) K x) (b + 8) K (σ b 12)) h hb) (by decide) rfl ?_
    refine sw_iconst (x := 0) O (xx_dt dd_X1_closeRound 21 rfl) (by decide) ?_
    refine sw_aload_n O (xx_dt dd_X1_closeRound 22 rfl) rfl ?_
    refine sw_get (v := .ref (b + 100)) O (xx_dt dd_X1_closeRound 23 rfl) cl_X1 fl_X1_32 (lk_0 (u2 (u2 σ (b + 7) K x) (b + 8) K (σ b 12)) h hb) (by decide) rfl ?_
    refine sw_aload_n O (xx_dt dd_X1_closeRound 24 rfl) rfl ?_
    refine sw_get (v := .int (nI K)) O (xx_dt dd_X1_closeRound 25 rfl) cl_X1 fl_X1_65 (lk_0 (u2 (u2 σ (b + 7) K x) (b + 8) K (σ b 12)) h hb) (by decide) (congrArg Value.int (((congrFun (u2_ne (by omega)) 9).trans (congrFun (u2_ne (by omega)) 9)).trans hK)) ?_
    refine sw_aaload (v := .ref (b + 101 + K)) O (xx_dt dd_X1_closeRound 26 rfl) (by omega) (by omega) (lk_100 (u2 (u2 σ (b + 7) K x) (b + 8) K (σ b 12)) h hb) (pk_in K _ (by omega)) (by rw [nI_clamp (by omega)]; try exact rfl) ?_
    refine sw_iconst (x := 0) O (xx_dt dd_X1_closeRound 27 rfl) (by decide) ?_
    refine sw_iconst (x := 5) O (xx_dt dd_X1_closeRound 28 rfl) (by decide) ?_
    refine sw_copy (h2' := setC (uR (u2 (u2 σ (b + 7) K x) (b + 8) K (σ b 12)) (b + 101 + K) (va_cpy (σ (b + 1)) (σ (b + 101 + K)) 0 0 5)) h) O ay_X1_52 (xx_dt dd_X1_closeRound 29 rfl) ((ik_1 hb).getE ((u2_ne (by omega)).trans (u2_ne (by omega)))) ((ikr_100 hb (k := K) (by omega)).getE ((u2_ne (by omega)).trans (u2_ne (by omega)))) (by omega) (by decide) (by decide) (by decide) (by decide) (by decide) (by omega) (by decide +kernel) (ikr_100 hb (k := K) (by omega)).putR ?_
    refine sw_aload_n O (xx_dt dd_X1_closeRound 30 rfl) rfl ?_
    refine sw_get (v := .ref (b + 3)) O (xx_dt dd_X1_closeRound 31 rfl) cl_X1 fl_X1_18 (lk_0 (uR (u2 (u2 σ (b + 7) K x) (b + 8) K (σ b 12)) (b + 101 + K) (va_cpy (σ (b + 1)) (σ (b + 101 + K)) 0 0 5)) h hb) (by decide) rfl ?_
    refine sw_iconst (x := 0) O (xx_dt dd_X1_closeRound 32 rfl) (by decide) ?_
    refine sw_aload_n O (xx_dt dd_X1_closeRound 33 rfl) rfl ?_
    refine sw_get (v := .ref (b + 200)) O (xx_dt dd_X1_closeRound 34 rfl) cl_X1 fl_X1_35 (lk_0 (uR (u2 (u2 σ (b + 7) K x) (b + 8) K (σ b 12)) (b + 101 + K) (va_cpy (σ (b + 1)) (σ (b + 101 + K)) 0 0 5)) h hb) (by decide) rfl ?_
    refine sw_aload_n O (xx_dt dd_X1_closeRound 35 rfl) rfl ?_
    refine sw_get (v := .int (nI K)) O (xx_dt dd_X1_closeRound 36 rfl) cl_X1 fl_X1_65 (lk_0 (uR (u2 (u2 σ (b + 7) K x) (b + 8) K (σ b 12)) (b + 101 + K) (va_cpy (σ (b + 1)) (σ (b + 101 + K)) 0 0 5)) h hb) (by decide) (congrArg Value.int ((((congrFun (uR_ne (by omega)) 9).trans (congrFun (u2_ne (by omega)) 9)).trans (congrFun (u2_ne (by omega)) 9)).trans hK)) ?_
    refine sw_aaload (v := .ref (b + 201 + K)) O (xx_dt dd_X1_closeRound 37 rfl) (by omega) (by omega) (lk_200 (uR (u2 (u2 σ (b + 7) K x) (b + 8) K (σ b 12)) (b + 101 + K) (va_cpy (σ (b + 1)) (σ (b + 101 + K)) 0 0 5)) h hb) (pk_in K _ (by omega)) (by rw [nI_clamp (by omega)]; try exact rfl) ?_
    refine sw_iconst (x := 0) O (xx_dt dd_X1_closeRound 38 rfl) (by decide) ?_
    refine sw_bipush (x := 6) O (xx_dt dd_X1_closeRound 39 rfl) (by decide) ?_
    refine sw_copy (h2' := setC (uR (uR (u2 (u2 σ (b + 7) K x) (b + 8) K (σ b 12)) (b + 101 + K) (va_cpy (σ (b + 1)) (σ (b + 101 + K)) 0 0 5)) (b + 201 + K) (va_cpy (σ (b + 3)) (σ (b + 201 + K)) 0 0 6)) h) O ay_X1_52 (xx_dt dd_X1_closeRound 40 rfl) ((ik_3 hb).getE (((uR_ne (by omega)).trans (u2_ne (by omega))).trans (u2_ne (by omega)))) ((ikr_200 hb (k := K) (by omega)).getE (((uR_ne (by omega)).trans (u2_ne (by omega))).trans (u2_ne (by omega)))) (by omega) (by decide) (by decide) (by decide) (by decide) (by decide) (by omega) (by decide +kernel) (ikr_200 hb (k := K) (by omega)).putR ?_
    refine sw_aload_n O (xx_dt dd_X1_closeRound 41 rfl) rfl ?_
    refine sw_get (v := .int (σ 1001 11)) O (xx_dt dd_X1_closeRound 42 rfl) cl_X6 fl_X1_110 (ly_1001 (uR (uR (u2 (u2 σ (b + 7) K x) (b + 8) K (σ b 12)) (b + 101 + K) (va_cpy (σ (b + 1)) (σ (b + 101 + K)) 0 0 5)) (b + 201 + K) (va_cpy (σ (b + 3)) (σ (b + 201 + K)) 0 0 6)) h) (by decide) (congrArg Value.int ((((congrFun (uR_ne (by omega)) 11).trans (congrFun (uR_ne (by omega)) 11)).trans (congrFun (u2_ne (by omega)) 11)).trans (congrFun (u2_ne (by omega)) 11))) ?_
    refine sw_if_eq (tgt := 85) O (xx_dt dd_X1_closeRound 43 rfl) (by decide) (fun q2 => ?_) (fun q2 => ?_)
    · refine sw_aload_n O (xx_dt dd_X1_closeRound 47 rfl) rfl ?_
      refine sw_aload_n O (xx_dt dd_X1_closeRound 48 rfl) rfl ?_
      refine sw_callVx (as := [.ref 1001]) (st := []) (st2 := []) O (ct_X1_lowerEligible hl (σ := uR (uR (u2 (u2 σ (b + 7) K x) (b + 8) K (σ b 12)) (b + 101 + K) (va_cpy (σ (b + 1)) (σ (b + 101 + K)) 0 0 5)) (b + 201 + K) (va_cpy (σ (b + 3)) (σ (b + 201 + K)) 0 0 6)) hb (B := B) (((((congrFun (uR_ne (by omega)) 9).trans (congrFun (uR_ne (by omega)) 9)).trans (congrFun (u2_ne (by omega)) 9)).trans (congrFun (u2_ne (by omega)) 9)).trans hB) (by omega)) ce_X1_lowerEligible ml_X1_118 iv_X1_lowerEligible cl_X1 rfl (lk_0 (uR (uR (u2 (u2 σ (b + 7) K x) (b + 8) K (σ b 12)) (b + 101 + K) (va_cpy (σ (b + 1)) (σ (b + 101 + K)) 0 0 5)) (b + 201 + K) (va_cpy (σ (b + 3)) (σ (b + 201 + K)) 0 0 6)) h hb) (xx_dt dd_X1_closeRound 49 rfl) (by decide) rfl rfl (Nat.le_of_ble_eq_true rfl) rfl ?_
      refine sw_iconst (x := 0) O (xx_dt dd_X1_closeRound 50 rfl) (by decide) ?_
      refine sw_istore_n (ls2 := [.ref b, .ref 1001, .int x, .int 0]) O (xx_dt dd_X1_closeRound 51 rfl) (by decide) rfl ?_
      refine sw_for (fun i92 s92 => g_moveHeld s92 b i92 B) (fun _ s92 => s92 1001 9 = nI B ∧ s92 1001 4 = nI R ∧ s92 b 9 = nI K) (hp := fun s92 => setC s92 h) (hd := 92) (lc := fun i92 s92 => [.ref b, .ref 1001, .int x, .int (nI i92)]) (N := R) (fun i92 s92 hi92 hP92 => ⟨(by (try dsimp only); (repeat' split) <;> first | exact hP92 | (simp (disch := omega) only [u2_ne, uR_ne, fr_fill, fr_useWaiver, fr_undoContradictions, fr_lowerEligible, fr_moveHeld, fr_raisePrices, fr_begin]; exact hP92)), fun kk92 => ?_⟩) R 0 (g_lowerEligible (uR (uR (u2 (u2 σ (b + 7) K x) (b + 8) K (σ b 12)) (b + 101 + K) (va_cpy (σ (b + 1)) (σ (b + 101 + K)) 0 0 5)) (b + 201 + K) (va_cpy (σ (b + 3)) (σ (b + 201 + K)) 0 0 6)) b B) (by omega) (⟨((((((congrFun (fr_lowerEligible (by omega)) 9).trans (congrFun (uR_ne (by omega)) 9)).trans (congrFun (uR_ne (by omega)) 9)).trans (congrFun (u2_ne (by omega)) 9)).trans (congrFun (u2_ne (by omega)) 9)).trans hB), ((((((congrFun (fr_lowerEligible (by omega)) 4).trans (congrFun (uR_ne (by omega)) 4)).trans (congrFun (uR_ne (by omega)) 4)).trans (congrFun (u2_ne (by omega)) 4)).trans (congrFun (u2_ne (by omega)) 4)).trans hR), ((((((congrFun (fr_lowerEligible (by omega)) 9).trans (congrFun (uR_ne (by omega)) 9)).trans (congrFun (uR_ne (by omega)) 9)).trans (congrFun (u2_ne (by omega)) 9)).trans (congrFun (u2_ne (by omega)) 9)).trans hK)⟩) (fun hP92 => ?_)
      · refine sw_iload_n O (xx_dt dd_X1_closeRound 52 rfl) rfl ?_
        refine sw_aload_n O (xx_dt dd_X1_closeRound 53 rfl) rfl ?_
        refine sw_get (v := .int (nI R)) O (xx_dt dd_X1_closeRound 54 rfl) cl_X6 fl_X1_121 (ly_1001 s92 h) (by decide) (congrArg Value.int hP92.2.1) ?_
        refine sw_icmp_ge (tgt := 112) O (xx_dt dd_X1_closeRound 55 rfl) (by decide) (fun q3 => ?_) (fun q3 => ?_)
        · exact absurd q3 (nI_ge (b := R) hi92 (by omega))
        · refine sw_aload_n O (xx_dt dd_X1_closeRound 56 rfl) rfl ?_
          refine sw_aload_n O (xx_dt dd_X1_closeRound 57 rfl) rfl ?_
          refine sw_iload_n O (xx_dt dd_X1_closeRound 58 rfl) rfl ?_
          refine sw_callVx (as := [.ref 1001, .int (nI i92)]) (st := []) (st2 := []) O (ct_X1_moveHeld hl (σ := s92) hb (B := B) hP92.1 (by omega) (r := i92) (by omega)) ce_X1_moveHeld ml_X1_124 iv_X1_moveHeld cl_X1 rfl (lk_0 s92 h hb) (xx_dt dd_X1_closeRound 59 rfl) (by decide) rfl rfl (Nat.le_of_ble_eq_true rfl) rfl ?_
          refine sw_iinc (y := nI (i92 + 1)) (ls2 := [.ref b, .ref 1001, .int x, .int (nI (i92 + 1))]) O (xx_dt dd_X1_closeRound 60 rfl) rfl (nI_1 _) (by decide) rfl ?_
          refine sw_goto (tgt := 92) O (xx_dt dd_X1_closeRound 61 rfl) (by decide) ?_
          exact kk92
      · show SW Y _ _ (setC (x_closeRound_92 σ b x B R K (g_lowerEligible (uR (uR (u2 (u2 σ (b + 7) K x) (b + 8) K (σ b 12)) (b + 101 + K) (va_cpy (σ (b + 1)) (σ (b + 101 + K)) 0 0 5)) (b + 201 + K) (va_cpy (σ (b + 3)) (σ (b + 201 + K)) 0 0 6)) b B)) h) 92 [.ref b, .ref 1001, .int x, .int (nI R)] []
        refine sw_iload_n O (xx_dt dd_X1_closeRound 52 rfl) rfl ?_
        refine sw_aload_n O (xx_dt dd_X1_closeRound 53 rfl) rfl ?_
        refine sw_get (v := .int (nI R)) O (xx_dt dd_X1_closeRound 54 rfl) cl_X6 fl_X1_121 (ly_1001 (x_closeRound_92 σ b x B R K (g_lowerEligible (uR (uR (u2 (u2 σ (b + 7) K x) (b + 8) K (σ b 12)) (b + 101 + K) (va_cpy (σ (b + 1)) (σ (b + 101 + K)) 0 0 5)) (b + 201 + K) (va_cpy (σ (b + 3)) (σ (b + 201 + K)) 0 0 6)) b B)) h) (by decide) (congrArg Value.int hP92.2.1) ?_
        refine sw_icmp_ge (tgt := 112) O (xx_dt dd_X1_closeRound 55 rfl) (by decide) (fun q3 => ?_) (fun q3 => ?_)
        · refine sw_aload_n O (xx_dt dd_X1_closeRound 62 rfl) rfl ?_
          refine sw_aload_n O (xx_dt dd_X1_closeRound 63 rfl) rfl ?_
          refine sw_iload_n O (xx_dt dd_X1_closeRound 64 rfl) rfl ?_
          refine sw_callVx (as := [.ref 1001, .int x]) (st := []) (st2 := [.int (f_raisePrices (x_closeRound_92 σ b x B R K (g_lowerEligible (uR (uR (u2 (u2 σ (b + 7) K x) (b + 8) K (σ b 12)) (b + 101 + K) (va_cpy (σ (b + 1)) (σ (b + 101 + K)) 0 0 5)) (b + 201 + K) (va_cpy (σ (b + 3)) (σ (b + 201 + K)) 0 0 6)) b B)) b x R)]) O (ct_X1_raisePrices hl (σ := (x_closeRound_92 σ b x B R K (g_lowerEligible (uR (uR (u2 (u2 σ (b + 7) K x) (b + 8) K (σ b 12)) (b + 101 + K) (va_cpy (σ (b + 1)) (σ (b + 101 + K)) 0 0 5)) (b + 201 + K) (va_cpy (σ (b + 3)) (σ (b + 201 + K)) 0 0 6)) b B))) hb (R := R) hP92.2.1 (by omega) (x := x)) ce_X1_raisePrices ml_X1_128 iv_X1_raisePrices cl_X1 rfl (lk_0 (x_closeRound_92 σ b x B R K (g_lowerEligible (uR (uR (u2 (u2 σ (b + 7) K x) (b + 8) K (σ b 12)) (b + 101 + K) (va_cpy (σ (b + 1)) (σ (b + 101 + K)) 0 0 5)) (b + 201 + K) (va_cpy (σ (b + 3)) (σ (b + 201 + K)) 0 0 6)) b B)) h hb) (xx_dt dd_X1_closeRound 65 rfl) (by decide) rfl rfl (Nat.le_of_ble_eq_true rfl) rfl ?_
          refine sw_istore_n (ls2 := [.ref b, .ref 1001, .int x, .int (f_raisePrices (x_closeRound_92 σ b x B R K (g_lowerEligible (uR (uR (u2 (u2 σ (b + 7) K x) (b + 8) K (σ b 12)) (b + 101 + K) (va_cpy (σ (b + 1)) (σ (b + 101 + K)) 0 0 5)) (b + 201 + K) (va_cpy (σ (b + 3)) (σ (b + 201 + K)) 0 0 6)) b B)) b x R)]) O (xx_dt dd_X1_closeRound 66 rfl) (by decide) rfl ?_
          refine sw_aload_n O (xx_dt dd_X1_closeRound 67 rfl) rfl ?_
          refine sw_get (v := .ref (b + 2)) O (xx_dt dd_X1_closeRound 68 rfl) cl_X1 fl_X1_15 (lk_0 (g_raisePrices (x_closeRound_92 σ b x B R K (g_lowerEligible (uR (uR (u2 (u2 σ (b + 7) K x) (b + 8) K (σ b 12)) (b + 101 + K) (va_cpy (σ (b + 1)) (σ (b + 101 + K)) 0 0 5)) (b + 201 + K) (va_cpy (σ (b + 3)) (σ (b + 201 + K)) 0 0 6)) b B)) b x R) h hb) (by decide) rfl ?_
          refine sw_iconst (x := 0) O (xx_dt dd_X1_closeRound 69 rfl) (by decide) ?_
          refine sw_aload_n O (xx_dt dd_X1_closeRound 70 rfl) rfl ?_
          refine sw_get (v := .ref (b + 300)) O (xx_dt dd_X1_closeRound 71 rfl) cl_X1 fl_X1_38 (lk_0 (g_raisePrices (x_closeRound_92 σ b x B R K (g_lowerEligible (uR (uR (u2 (u2 σ (b + 7) K x) (b + 8) K (σ b 12)) (b + 101 + K) (va_cpy (σ (b + 1)) (σ (b + 101 + K)) 0 0 5)) (b + 201 + K) (va_cpy (σ (b + 3)) (σ (b + 201 + K)) 0 0 6)) b B)) b x R) h hb) (by decide) rfl ?_
          refine sw_aload_n O (xx_dt dd_X1_closeRound 72 rfl) rfl ?_
          refine sw_get (v := .int (nI K)) O (xx_dt dd_X1_closeRound 73 rfl) cl_X1 fl_X1_65 (lk_0 (g_raisePrices (x_closeRound_92 σ b x B R K (g_lowerEligible (uR (uR (u2 (u2 σ (b + 7) K x) (b + 8) K (σ b 12)) (b + 101 + K) (va_cpy (σ (b + 1)) (σ (b + 101 + K)) 0 0 5)) (b + 201 + K) (va_cpy (σ (b + 3)) (σ (b + 201 + K)) 0 0 6)) b B)) b x R) h hb) (by decide) (congrArg Value.int ((congrFun (fr_raisePrices (by omega)) 9).trans hP92.2.2)) ?_
          refine sw_aaload (v := .ref (b + 301 + K)) O (xx_dt dd_X1_closeRound 74 rfl) (by omega) (by omega) (lk_300 (g_raisePrices (x_closeRound_92 σ b x B R K (g_lowerEligible (uR (uR (u2 (u2 σ (b + 7) K x) (b + 8) K (σ b 12)) (b + 101 + K) (va_cpy (σ (b + 1)) (σ (b + 101 + K)) 0 0 5)) (b + 201 + K) (va_cpy (σ (b + 3)) (σ (b + 201 + K)) 0 0 6)) b B)) b x R) h hb) (pk_in K _ (by omega)) (by rw [nI_clamp (by omega)]; try exact rfl) ?_
          refine sw_iconst (x := 0) O (xx_dt dd_X1_closeRound 75 rfl) (by decide) ?_
          refine sw_bipush (x := 6) O (xx_dt dd_X1_closeRound 76 rfl) (by decide) ?_
          refine sw_copy (h2' := setC (uR (g_raisePrices (x_closeRound_92 σ b x B R K (g_lowerEligible (uR (uR (u2 (u2 σ (b + 7) K x) (b + 8) K (σ b 12)) (b + 101 + K) (va_cpy (σ (b + 1)) (σ (b + 101 + K)) 0 0 5)) (b + 201 + K) (va_cpy (σ (b + 3)) (σ (b + 201 + K)) 0 0 6)) b B)) b x R) (b + 301 + K) (va_cpy ((x_closeRound_92 σ b x B R K (g_lowerEligible (uR (uR (u2 (u2 σ (b + 7) K x) (b + 8) K (σ b 12)) (b + 101 + K) (va_cpy (σ (b + 1)) (σ (b + 101 + K)) 0 0 5)) (b + 201 + K) (va_cpy (σ (b + 3)) (σ (b + 201 + K)) 0 0 6)) b B)) (b + 2)) ((x_closeRound_92 σ b x B R K (g_lowerEligible (uR (uR (u2 (u2 σ (b + 7) K x) (b + 8) K (σ b 12)) (b + 101 + K) (va_cpy (σ (b + 1)) (σ (b + 101 + K)) 0 0 5)) (b + 201 + K) (va_cpy (σ (b + 3)) (σ (b + 201 + K)) 0 0 6)) b B)) (b + 301 + K)) 0 0 6)) h) O ay_X1_52 (xx_dt dd_X1_closeRound 77 rfl) ((ik_2 hb).getE (fr_raisePrices (by omega))) ((ikr_300 hb (k := K) (by omega)).getE (fr_raisePrices (by omega))) (by omega) (by decide) (by decide) (by decide) (by decide) (by decide) (by omega) (by decide +kernel) (ikr_300 hb (k := K) (by omega)).putR ?_
          refine sw_aload_n O (xx_dt dd_X1_closeRound 78 rfl) rfl ?_
          refine sw_get (v := .ref (b + 2)) O (xx_dt dd_X1_closeRound 79 rfl) cl_X1 fl_X1_15 (lk_0 (uR (g_raisePrices (x_closeRound_92 σ b x B R K (g_lowerEligible (uR (uR (u2 (u2 σ (b + 7) K x) (b + 8) K (σ b 12)) (b + 101 + K) (va_cpy (σ (b + 1)) (σ (b + 101 + K)) 0 0 5)) (b + 201 + K) (va_cpy (σ (b + 3)) (σ (b + 201 + K)) 0 0 6)) b B)) b x R) (b + 301 + K) (va_cpy ((x_closeRound_92 σ b x B R K (g_lowerEligible (uR (uR (u2 (u2 σ (b + 7) K x) (b + 8) K (σ b 12)) (b + 101 + K) (va_cpy (σ (b + 1)) (σ (b + 101 + K)) 0 0 5)) (b + 201 + K) (va_cpy (σ (b + 3)) (σ (b + 201 + K)) 0 0 6)) b B)) (b + 2)) ((x_closeRound_92 σ b x B R K (g_lowerEligible (uR (uR (u2 (u2 σ (b + 7) K x) (b + 8) K (σ b 12)) (b + 101 + K) (va_cpy (σ (b + 1)) (σ (b + 101 + K)) 0 0 5)) (b + 201 + K) (va_cpy (σ (b + 3)) (σ (b + 201 + K)) 0 0 6)) b B)) (b + 301 + K)) 0 0 6)) h hb) (by decide) rfl ?_
          refine sw_iconst (x := 0) O (xx_dt dd_X1_closeRound 80 rfl) (by decide) ?_
          refine sw_aload_n O (xx_dt dd_X1_closeRound 81 rfl) rfl ?_
          refine sw_get (v := .ref (b + 3)) O (xx_dt dd_X1_closeRound 82 rfl) cl_X1 fl_X1_18 (lk_0 (uR (g_raisePrices (x_closeRound_92 σ b x B R K (g_lowerEligible (uR (uR (u2 (u2 σ (b + 7) K x) (b + 8) K (σ b 12)) (b + 101 + K) (va_cpy (σ (b + 1)) (σ (b + 101 + K)) 0 0 5)) (b + 201 + K) (va_cpy (σ (b + 3)) (σ (b + 201 + K)) 0 0 6)) b B)) b x R) (b + 301 + K) (va_cpy ((x_closeRound_92 σ b x B R K (g_lowerEligible (uR (uR (u2 (u2 σ (b + 7) K x) (b + 8) K (σ b 12)) (b + 101 + K) (va_cpy (σ (b + 1)) (σ (b + 101 + K)) 0 0 5)) (b + 201 + K) (va_cpy (σ (b + 3)) (σ (b + 201 + K)) 0 0 6)) b B)) (b + 2)) ((x_closeRound_92 σ b x B R K (g_lowerEligible (uR (uR (u2 (u2 σ (b + 7) K x) (b + 8) K (σ b 12)) (b + 101 + K) (va_cpy (σ (b + 1)) (σ (b + 101 + K)) 0 0 5)) (b + 201 + K) (va_cpy (σ (b + 3)) (σ (b + 201 + K)) 0 0 6)) b B)) (b + 301 + K)) 0 0 6)) h hb) (by decide) rfl ?_
          refine sw_iconst (x := 0) O (xx_dt dd_X1_closeRound 83 rfl) (by decide) ?_
          refine sw_bipush (x := 6) O (xx_dt dd_X1_closeRound 84 rfl) (by decide) ?_
          refine sw_copy (h2' := setC (uR (uR (g_raisePrices (x_closeRound_92 σ b x B R K (g_lowerEligible (uR (uR (u2 (u2 σ (b + 7) K x) (b + 8) K (σ b 12)) (b + 101 + K) (va_cpy (σ (b + 1)) (σ (b + 101 + K)) 0 0 5)) (b + 201 + K) (va_cpy (σ (b + 3)) (σ (b + 201 + K)) 0 0 6)) b B)) b x R) (b + 301 + K) (va_cpy ((x_closeRound_92 σ b x B R K (g_lowerEligible (uR (uR (u2 (u2 σ (b + 7) K x) (b + 8) K (σ b 12)) (b + 101 + K) (va_cpy (σ (b + 1)) (σ (b + 101 + K)) 0 0 5)) (b + 201 + K) (va_cpy (σ (b + 3)) (σ (b + 201 + K)) 0 0 6)) b B)) (b + 2)) ((x_closeRound_92 σ b x B R K (g_lowerEligible (uR (uR (u2 (u2 σ (b + 7) K x) (b + 8) K (σ b 12)) (b + 101 + K) (va_cpy (σ (b + 1)) (σ (b + 101 + K)) 0 0 5)) (b + 201 + K) (va_cpy (σ (b + 3)) (σ (b + 201 + K)) 0 0 6)) b B)) (b + 301 + K)) 0 0 6)) (b + 3) (va_cpy ((x_closeRound_92 σ b x B R K (g_lowerEligible (uR (uR (u2 (u2 σ (b + 7) K x) (b + 8) K (σ b 12)) (b + 101 + K) (va_cpy (σ (b + 1)) (σ (b + 101 + K)) 0 0 5)) (b + 201 + K) (va_cpy (σ (b + 3)) (σ (b + 201 + K)) 0 0 6)) b B)) (b + 2)) ((x_closeRound_92 σ b x B R K (g_lowerEligible (uR (uR (u2 (u2 σ (b + 7) K x) (b + 8) K (σ b 12)) (b + 101 + K) (va_cpy (σ (b + 1)) (σ (b + 101 + K)) 0 0 5)) (b + 201 + K) (va_cpy (σ (b + 3)) (σ (b + 201 + K)) 0 0 6)) b B)) (b + 3)) 0 0 6)) h) O ay_X1_52 (xx_dt dd_X1_closeRound 85 rfl) ((ik_2 hb).getE ((uR_ne (by omega)).trans (fr_raisePrices (by omega)))) ((ik_3 hb).getE ((uR_ne (by omega)).trans (fr_raisePrices (by omega)))) (by omega) (by decide) (by decide) (by decide) (by decide) (by decide) (by omega) (by decide +kernel) (ik_3 hb).putR ?_
          refine sw_aload_n O (xx_dt dd_X1_closeRound 86 rfl) rfl ?_
          refine sw_iconst (x := 0) O (xx_dt dd_X1_closeRound 87 rfl) (by decide) ?_
          refine sw_put (h2 := setC (u2 (uR (uR (g_raisePrices (x_closeRound_92 σ b x B R K (g_lowerEligible (uR (uR (u2 (u2 σ (b + 7) K x) (b + 8) K (σ b 12)) (b + 101 + K) (va_cpy (σ (b + 1)) (σ (b + 101 + K)) 0 0 5)) (b + 201 + K) (va_cpy (σ (b + 3)) (σ (b + 201 + K)) 0 0 6)) b B)) b x R) (b + 301 + K) (va_cpy ((x_closeRound_92 σ b x B R K (g_lowerEligible (uR (uR (u2 (u2 σ (b + 7) K x) (b + 8) K (σ b 12)) (b + 101 + K) (va_cpy (σ (b + 1)) (σ (b + 101 + K)) 0 0 5)) (b + 201 + K) (va_cpy (σ (b + 3)) (σ (b + 201 + K)) 0 0 6)) b B)) (b + 2)) ((x_closeRound_92 σ b x B R K (g_lowerEligible (uR (uR (u2 (u2 σ (b + 7) K x) (b + 8) K (σ b 12)) (b + 101 + K) (va_cpy (σ (b + 1)) (σ (b + 101 + K)) 0 0 5)) (b + 201 + K) (va_cpy (σ (b + 3)) (σ (b + 201 + K)) 0 0 6)) b B)) (b + 301 + K)) 0 0 6)) (b + 3) (va_cpy ((x_closeRound_92 σ b x B R K (g_lowerEligible (uR (uR (u2 (u2 σ (b + 7) K x) (b + 8) K (σ b 12)) (b + 101 + K) (va_cpy (σ (b + 1)) (σ (b + 101 + K)) 0 0 5)) (b + 201 + K) (va_cpy (σ (b + 3)) (σ (b + 201 + K)) 0 0 6)) b B)) (b + 2)) ((x_closeRound_92 σ b x B R K (g_lowerEligible (uR (uR (u2 (u2 σ (b + 7) K x) (b + 8) K (σ b 12)) (b + 101 + K) (va_cpy (σ (b + 1)) (σ (b + 101 + K)) 0 0 5)) (b + 201 + K) (va_cpy (σ (b + 3)) (σ (b + 201 + K)) 0 0 6)) b B)) (b + 3)) 0 0 6)) b 12 0) h) O (xx_dt dd_X1_closeRound 88 rfl) cl_X1 fl_X1_69 (lk_0 (uR (uR (g_raisePrices (x_closeRound_92 σ b x B R K (g_lowerEligible (uR (uR (u2 (u2 σ (b + 7) K x) (b + 8) K (σ b 12)) (b + 101 + K) (va_cpy (σ (b + 1)) (σ (b + 101 + K)) 0 0 5)) (b + 201 + K) (va_cpy (σ (b + 3)) (σ (b + 201 + K)) 0 0 6)) b B)) b x R) (b + 301 + K) (va_cpy ((x_closeRound_92 σ b x B R K (g_lowerEligible (uR (uR (u2 (u2 σ (b + 7) K x) (b + 8) K (σ b 12)) (b + 101 + K) (va_cpy (σ (b + 1)) (σ (b + 101 + K)) 0 0 5)) (b + 201 + K) (va_cpy (σ (b + 3)) (σ (b + 201 + K)) 0 0 6)) b B)) (b + 2)) ((x_closeRound_92 σ b x B R K (g_lowerEligible (uR (uR (u2 (u2 σ (b + 7) K x) (b + 8) K (σ b 12)) (b + 101 + K) (va_cpy (σ (b + 1)) (σ (b + 101 + K)) 0 0 5)) (b + 201 + K) (va_cpy (σ (b + 3)) (σ (b + 201 + K)) 0 0 6)) b B)) (b + 301 + K)) 0 0 6)) (b + 3) (va_cpy ((x_closeRound_92 σ b x B R K (g_lowerEligible (uR (uR (u2 (u2 σ (b + 7) K x) (b + 8) K (σ b 12)) (b + 101 + K) (va_cpy (σ (b + 1)) (σ (b + 101 + K)) 0 0 5)) (b + 201 + K) (va_cpy (σ (b + 3)) (σ (b + 201 + K)) 0 0 6)) b B)) (b + 2)) ((x_closeRound_92 σ b x B R K (g_lowerEligible (uR (uR (u2 (u2 σ (b + 7) K x) (b + 8) K (σ b 12)) (b + 101 + K) (va_cpy (σ (b + 1)) (σ (b + 101 + K)) 0 0 5)) (b + 201 + K) (va_cpy (σ (b + 3)) (σ (b + 201 + K)) 0 0 6)) b B)) (b + 3)) 0 0 6)) h hb) (by decide) (by omega) rfl (fun _ => ⟨rfl, rfl⟩) (pk_f12 hb) ?_
          refine sw_aload_n O (xx_dt dd_X1_closeRound 89 rfl) rfl ?_
          refine sw_dup O (xx_dt dd_X1_closeRound 90 rfl) rfl ?_
          refine sw_get (v := .int (nI K)) O (xx_dt dd_X1_closeRound 91 rfl) cl_X1 fl_X1_65 (lk_0 (u2 (uR (uR (g_raisePrices (x_closeRound_92 σ b x B R K (g_lowerEligible (uR (uR (u2 (u2 σ (b + 7) K x) (b + 8) K (σ b 12)) (b + 101 + K) (va_cpy (σ (b + 1)) (σ (b + 101 + K)) 0 0 5)) (b + 201 + K) (va_cpy (σ (b + 3)) (σ (b + 201 + K)) 0 0 6)) b B)) b x R) (b + 301 + K) (va_cpy ((x_closeRound_92 σ b x B R K (g_lowerEligible (uR (uR (u2 (u2 σ (b + 7) K x) (b + 8) K (σ b 12)) (b + 101 + K) (va_cpy (σ (b + 1)) (σ (b + 101 + K)) 0 0 5)) (b + 201 + K) (va_cpy (σ (b + 3)) (σ (b + 201 + K)) 0 0 6)) b B)) (b + 2)) ((x_closeRound_92 σ b x B R K (g_lowerEligible (uR (uR (u2 (u2 σ (b + 7) K x) (b + 8) K (σ b 12)) (b + 101 + K) (va_cpy (σ (b + 1)) (σ (b + 101 + K)) 0 0 5)) (b + 201 + K) (va_cpy (σ (b + 3)) (σ (b + 201 + K)) 0 0 6)) b B)) (b + 301 + K)) 0 0 6)) (b + 3) (va_cpy ((x_closeRound_92 σ b x B R K (g_lowerEligible (uR (uR (u2 (u2 σ (b + 7) K x) (b + 8) K (σ b 12)) (b + 101 + K) (va_cpy (σ (b + 1)) (σ (b + 101 + K)) 0 0 5)) (b + 201 + K) (va_cpy (σ (b + 3)) (σ (b + 201 + K)) 0 0 6)) b B)) (b + 2)) ((x_closeRound_92 σ b x B R K (g_lowerEligible (uR (uR (u2 (u2 σ (b + 7) K x) (b + 8) K (σ b 12)) (b + 101 + K) (va_cpy (σ (b + 1)) (σ (b + 101 + K)) 0 0 5)) (b + 201 + K) (va_cpy (σ (b + 3)) (σ (b + 201 + K)) 0 0 6)) b B)) (b + 3)) 0 0 6)) b 12 0) h hb) (by decide) (congrArg Value.int (((((u2_oi (by decide)).trans (congrFun (uR_ne (by omega)) 9)).trans (congrFun (uR_ne (by omega)) 9)).trans (congrFun (fr_raisePrices (by omega)) 9)).trans hP92.2.2)) ?_
          refine sw_iconst (x := 1) O (xx_dt dd_X1_closeRound 92 rfl) (by decide) ?_
          refine sw_iadd O (xx_dt dd_X1_closeRound 93 rfl) ?_
          rw [nI_a1 K]
          refine sw_put (h2 := setC (u2 (u2 (uR (uR (g_raisePrices (x_closeRound_92 σ b x B R K (g_lowerEligible (uR (uR (u2 (u2 σ (b + 7) K x) (b + 8) K (σ b 12)) (b + 101 + K) (va_cpy (σ (b + 1)) (σ (b + 101 + K)) 0 0 5)) (b + 201 + K) (va_cpy (σ (b + 3)) (σ (b + 201 + K)) 0 0 6)) b B)) b x R) (b + 301 + K) (va_cpy ((x_closeRound_92 σ b x B R K (g_lowerEligible (uR (uR (u2 (u2 σ (b + 7) K x) (b + 8) K (σ b 12)) (b + 101 + K) (va_cpy (σ (b + 1)) (σ (b + 101 + K)) 0 0 5)) (b + 201 + K) (va_cpy (σ (b + 3)) (σ (b + 201 + K)) 0 0 6)) b B)) (b + 2)) ((x_closeRound_92 σ b x B R K (g_lowerEligible (uR (uR (u2 (u2 σ (b + 7) K x) (b + 8) K (σ b 12)) (b + 101 + K) (va_cpy (σ (b + 1)) (σ (b + 101 + K)) 0 0 5)) (b + 201 + K) (va_cpy (σ (b + 3)) (σ (b + 201 + K)) 0 0 6)) b B)) (b + 301 + K)) 0 0 6)) (b + 3) (va_cpy ((x_closeRound_92 σ b x B R K (g_lowerEligible (uR (uR (u2 (u2 σ (b + 7) K x) (b + 8) K (σ b 12)) (b + 101 + K) (va_cpy (σ (b + 1)) (σ (b + 101 + K)) 0 0 5)) (b + 201 + K) (va_cpy (σ (b + 3)) (σ (b + 201 + K)) 0 0 6)) b B)) (b + 2)) ((x_closeRound_92 σ b x B R K (g_lowerEligible (uR (uR (u2 (u2 σ (b + 7) K x) (b + 8) K (σ b 12)) (b + 101 + K) (va_cpy (σ (b + 1)) (σ (b + 101 + K)) 0 0 5)) (b + 201 + K) (va_cpy (σ (b + 3)) (σ (b + 201 + K)) 0 0 6)) b B)) (b + 3)) 0 0 6)) b 12 0) b 9 (nI (K + 1))) h) O (xx_dt dd_X1_closeRound 94 rfl) cl_X1 fl_X1_65 (lk_0 (u2 (uR (uR (g_raisePrices (x_closeRound_92 σ b x B R K (g_lowerEligible (uR (uR (u2 (u2 σ (b + 7) K x) (b + 8) K (σ b 12)) (b + 101 + K) (va_cpy (σ (b + 1)) (σ (b + 101 + K)) 0 0 5)) (b + 201 + K) (va_cpy (σ (b + 3)) (σ (b + 201 + K)) 0 0 6)) b B)) b x R) (b + 301 + K) (va_cpy ((x_closeRound_92 σ b x B R K (g_lowerEligible (uR (uR (u2 (u2 σ (b + 7) K x) (b + 8) K (σ b 12)) (b + 101 + K) (va_cpy (σ (b + 1)) (σ (b + 101 + K)) 0 0 5)) (b + 201 + K) (va_cpy (σ (b + 3)) (σ (b + 201 + K)) 0 0 6)) b B)) (b + 2)) ((x_closeRound_92 σ b x B R K (g_lowerEligible (uR (uR (u2 (u2 σ (b + 7) K x) (b + 8) K (σ b 12)) (b + 101 + K) (va_cpy (σ (b + 1)) (σ (b + 101 + K)) 0 0 5)) (b + 201 + K) (va_cpy (σ (b + 3)) (σ (b + 201 + K)) 0 0 6)) b B)) (b + 301 + K)) 0 0 6)) (b + 3) (va_cpy ((x_closeRound_92 σ b x B R K (g_lowerEligible (uR (uR (u2 (u2 σ (b + 7) K x) (b + 8) K (σ b 12)) (b + 101 + K) (va_cpy (σ (b + 1)) (σ (b + 101 + K)) 0 0 5)) (b + 201 + K) (va_cpy (σ (b + 3)) (σ (b + 201 + K)) 0 0 6)) b B)) (b + 2)) ((x_closeRound_92 σ b x B R K (g_lowerEligible (uR (uR (u2 (u2 σ (b + 7) K x) (b + 8) K (σ b 12)) (b + 101 + K) (va_cpy (σ (b + 1)) (σ (b + 101 + K)) 0 0 5)) (b + 201 + K) (va_cpy (σ (b + 3)) (σ (b + 201 + K)) 0 0 6)) b B)) (b + 3)) 0 0 6)) b 12 0) h hb) (by decide) (by omega) rfl (fun _ => ⟨rfl, rfl⟩) (pk_f9 hb) ?_
          refine sw_iload_n O (xx_dt dd_X1_closeRound 95 rfl) rfl ?_
          refine sw_if_eq (tgt := 182) O (xx_dt dd_X1_closeRound 96 rfl) (by decide) (fun q4 => ?_) (fun q4 => ?_)
          · refine sw_iconst (x := 1) O (xx_dt dd_X1_closeRound 101 rfl) (by decide) ?_
            refine sw_goto (tgt := 187) O (xx_dt dd_X1_closeRound 102 rfl) (by decide) ?_
            exact sw_iret O (xx_dt dd_X1_closeRound 104 rfl) rfl rfl (by rw [hQ]; exact ⟨by unfold f_closeRound; simp only [if_pos q1, if_pos q2, if_pos q4], by unfold g_closeRound; simp only [if_pos q1, if_pos q2, if_pos q4]⟩)
          · refine sw_aload_n O (xx_dt dd_X1_closeRound 97 rfl) rfl ?_
            refine sw_get (v := .int (nI (K + 1))) O (xx_dt dd_X1_closeRound 98 rfl) cl_X1 fl_X1_65 (lk_0 (u2 (u2 (uR (uR (g_raisePrices (x_closeRound_92 σ b x B R K (g_lowerEligible (uR (uR (u2 (u2 σ (b + 7) K x) (b + 8) K (σ b 12)) (b + 101 + K) (va_cpy (σ (b + 1)) (σ (b + 101 + K)) 0 0 5)) (b + 201 + K) (va_cpy (σ (b + 3)) (σ (b + 201 + K)) 0 0 6)) b B)) b x R) (b + 301 + K) (va_cpy ((x_closeRound_92 σ b x B R K (g_lowerEligible (uR (uR (u2 (u2 σ (b + 7) K x) (b + 8) K (σ b 12)) (b + 101 + K) (va_cpy (σ (b + 1)) (σ (b + 101 + K)) 0 0 5)) (b + 201 + K) (va_cpy (σ (b + 3)) (σ (b + 201 + K)) 0 0 6)) b B)) (b + 2)) ((x_closeRound_92 σ b x B R K (g_lowerEligible (uR (uR (u2 (u2 σ (b + 7) K x) (b + 8) K (σ b 12)) (b + 101 + K) (va_cpy (σ (b + 1)) (σ (b + 101 + K)) 0 0 5)) (b + 201 + K) (va_cpy (σ (b + 3)) (σ (b + 201 + K)) 0 0 6)) b B)) (b + 301 + K)) 0 0 6)) (b + 3) (va_cpy ((x_closeRound_92 σ b x B R K (g_lowerEligible (uR (uR (u2 (u2 σ (b + 7) K x) (b + 8) K (σ b 12)) (b + 101 + K) (va_cpy (σ (b + 1)) (σ (b + 101 + K)) 0 0 5)) (b + 201 + K) (va_cpy (σ (b + 3)) (σ (b + 201 + K)) 0 0 6)) b B)) (b + 2)) ((x_closeRound_92 σ b x B R K (g_lowerEligible (uR (uR (u2 (u2 σ (b + 7) K x) (b + 8) K (σ b 12)) (b + 101 + K) (va_cpy (σ (b + 1)) (σ (b + 101 + K)) 0 0 5)) (b + 201 + K) (va_cpy (σ (b + 3)) (σ (b + 201 + K)) 0 0 6)) b B)) (b + 3)) 0 0 6)) b 12 0) b 9 (nI (K + 1))) h hb) (by decide) (congrArg Value.int u2_at) ?_
            refine sw_bipush (x := 60) O (xx_dt dd_X1_closeRound 99 rfl) (by decide) ?_
            refine sw_icmp_ne (tgt := 186) O (xx_dt dd_X1_closeRound 100 rfl) (by decide) (fun q5 => ?_) (fun q5 => ?_)
            · refine sw_iconst (x := 0) O (xx_dt dd_X1_closeRound 103 rfl) (by decide) ?_
              exact sw_iret O (xx_dt dd_X1_closeRound 104 rfl) rfl rfl (by rw [hQ]; exact ⟨by unfold f_closeRound; simp only [if_pos q1, if_pos q2, if_neg q4, if_neg q5], by unfold g_closeRound; simp only [if_pos q1, if_pos q2, if_neg q4, if_neg q5]⟩)
            · refine sw_iconst (x := 1) O (xx_dt dd_X1_closeRound 101 rfl) (by decide) ?_
              refine sw_goto (tgt := 187) O (xx_dt dd_X1_closeRound 102 rfl) (by decide) ?_
              exact sw_iret O (xx_dt dd_X1_closeRound 104 rfl) rfl rfl (by rw [hQ]; exact ⟨by unfold f_closeRound; simp only [if_pos q1, if_pos q2, if_neg q4, if_pos q5], by unfold g_closeRound; simp only [if_pos q1, if_pos q2, if_neg q4, if_pos q5]⟩)
        · exact absurd (Int32.le_refl _) q3
    · refine sw_aload_n O (xx_dt dd_X1_closeRound 44 rfl) rfl ?_
      refine sw_aload_n O (xx_dt dd_X1_closeRound 45 rfl) rfl ?_
      refine sw_callVx (as := [.ref 1001]) (st := []) (st2 := []) O (ct_X1_undoContradictions hl (σ := uR (uR (u2 (u2 σ (b + 7) K x) (b + 8) K (σ b 12)) (b + 101 + K) (va_cpy (σ (b + 1)) (σ (b + 101 + K)) 0 0 5)) (b + 201 + K) (va_cpy (σ (b + 3)) (σ (b + 201 + K)) 0 0 6)) hb (B := B) (((((congrFun (uR_ne (by omega)) 9).trans (congrFun (uR_ne (by omega)) 9)).trans (congrFun (u2_ne (by omega)) 9)).trans (congrFun (u2_ne (by omega)) 9)).trans hB) (by omega) (K := K) (((((congrFun (uR_ne (by omega)) 9).trans (congrFun (uR_ne (by omega)) 9)).trans (congrFun (u2_ne (by omega)) 9)).trans (congrFun (u2_ne (by omega)) 9)).trans hK) (by omega)) ce_X1_undoContradictions ml_X1_114 iv_X1_undoContradictions cl_X1 rfl (lk_0 (uR (uR (u2 (u2 σ (b + 7) K x) (b + 8) K (σ b 12)) (b + 101 + K) (va_cpy (σ (b + 1)) (σ (b + 101 + K)) 0 0 5)) (b + 201 + K) (va_cpy (σ (b + 3)) (σ (b + 201 + K)) 0 0 6)) h hb) (xx_dt dd_X1_closeRound 46 rfl) (by decide) rfl rfl (Nat.le_of_ble_eq_true rfl) rfl ?_
      refine sw_aload_n O (xx_dt dd_X1_closeRound 47 rfl) rfl ?_
      refine sw_aload_n O (xx_dt dd_X1_closeRound 48 rfl) rfl ?_
      refine sw_callVx (as := [.ref 1001]) (st := []) (st2 := []) O (ct_X1_lowerEligible hl (σ := g_undoContradictions (uR (uR (u2 (u2 σ (b + 7) K x) (b + 8) K (σ b 12)) (b + 101 + K) (va_cpy (σ (b + 1)) (σ (b + 101 + K)) 0 0 5)) (b + 201 + K) (va_cpy (σ (b + 3)) (σ (b + 201 + K)) 0 0 6)) b B K) hb (B := B) ((((((congrFun (fr_undoContradictions (by omega)) 9).trans (congrFun (uR_ne (by omega)) 9)).trans (congrFun (uR_ne (by omega)) 9)).trans (congrFun (u2_ne (by omega)) 9)).trans (congrFun (u2_ne (by omega)) 9)).trans hB) (by omega)) ce_X1_lowerEligible ml_X1_118 iv_X1_lowerEligible cl_X1 rfl (lk_0 (g_undoContradictions (uR (uR (u2 (u2 σ (b + 7) K x) (b + 8) K (σ b 12)) (b + 101 + K) (va_cpy (σ (b + 1)) (σ (b + 101 + K)) 0 0 5)) (b + 201 + K) (va_cpy (σ (b + 3)) (σ (b + 201 + K)) 0 0 6)) b B K) h hb) (xx_dt dd_X1_closeRound 49 rfl) (by decide) rfl rfl (Nat.le_of_ble_eq_true rfl) rfl ?_
      refine sw_iconst (x := 0) O (xx_dt dd_X1_closeRound 50 rfl) (by decide) ?_
      refine sw_istore_n (ls2 := [.ref b, .ref 1001, .int x, .int 0]) O (xx_dt dd_X1_closeRound 51 rfl) (by decide) rfl ?_
      refine sw_for (fun i92 s92 => g_moveHeld s92 b i92 B) (fun _ s92 => s92 1001 9 = nI B ∧ s92 1001 4 = nI R ∧ s92 b 9 = nI K) (hp := fun s92 => setC s92 h) (hd := 92) (lc := fun i92 s92 => [.ref b, .ref 1001, .int x, .int (nI i92)]) (N := R) (fun i92 s92 hi92 hP92 => ⟨(by (try dsimp only); (repeat' split) <;> first | exact hP92 | (simp (disch := omega) only [u2_ne, uR_ne, fr_fill, fr_useWaiver, fr_undoContradictions, fr_lowerEligible, fr_moveHeld, fr_raisePrices, fr_begin]; exact hP92)), fun kk92 => ?_⟩) R 0 (g_lowerEligible (g_undoContradictions (uR (uR (u2 (u2 σ (b + 7) K x) (b + 8) K (σ b 12)) (b + 101 + K) (va_cpy (σ (b + 1)) (σ (b + 101 + K)) 0 0 5)) (b + 201 + K) (va_cpy (σ (b + 3)) (σ (b + 201 + K)) 0 0 6)) b B K) b B) (by omega) (⟨(((((((congrFun (fr_lowerEligible (by omega)) 9).trans (congrFun (fr_undoContradictions (by omega)) 9)).trans (congrFun (uR_ne (by omega)) 9)).trans (congrFun (uR_ne (by omega)) 9)).trans (congrFun (u2_ne (by omega)) 9)).trans (congrFun (u2_ne (by omega)) 9)).trans hB), (((((((congrFun (fr_lowerEligible (by omega)) 4).trans (congrFun (fr_undoContradictions (by omega)) 4)).trans (congrFun (uR_ne (by omega)) 4)).trans (congrFun (uR_ne (by omega)) 4)).trans (congrFun (u2_ne (by omega)) 4)).trans (congrFun (u2_ne (by omega)) 4)).trans hR), (((((((congrFun (fr_lowerEligible (by omega)) 9).trans (congrFun (fr_undoContradictions (by omega)) 9)).trans (congrFun (uR_ne (by omega)) 9)).trans (congrFun (uR_ne (by omega)) 9)).trans (congrFun (u2_ne (by omega)) 9)).trans (congrFun (u2_ne (by omega)) 9)).trans hK)⟩) (fun hP92 => ?_)
      · refine sw_iload_n O (xx_dt dd_X1_closeRound 52 rfl) rfl ?_
        refine sw_aload_n O (xx_dt dd_X1_closeRound 53 rfl) rfl ?_
        refine sw_get (v := .int (nI R)) O (xx_dt dd_X1_closeRound 54 rfl) cl_X6 fl_X1_121 (ly_1001 s92 h) (by decide) (congrArg Value.int hP92.2.1) ?_
        refine sw_icmp_ge (tgt := 112) O (xx_dt dd_X1_closeRound 55 rfl) (by decide) (fun q6 => ?_) (fun q6 => ?_)
        · exact absurd q6 (nI_ge (b := R) hi92 (by omega))
        · refine sw_aload_n O (xx_dt dd_X1_closeRound 56 rfl) rfl ?_
          refine sw_aload_n O (xx_dt dd_X1_closeRound 57 rfl) rfl ?_
          refine sw_iload_n O (xx_dt dd_X1_closeRound 58 rfl) rfl ?_
          refine sw_callVx (as := [.ref 1001, .int (nI i92)]) (st := []) (st2 := []) O (ct_X1_moveHeld hl (σ := s92) hb (B := B) hP92.1 (by omega) (r := i92) (by omega)) ce_X1_moveHeld ml_X1_124 iv_X1_moveHeld cl_X1 rfl (lk_0 s92 h hb) (xx_dt dd_X1_closeRound 59 rfl) (by decide) rfl rfl (Nat.le_of_ble_eq_true rfl) rfl ?_
          refine sw_iinc (y := nI (i92 + 1)) (ls2 := [.ref b, .ref 1001, .int x, .int (nI (i92 + 1))]) O (xx_dt dd_X1_closeRound 60 rfl) rfl (nI_1 _) (by decide) rfl ?_
          refine sw_goto (tgt := 92) O (xx_dt dd_X1_closeRound 61 rfl) (by decide) ?_
          exact kk92
      · show SW Y _ _ (setC (x_closeRound_92 σ b x B R K (g_lowerEligible (g_undoContradictions (uR (uR (u2 (u2 σ (b + 7) K x) (b + 8) K (σ b 12)) (b + 101 + K) (va_cpy (σ (b + 1)) (σ (b + 101 + K)) 0 0 5)) (b + 201 + K) (va_cpy (σ (b + 3)) (σ (b + 201 + K)) 0 0 6)) b B K) b B)) h) 92 [.ref b, .ref 1001, .int x, .int (nI R)] []
        refine sw_iload_n O (xx_dt dd_X1_closeRound 52 rfl) rfl ?_
        refine sw_aload_n O (xx_dt dd_X1_closeRound 53 rfl) rfl ?_
        refine sw_get (v := .int (nI R)) O (xx_dt dd_X1_closeRound 54 rfl) cl_X6 fl_X1_121 (ly_1001 (x_closeRound_92 σ b x B R K (g_lowerEligible (g_undoContradictions (uR (uR (u2 (u2 σ (b + 7) K x) (b + 8) K (σ b 12)) (b + 101 + K) (va_cpy (σ (b + 1)) (σ (b + 101 + K)) 0 0 5)) (b + 201 + K) (va_cpy (σ (b + 3)) (σ (b + 201 + K)) 0 0 6)) b B K) b B)) h) (by decide) (congrArg Value.int hP92.2.1) ?_
        refine sw_icmp_ge (tgt := 112) O (xx_dt dd_X1_closeRound 55 rfl) (by decide) (fun q6 => ?_) (fun q6 => ?_)
        · refine sw_aload_n O (xx_dt dd_X1_closeRound 62 rfl) rfl ?_
          refine sw_aload_n O (xx_dt dd_X1_closeRound 63 rfl) rfl ?_
          refine sw_iload_n O (xx_dt dd_X1_closeRound 64 rfl) rfl ?_
          refine sw_callVx (as := [.ref 1001, .int x]) (st := []) (st2 := [.int (f_raisePrices (x_closeRound_92 σ b x B R K (g_lowerEligible (g_undoContradictions (uR (uR (u2 (u2 σ (b + 7) K x) (b + 8) K (σ b 12)) (b + 101 + K) (va_cpy (σ (b + 1)) (σ (b + 101 + K)) 0 0 5)) (b + 201 + K) (va_cpy (σ (b + 3)) (σ (b + 201 + K)) 0 0 6)) b B K) b B)) b x R)]) O (ct_X1_raisePrices hl (σ := (x_closeRound_92 σ b x B R K (g_lowerEligible (g_undoContradictions (uR (uR (u2 (u2 σ (b + 7) K x) (b + 8) K (σ b 12)) (b + 101 + K) (va_cpy (σ (b + 1)) (σ (b + 101 + K)) 0 0 5)) (b + 201 + K) (va_cpy (σ (b + 3)) (σ (b + 201 + K)) 0 0 6)) b B K) b B))) hb (R := R) hP92.2.1 (by omega) (x := x)) ce_X1_raisePrices ml_X1_128 iv_X1_raisePrices cl_X1 rfl (lk_0 (x_closeRound_92 σ b x B R K (g_lowerEligible (g_undoContradictions (uR (uR (u2 (u2 σ (b + 7) K x) (b + 8) K (σ b 12)) (b + 101 + K) (va_cpy (σ (b + 1)) (σ (b + 101 + K)) 0 0 5)) (b + 201 + K) (va_cpy (σ (b + 3)) (σ (b + 201 + K)) 0 0 6)) b B K) b B)) h hb) (xx_dt dd_X1_closeRound 65 rfl) (by decide) rfl rfl (Nat.le_of_ble_eq_true rfl) rfl ?_
          refine sw_istore_n (ls2 := [.ref b, .ref 1001, .int x, .int (f_raisePrices (x_closeRound_92 σ b x B R K (g_lowerEligible (g_undoContradictions (uR (uR (u2 (u2 σ (b + 7) K x) (b + 8) K (σ b 12)) (b + 101 + K) (va_cpy (σ (b + 1)) (σ (b + 101 + K)) 0 0 5)) (b + 201 + K) (va_cpy (σ (b + 3)) (σ (b + 201 + K)) 0 0 6)) b B K) b B)) b x R)]) O (xx_dt dd_X1_closeRound 66 rfl) (by decide) rfl ?_
          refine sw_aload_n O (xx_dt dd_X1_closeRound 67 rfl) rfl ?_
          refine sw_get (v := .ref (b + 2)) O (xx_dt dd_X1_closeRound 68 rfl) cl_X1 fl_X1_15 (lk_0 (g_raisePrices (x_closeRound_92 σ b x B R K (g_lowerEligible (g_undoContradictions (uR (uR (u2 (u2 σ (b + 7) K x) (b + 8) K (σ b 12)) (b + 101 + K) (va_cpy (σ (b + 1)) (σ (b + 101 + K)) 0 0 5)) (b + 201 + K) (va_cpy (σ (b + 3)) (σ (b + 201 + K)) 0 0 6)) b B K) b B)) b x R) h hb) (by decide) rfl ?_
          refine sw_iconst (x := 0) O (xx_dt dd_X1_closeRound 69 rfl) (by decide) ?_
          refine sw_aload_n O (xx_dt dd_X1_closeRound 70 rfl) rfl ?_
          refine sw_get (v := .ref (b + 300)) O (xx_dt dd_X1_closeRound 71 rfl) cl_X1 fl_X1_38 (lk_0 (g_raisePrices (x_closeRound_92 σ b x B R K (g_lowerEligible (g_undoContradictions (uR (uR (u2 (u2 σ (b + 7) K x) (b + 8) K (σ b 12)) (b + 101 + K) (va_cpy (σ (b + 1)) (σ (b + 101 + K)) 0 0 5)) (b + 201 + K) (va_cpy (σ (b + 3)) (σ (b + 201 + K)) 0 0 6)) b B K) b B)) b x R) h hb) (by decide) rfl ?_
          refine sw_aload_n O (xx_dt dd_X1_closeRound 72 rfl) rfl ?_
          refine sw_get (v := .int (nI K)) O (xx_dt dd_X1_closeRound 73 rfl) cl_X1 fl_X1_65 (lk_0 (g_raisePrices (x_closeRound_92 σ b x B R K (g_lowerEligible (g_undoContradictions (uR (uR (u2 (u2 σ (b + 7) K x) (b + 8) K (σ b 12)) (b + 101 + K) (va_cpy (σ (b + 1)) (σ (b + 101 + K)) 0 0 5)) (b + 201 + K) (va_cpy (σ (b + 3)) (σ (b + 201 + K)) 0 0 6)) b B K) b B)) b x R) h hb) (by decide) (congrArg Value.int ((congrFun (fr_raisePrices (by omega)) 9).trans hP92.2.2)) ?_
          refine sw_aaload (v := .ref (b + 301 + K)) O (xx_dt dd_X1_closeRound 74 rfl) (by omega) (by omega) (lk_300 (g_raisePrices (x_closeRound_92 σ b x B R K (g_lowerEligible (g_undoContradictions (uR (uR (u2 (u2 σ (b + 7) K x) (b + 8) K (σ b 12)) (b + 101 + K) (va_cpy (σ (b + 1)) (σ (b + 101 + K)) 0 0 5)) (b + 201 + K) (va_cpy (σ (b + 3)) (σ (b + 201 + K)) 0 0 6)) b B K) b B)) b x R) h hb) (pk_in K _ (by omega)) (by rw [nI_clamp (by omega)]; try exact rfl) ?_
          refine sw_iconst (x := 0) O (xx_dt dd_X1_closeRound 75 rfl) (by decide) ?_
          refine sw_bipush (x := 6) O (xx_dt dd_X1_closeRound 76 rfl) (by decide) ?_
          refine sw_copy (h2' := setC (uR (g_raisePrices (x_closeRound_92 σ b x B R K (g_lowerEligible (g_undoContradictions (uR (uR (u2 (u2 σ (b + 7) K x) (b + 8) K (σ b 12)) (b + 101 + K) (va_cpy (σ (b + 1)) (σ (b + 101 + K)) 0 0 5)) (b + 201 + K) (va_cpy (σ (b + 3)) (σ (b + 201 + K)) 0 0 6)) b B K) b B)) b x R) (b + 301 + K) (va_cpy ((x_closeRound_92 σ b x B R K (g_lowerEligible (g_undoContradictions (uR (uR (u2 (u2 σ (b + 7) K x) (b + 8) K (σ b 12)) (b + 101 + K) (va_cpy (σ (b + 1)) (σ (b + 101 + K)) 0 0 5)) (b + 201 + K) (va_cpy (σ (b + 3)) (σ (b + 201 + K)) 0 0 6)) b B K) b B)) (b + 2)) ((x_closeRound_92 σ b x B R K (g_lowerEligible (g_undoContradictions (uR (uR (u2 (u2 σ (b + 7) K x) (b + 8) K (σ b 12)) (b + 101 + K) (va_cpy (σ (b + 1)) (σ (b + 101 + K)) 0 0 5)) (b + 201 + K) (va_cpy (σ (b + 3)) (σ (b + 201 + K)) 0 0 6)) b B K) b B)) (b + 301 + K)) 0 0 6)) h) O ay_X1_52 (xx_dt dd_X1_closeRound 77 rfl) ((ik_2 hb).getE (fr_raisePrices (by omega))) ((ikr_300 hb (k := K) (by omega)).getE (fr_raisePrices (by omega))) (by omega) (by decide) (by decide) (by decide) (by decide) (by decide) (by omega) (by decide +kernel) (ikr_300 hb (k := K) (by omega)).putR ?_
          refine sw_aload_n O (xx_dt dd_X1_closeRound 78 rfl) rfl ?_
          refine sw_get (v := .ref (b + 2)) O (xx_dt dd_X1_closeRound 79 rfl) cl_X1 fl_X1_15 (lk_0 (uR (g_raisePrices (x_closeRound_92 σ b x B R K (g_lowerEligible (g_undoContradictions (uR (uR (u2 (u2 σ (b + 7) K x) (b + 8) K (σ b 12)) (b + 101 + K) (va_cpy (σ (b + 1)) (σ (b + 101 + K)) 0 0 5)) (b + 201 + K) (va_cpy (σ (b + 3)) (σ (b + 201 + K)) 0 0 6)) b B K) b B)) b x R) (b + 301 + K) (va_cpy ((x_closeRound_92 σ b x B R K (g_lowerEligible (g_undoContradictions (uR (uR (u2 (u2 σ (b + 7) K x) (b + 8) K (σ b 12)) (b + 101 + K) (va_cpy (σ (b + 1)) (σ (b + 101 + K)) 0 0 5)) (b + 201 + K) (va_cpy (σ (b + 3)) (σ (b + 201 + K)) 0 0 6)) b B K) b B)) (b + 2)) ((x_closeRound_92 σ b x B R K (g_lowerEligible (g_undoContradictions (uR (uR (u2 (u2 σ (b + 7) K x) (b + 8) K (σ b 12)) (b + 101 + K) (va_cpy (σ (b + 1)) (σ (b + 101 + K)) 0 0 5)) (b + 201 + K) (va_cpy (σ (b + 3)) (σ (b + 201 + K)) 0 0 6)) b B K) b B)) (b + 301 + K)) 0 0 6)) h hb) (by decide) rfl ?_
          refine sw_iconst (x := 0) O (xx_dt dd_X1_closeRound 80 rfl) (by decide) ?_
          refine sw_aload_n O (xx_dt dd_X1_closeRound 81 rfl) rfl ?_
          refine sw_get (v := .ref (b + 3)) O (xx_dt dd_X1_closeRound 82 rfl) cl_X1 fl_X1_18 (lk_0 (uR (g_raisePrices (x_closeRound_92 σ b x B R K (g_lowerEligible (g_undoContradictions (uR (uR (u2 (u2 σ (b + 7) K x) (b + 8) K (σ b 12)) (b + 101 + K) (va_cpy (σ (b + 1)) (σ (b + 101 + K)) 0 0 5)) (b + 201 + K) (va_cpy (σ (b + 3)) (σ (b + 201 + K)) 0 0 6)) b B K) b B)) b x R) (b + 301 + K) (va_cpy ((x_closeRound_92 σ b x B R K (g_lowerEligible (g_undoContradictions (uR (uR (u2 (u2 σ (b + 7) K x) (b + 8) K (σ b 12)) (b + 101 + K) (va_cpy (σ (b + 1)) (σ (b + 101 + K)) 0 0 5)) (b + 201 + K) (va_cpy (σ (b + 3)) (σ (b + 201 + K)) 0 0 6)) b B K) b B)) (b + 2)) ((x_closeRound_92 σ b x B R K (g_lowerEligible (g_undoContradictions (uR (uR (u2 (u2 σ (b + 7) K x) (b + 8) K (σ b 12)) (b + 101 + K) (va_cpy (σ (b + 1)) (σ (b + 101 + K)) 0 0 5)) (b + 201 + K) (va_cpy (σ (b + 3)) (σ (b + 201 + K)) 0 0 6)) b B K) b B)) (b + 301 + K)) 0 0 6)) h hb) (by decide) rfl ?_
          refine sw_iconst (x := 0) O (xx_dt dd_X1_closeRound 83 rfl) (by decide) ?_
          refine sw_bipush (x := 6) O (xx_dt dd_X1_closeRound 84 rfl) (by decide) ?_
          refine sw_copy (h2' := setC (uR (uR (g_raisePrices (x_closeRound_92 σ b x B R K (g_lowerEligible (g_undoContradictions (uR (uR (u2 (u2 σ (b + 7) K x) (b + 8) K (σ b 12)) (b + 101 + K) (va_cpy (σ (b + 1)) (σ (b + 101 + K)) 0 0 5)) (b + 201 + K) (va_cpy (σ (b + 3)) (σ (b + 201 + K)) 0 0 6)) b B K) b B)) b x R) (b + 301 + K) (va_cpy ((x_closeRound_92 σ b x B R K (g_lowerEligible (g_undoContradictions (uR (uR (u2 (u2 σ (b + 7) K x) (b + 8) K (σ b 12)) (b + 101 + K) (va_cpy (σ (b + 1)) (σ (b + 101 + K)) 0 0 5)) (b + 201 + K) (va_cpy (σ (b + 3)) (σ (b + 201 + K)) 0 0 6)) b B K) b B)) (b + 2)) ((x_closeRound_92 σ b x B R K (g_lowerEligible (g_undoContradictions (uR (uR (u2 (u2 σ (b + 7) K x) (b + 8) K (σ b 12)) (b + 101 + K) (va_cpy (σ (b + 1)) (σ (b + 101 + K)) 0 0 5)) (b + 201 + K) (va_cpy (σ (b + 3)) (σ (b + 201 + K)) 0 0 6)) b B K) b B)) (b + 301 + K)) 0 0 6)) (b + 3) (va_cpy ((x_closeRound_92 σ b x B R K (g_lowerEligible (g_undoContradictions (uR (uR (u2 (u2 σ (b + 7) K x) (b + 8) K (σ b 12)) (b + 101 + K) (va_cpy (σ (b + 1)) (σ (b + 101 + K)) 0 0 5)) (b + 201 + K) (va_cpy (σ (b + 3)) (σ (b + 201 + K)) 0 0 6)) b B K) b B)) (b + 2)) ((x_closeRound_92 σ b x B R K (g_lowerEligible (g_undoContradictions (uR (uR (u2 (u2 σ (b + 7) K x) (b + 8) K (σ b 12)) (b + 101 + K) (va_cpy (σ (b + 1)) (σ (b + 101 + K)) 0 0 5)) (b + 201 + K) (va_cpy (σ (b + 3)) (σ (b + 201 + K)) 0 0 6)) b B K) b B)) (b + 3)) 0 0 6)) h) O ay_X1_52 (xx_dt dd_X1_closeRound 85 rfl) ((ik_2 hb).getE ((uR_ne (by omega)).trans (fr_raisePrices (by omega)))) ((ik_3 hb).getE ((uR_ne (by omega)).trans (fr_raisePrices (by omega)))) (by omega) (by decide) (by decide) (by decide) (by decide) (by decide) (by omega) (by decide +kernel) (ik_3 hb).putR ?_
          refine sw_aload_n O (xx_dt dd_X1_closeRound 86 rfl) rfl ?_
          refine sw_iconst (x := 0) O (xx_dt dd_X1_closeRound 87 rfl) (by decide) ?_
          refine sw_put (h2 := setC (u2 (uR (uR (g_raisePrices (x_closeRound_92 σ b x B R K (g_lowerEligible (g_undoContradictions (uR (uR (u2 (u2 σ (b + 7) K x) (b + 8) K (σ b 12)) (b + 101 + K) (va_cpy (σ (b + 1)) (σ (b + 101 + K)) 0 0 5)) (b + 201 + K) (va_cpy (σ (b + 3)) (σ (b + 201 + K)) 0 0 6)) b B K) b B)) b x R) (b + 301 + K) (va_cpy ((x_closeRound_92 σ b x B R K (g_lowerEligible (g_undoContradictions (uR (uR (u2 (u2 σ (b + 7) K x) (b + 8) K (σ b 12)) (b + 101 + K) (va_cpy (σ (b + 1)) (σ (b + 101 + K)) 0 0 5)) (b + 201 + K) (va_cpy (σ (b + 3)) (σ (b + 201 + K)) 0 0 6)) b B K) b B)) (b + 2)) ((x_closeRound_92 σ b x B R K (g_lowerEligible (g_undoContradictions (uR (uR (u2 (u2 σ (b + 7) K x) (b + 8) K (σ b 12)) (b + 101 + K) (va_cpy (σ (b + 1)) (σ (b + 101 + K)) 0 0 5)) (b + 201 + K) (va_cpy (σ (b + 3)) (σ (b + 201 + K)) 0 0 6)) b B K) b B)) (b + 301 + K)) 0 0 6)) (b + 3) (va_cpy ((x_closeRound_92 σ b x B R K (g_lowerEligible (g_undoContradictions (uR (uR (u2 (u2 σ (b + 7) K x) (b + 8) K (σ b 12)) (b + 101 + K) (va_cpy (σ (b + 1)) (σ (b + 101 + K)) 0 0 5)) (b + 201 + K) (va_cpy (σ (b + 3)) (σ (b + 201 + K)) 0 0 6)) b B K) b B)) (b + 2)) ((x_closeRound_92 σ b x B R K (g_lowerEligible (g_undoContradictions (uR (uR (u2 (u2 σ (b + 7) K x) (b + 8) K (σ b 12)) (b + 101 + K) (va_cpy (σ (b + 1)) (σ (b + 101 + K)) 0 0 5)) (b + 201 + K) (va_cpy (σ (b + 3)) (σ (b + 201 + K)) 0 0 6)) b B K) b B)) (b + 3)) 0 0 6)) b 12 0) h) O (xx_dt dd_X1_closeRound 88 rfl) cl_X1 fl_X1_69 (lk_0 (uR (uR (g_raisePrices (x_closeRound_92 σ b x B R K (g_lowerEligible (g_undoContradictions (uR (uR (u2 (u2 σ (b + 7) K x) (b + 8) K (σ b 12)) (b + 101 + K) (va_cpy (σ (b + 1)) (σ (b + 101 + K)) 0 0 5)) (b + 201 + K) (va_cpy (σ (b + 3)) (σ (b + 201 + K)) 0 0 6)) b B K) b B)) b x R) (b + 301 + K) (va_cpy ((x_closeRound_92 σ b x B R K (g_lowerEligible (g_undoContradictions (uR (uR (u2 (u2 σ (b + 7) K x) (b + 8) K (σ b 12)) (b + 101 + K) (va_cpy (σ (b + 1)) (σ (b + 101 + K)) 0 0 5)) (b + 201 + K) (va_cpy (σ (b + 3)) (σ (b + 201 + K)) 0 0 6)) b B K) b B)) (b + 2)) ((x_closeRound_92 σ b x B R K (g_lowerEligible (g_undoContradictions (uR (uR (u2 (u2 σ (b + 7) K x) (b + 8) K (σ b 12)) (b + 101 + K) (va_cpy (σ (b + 1)) (σ (b + 101 + K)) 0 0 5)) (b + 201 + K) (va_cpy (σ (b + 3)) (σ (b + 201 + K)) 0 0 6)) b B K) b B)) (b + 301 + K)) 0 0 6)) (b + 3) (va_cpy ((x_closeRound_92 σ b x B R K (g_lowerEligible (g_undoContradictions (uR (uR (u2 (u2 σ (b + 7) K x) (b + 8) K (σ b 12)) (b + 101 + K) (va_cpy (σ (b + 1)) (σ (b + 101 + K)) 0 0 5)) (b + 201 + K) (va_cpy (σ (b + 3)) (σ (b + 201 + K)) 0 0 6)) b B K) b B)) (b + 2)) ((x_closeRound_92 σ b x B R K (g_lowerEligible (g_undoContradictions (uR (uR (u2 (u2 σ (b + 7) K x) (b + 8) K (σ b 12)) (b + 101 + K) (va_cpy (σ (b + 1)) (σ (b + 101 + K)) 0 0 5)) (b + 201 + K) (va_cpy (σ (b + 3)) (σ (b + 201 + K)) 0 0 6)) b B K) b B)) (b + 3)) 0 0 6)) h hb) (by decide) (by omega) rfl (fun _ => ⟨rfl, rfl⟩) (pk_f12 hb) ?_
          refine sw_aload_n O (xx_dt dd_X1_closeRound 89 rfl) rfl ?_
          refine sw_dup O (xx_dt dd_X1_closeRound 90 rfl) rfl ?_
          refine sw_get (v := .int (nI K)) O (xx_dt dd_X1_closeRound 91 rfl) cl_X1 fl_X1_65 (lk_0 (u2 (uR (uR (g_raisePrices (x_closeRound_92 σ b x B R K (g_lowerEligible (g_undoContradictions (uR (uR (u2 (u2 σ (b + 7) K x) (b + 8) K (σ b 12)) (b + 101 + K) (va_cpy (σ (b + 1)) (σ (b + 101 + K)) 0 0 5)) (b + 201 + K) (va_cpy (σ (b + 3)) (σ (b + 201 + K)) 0 0 6)) b B K) b B)) b x R) (b + 301 + K) (va_cpy ((x_closeRound_92 σ b x B R K (g_lowerEligible (g_undoContradictions (uR (uR (u2 (u2 σ (b + 7) K x) (b + 8) K (σ b 12)) (b + 101 + K) (va_cpy (σ (b + 1)) (σ (b + 101 + K)) 0 0 5)) (b + 201 + K) (va_cpy (σ (b + 3)) (σ (b + 201 + K)) 0 0 6)) b B K) b B)) (b + 2)) ((x_closeRound_92 σ b x B R K (g_lowerEligible (g_undoContradictions (uR (uR (u2 (u2 σ (b + 7) K x) (b + 8) K (σ b 12)) (b + 101 + K) (va_cpy (σ (b + 1)) (σ (b + 101 + K)) 0 0 5)) (b + 201 + K) (va_cpy (σ (b + 3)) (σ (b + 201 + K)) 0 0 6)) b B K) b B)) (b + 301 + K)) 0 0 6)) (b + 3) (va_cpy ((x_closeRound_92 σ b x B R K (g_lowerEligible (g_undoContradictions (uR (uR (u2 (u2 σ (b + 7) K x) (b + 8) K (σ b 12)) (b + 101 + K) (va_cpy (σ (b + 1)) (σ (b + 101 + K)) 0 0 5)) (b + 201 + K) (va_cpy (σ (b + 3)) (σ (b + 201 + K)) 0 0 6)) b B K) b B)) (b + 2)) ((x_closeRound_92 σ b x B R K (g_lowerEligible (g_undoContradictions (uR (uR (u2 (u2 σ (b + 7) K x) (b + 8) K (σ b 12)) (b + 101 + K) (va_cpy (σ (b + 1)) (σ (b + 101 + K)) 0 0 5)) (b + 201 + K) (va_cpy (σ (b + 3)) (σ (b + 201 + K)) 0 0 6)) b B K) b B)) (b + 3)) 0 0 6)) b 12 0) h hb) (by decide) (congrArg Value.int (((((u2_oi (by decide)).trans (congrFun (uR_ne (by omega)) 9)).trans (congrFun (uR_ne (by omega)) 9)).trans (congrFun (fr_raisePrices (by omega)) 9)).trans hP92.2.2)) ?_
          refine sw_iconst (x := 1) O (xx_dt dd_X1_closeRound 92 rfl) (by decide) ?_
          refine sw_iadd O (xx_dt dd_X1_closeRound 93 rfl) ?_
          rw [nI_a1 K]
          refine sw_put (h2 := setC (u2 (u2 (uR (uR (g_raisePrices (x_closeRound_92 σ b x B R K (g_lowerEligible (g_undoContradictions (uR (uR (u2 (u2 σ (b + 7) K x) (b + 8) K (σ b 12)) (b + 101 + K) (va_cpy (σ (b + 1)) (σ (b + 101 + K)) 0 0 5)) (b + 201 + K) (va_cpy (σ (b + 3)) (σ (b + 201 + K)) 0 0 6)) b B K) b B)) b x R) (b + 301 + K) (va_cpy ((x_closeRound_92 σ b x B R K (g_lowerEligible (g_undoContradictions (uR (uR (u2 (u2 σ (b + 7) K x) (b + 8) K (σ b 12)) (b + 101 + K) (va_cpy (σ (b + 1)) (σ (b + 101 + K)) 0 0 5)) (b + 201 + K) (va_cpy (σ (b + 3)) (σ (b + 201 + K)) 0 0 6)) b B K) b B)) (b + 2)) ((x_closeRound_92 σ b x B R K (g_lowerEligible (g_undoContradictions (uR (uR (u2 (u2 σ (b + 7) K x) (b + 8) K (σ b 12)) (b + 101 + K) (va_cpy (σ (b + 1)) (σ (b + 101 + K)) 0 0 5)) (b + 201 + K) (va_cpy (σ (b + 3)) (σ (b + 201 + K)) 0 0 6)) b B K) b B)) (b + 301 + K)) 0 0 6)) (b + 3) (va_cpy ((x_closeRound_92 σ b x B R K (g_lowerEligible (g_undoContradictions (uR (uR (u2 (u2 σ (b + 7) K x) (b + 8) K (σ b 12)) (b + 101 + K) (va_cpy (σ (b + 1)) (σ (b + 101 + K)) 0 0 5)) (b + 201 + K) (va_cpy (σ (b + 3)) (σ (b + 201 + K)) 0 0 6)) b B K) b B)) (b + 2)) ((x_closeRound_92 σ b x B R K (g_lowerEligible (g_undoContradictions (uR (uR (u2 (u2 σ (b + 7) K x) (b + 8) K (σ b 12)) (b + 101 + K) (va_cpy (σ (b + 1)) (σ (b + 101 + K)) 0 0 5)) (b + 201 + K) (va_cpy (σ (b + 3)) (σ (b + 201 + K)) 0 0 6)) b B K) b B)) (b + 3)) 0 0 6)) b 12 0) b 9 (nI (K + 1))) h) O (xx_dt dd_X1_closeRound 94 rfl) cl_X1 fl_X1_65 (lk_0 (u2 (uR (uR (g_raisePrices (x_closeRound_92 σ b x B R K (g_lowerEligible (g_undoContradictions (uR (uR (u2 (u2 σ (b + 7) K x) (b + 8) K (σ b 12)) (b + 101 + K) (va_cpy (σ (b + 1)) (σ (b + 101 + K)) 0 0 5)) (b + 201 + K) (va_cpy (σ (b + 3)) (σ (b + 201 + K)) 0 0 6)) b B K) b B)) b x R) (b + 301 + K) (va_cpy ((x_closeRound_92 σ b x B R K (g_lowerEligible (g_undoContradictions (uR (uR (u2 (u2 σ (b + 7) K x) (b + 8) K (σ b 12)) (b + 101 + K) (va_cpy (σ (b + 1)) (σ (b + 101 + K)) 0 0 5)) (b + 201 + K) (va_cpy (σ (b + 3)) (σ (b + 201 + K)) 0 0 6)) b B K) b B)) (b + 2)) ((x_closeRound_92 σ b x B R K (g_lowerEligible (g_undoContradictions (uR (uR (u2 (u2 σ (b + 7) K x) (b + 8) K (σ b 12)) (b + 101 + K) (va_cpy (σ (b + 1)) (σ (b + 101 + K)) 0 0 5)) (b + 201 + K) (va_cpy (σ (b + 3)) (σ (b + 201 + K)) 0 0 6)) b B K) b B)) (b + 301 + K)) 0 0 6)) (b + 3) (va_cpy ((x_closeRound_92 σ b x B R K (g_lowerEligible (g_undoContradictions (uR (uR (u2 (u2 σ (b + 7) K x) (b + 8) K (σ b 12)) (b + 101 + K) (va_cpy (σ (b + 1)) (σ (b + 101 + K)) 0 0 5)) (b + 201 + K) (va_cpy (σ (b + 3)) (σ (b + 201 + K)) 0 0 6)) b B K) b B)) (b + 2)) ((x_closeRound_92 σ b x B R K (g_lowerEligible (g_undoContradictions (uR (uR (u2 (u2 σ (b + 7) K x) (b + 8) K (σ b 12)) (b + 101 + K) (va_cpy (σ (b + 1)) (σ (b + 101 + K)) 0 0 5)) (b + 201 + K) (va_cpy (σ (b + 3)) (σ (b + 201 + K)) 0 0 6)) b B K) b B)) (b + 3)) 0 0 6)) b 12 0) h hb) (by decide) (by omega) rfl (fun _ => ⟨rfl, rfl⟩) (pk_f9 hb) ?_
          refine sw_iload_n O (xx_dt dd_X1_closeRound 95 rfl) rfl ?_
          refine sw_if_eq (tgt := 182) O (xx_dt dd_X1_closeRound 96 rfl) (by decide) (fun q7 => ?_) (fun q7 => ?_)
          · refine sw_iconst (x := 1) O (xx_dt dd_X1_closeRound 101 rfl) (by decide) ?_
            refine sw_goto (tgt := 187) O (xx_dt dd_X1_closeRound 102 rfl) (by decide) ?_
            exact sw_iret O (xx_dt dd_X1_closeRound 104 rfl) rfl rfl (by rw [hQ]; exact ⟨by unfold f_closeRound; simp only [if_pos q1, if_neg q2, if_pos q7], by unfold g_closeRound; simp only [if_pos q1, if_neg q2, if_pos q7]⟩)
          · refine sw_aload_n O (xx_dt dd_X1_closeRound 97 rfl) rfl ?_
            refine sw_get (v := .int (nI (K + 1))) O (xx_dt dd_X1_closeRound 98 rfl) cl_X1 fl_X1_65 (lk_0 (u2 (u2 (uR (uR (g_raisePrices (x_closeRound_92 σ b x B R K (g_lowerEligible (g_undoContradictions (uR (uR (u2 (u2 σ (b + 7) K x) (b + 8) K (σ b 12)) (b + 101 + K) (va_cpy (σ (b + 1)) (σ (b + 101 + K)) 0 0 5)) (b + 201 + K) (va_cpy (σ (b + 3)) (σ (b + 201 + K)) 0 0 6)) b B K) b B)) b x R) (b + 301 + K) (va_cpy ((x_closeRound_92 σ b x B R K (g_lowerEligible (g_undoContradictions (uR (uR (u2 (u2 σ (b + 7) K x) (b + 8) K (σ b 12)) (b + 101 + K) (va_cpy (σ (b + 1)) (σ (b + 101 + K)) 0 0 5)) (b + 201 + K) (va_cpy (σ (b + 3)) (σ (b + 201 + K)) 0 0 6)) b B K) b B)) (b + 2)) ((x_closeRound_92 σ b x B R K (g_lowerEligible (g_undoContradictions (uR (uR (u2 (u2 σ (b + 7) K x) (b + 8) K (σ b 12)) (b + 101 + K) (va_cpy (σ (b + 1)) (σ (b + 101 + K)) 0 0 5)) (b + 201 + K) (va_cpy (σ (b + 3)) (σ (b + 201 + K)) 0 0 6)) b B K) b B)) (b + 301 + K)) 0 0 6)) (b + 3) (va_cpy ((x_closeRound_92 σ b x B R K (g_lowerEligible (g_undoContradictions (uR (uR (u2 (u2 σ (b + 7) K x) (b + 8) K (σ b 12)) (b + 101 + K) (va_cpy (σ (b + 1)) (σ (b + 101 + K)) 0 0 5)) (b + 201 + K) (va_cpy (σ (b + 3)) (σ (b + 201 + K)) 0 0 6)) b B K) b B)) (b + 2)) ((x_closeRound_92 σ b x B R K (g_lowerEligible (g_undoContradictions (uR (uR (u2 (u2 σ (b + 7) K x) (b + 8) K (σ b 12)) (b + 101 + K) (va_cpy (σ (b + 1)) (σ (b + 101 + K)) 0 0 5)) (b + 201 + K) (va_cpy (σ (b + 3)) (σ (b + 201 + K)) 0 0 6)) b B K) b B)) (b + 3)) 0 0 6)) b 12 0) b 9 (nI (K + 1))) h hb) (by decide) (congrArg Value.int u2_at) ?_
            refine sw_bipush (x := 60) O (xx_dt dd_X1_closeRound 99 rfl) (by decide) ?_
            refine sw_icmp_ne (tgt := 186) O (xx_dt dd_X1_closeRound 100 rfl) (by decide) (fun q8 => ?_) (fun q8 => ?_)
            · refine sw_iconst (x := 0) O (xx_dt dd_X1_closeRound 103 rfl) (by decide) ?_
              exact sw_iret O (xx_dt dd_X1_closeRound 104 rfl) rfl rfl (by rw [hQ]; exact ⟨by unfold f_closeRound; simp only [if_pos q1, if_neg q2, if_neg q7, if_neg q8], by unfold g_closeRound; simp only [if_pos q1, if_neg q2, if_neg q7, if_neg q8]⟩)
            · refine sw_iconst (x := 1) O (xx_dt dd_X1_closeRound 101 rfl) (by decide) ?_
              refine sw_goto (tgt := 187) O (xx_dt dd_X1_closeRound 102 rfl) (by decide) ?_
              exact sw_iret O (xx_dt dd_X1_closeRound 104 rfl) rfl rfl (by rw [hQ]; exact ⟨by unfold f_closeRound; simp only [if_pos q1, if_neg q2, if_neg q7, if_pos q8], by unfold g_closeRound; simp only [if_pos q1, if_neg q2, if_neg q7, if_pos q8]⟩)
        · exact absurd (Int32.le_refl _) q6
  · have hfq1 : ¬ K < 60 := fun e => q1 ((nI_ltI (a := K) (b := 60) (by omega) (by omega)).mpr e)
    refine sw_iconst (x := 1) O (xx_dt dd_X1_closeRound 4 rfl) (by decide) ?_
    exact sw_iret O (xx_dt dd_X1_closeRound 5 rfl) rfl rfl (by rw [hQ]; exact ⟨by unfold f_closeRound; simp only [if_neg q1], by unfold g_closeRound; simp only [if_neg q1]⟩)
