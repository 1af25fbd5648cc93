/-! ===== the market: what is picked ===== -/
theorem fr_moveTaken' {σ : XS9} {i R : Nat} {x y : Int32} {gr : Nat → Nat} {q : Nat} (h : q ≠ 1044 ∧ q ≠ 1121 + gr i) : g_moveTaken σ i x y R gr q = σ q := by
  have H : ∀ s0, (x_moveTaken_19 σ i x y R gr s0).1 q = s0.1 q := fun s0 => xit_keep (fun s : XS9 × Int32 => s.1 q) (fun i s => by simp (disch := omega) only [u2_ne]) _ _ _
  unfold g_moveTaken
  exact H _
def g_take (σ : XS9) (i n R : Nat) (gr : Nat → Nat) : XS9 := g_moveTaken (u2 σ 1043 i (nI n)) i (σ (1022 + i) n) 1 R gr
theorem ct_X2_take {l : Launch} {h : XH} (hl : l.stackTraces = false) {σ : XS9} {R : Nat} (hR : σ 1001 4 = nI R) (hR5 : R ≤ 5) {gr : Nat → Nat} (hgr : ∀ i, i < 6 → σ 1017 i = nI (gr i) ∧ gr i < 4) {i n : Nat} (hi : i < 6) (hn : n < 6) : XEx l m_X2_take 1 0 0 [.ref 1003, .ref 1001, .int (nI i), .int (nI n)] (setC σ h) (none) (setC (g_take σ i n R gr) h) := by
  refine XMet.of hl rfl rfl (Nat.le_of_ble_eq_true rfl) (fun Y O hh hQ => ?_)
  show SW Y 0 0 (setC σ h) 0 [.ref 1003, .ref 1001, .int (nI i), .int (nI n)] []
  refine sw_aload_n O (xx_dt dd_X2_take 0 rfl) rfl ?_
  refine sw_get (v := .ref 1043) O (xx_dt dd_X2_take 1 rfl) cl_X2 fl_X2_35 (ly_1003 σ h) (by decide) rfl ?_
  refine sw_iload_n O (xx_dt dd_X2_take 2 rfl) rfl ?_
  refine sw_iload_n O (xx_dt dd_X2_take 3 rfl) rfl ?_
  refine sw_iastore (h2 := setC (u2 σ 1043 i (nI n)) h) O (xx_dt dd_X2_take 4 rfl) (ly_1043 σ h) (pk_in i _ (by omega)) (by decide) (by rw [nI_clamp (by omega)]; exact pa_1043) ?_
  refine sw_aload_n O (xx_dt dd_X2_take 5 rfl) rfl ?_
  refine sw_aload_n O (xx_dt dd_X2_take 6 rfl) rfl ?_
  refine sw_iload_n O (xx_dt dd_X2_take 7 rfl) rfl ?_
  refine sw_aload_n O (xx_dt dd_X2_take 8 rfl) rfl ?_
  refine sw_get (v := .ref 1021) O (xx_dt dd_X2_take 9 rfl) cl_X2 fl_X2_17 (ly_1003 (u2 σ 1043 i (nI n)) h) (by decide) rfl ?_
  refine sw_iload_n O (xx_dt dd_X2_take 10 rfl) rfl ?_
  refine sw_aaload (v := .ref (1022 + i)) O (xx_dt dd_X2_take 11 rfl) (by omega) (by omega) (ly_1021 (u2 σ 1043 i (nI n)) h) (pk_in i _ (by omega)) (by rw [nI_clamp (by omega)]; try exact rfl) ?_
  refine sw_iload_n O (xx_dt dd_X2_take 12 rfl) rfl ?_
  refine sw_iaload (v := .int (σ (1022 + i) n)) O (xx_dt dd_X2_take 13 rfl) (lr_1021 (u2 σ 1043 i (nI n)) h (k := i) (by omega)) (pk_in n _ (by omega)) (by rw [nI_clamp (by omega)]; exact (congrArg Value.int (congrFun (u2_ne (by omega)) n))) ?_
  refine sw_iconst (x := 1) O (xx_dt dd_X2_take 14 rfl) (by decide) ?_
  refine sw_callVx (as := [.ref 1001, .int (nI i), .int (σ (1022 + i) n), .int 1]) (st := []) (st2 := []) O (ct_X2_moveTaken hl (σ := u2 σ 1043 i (nI n)) (R := R) hR (by omega) (gr := gr) hgr (i := i) (x := σ (1022 + i) n) (y := 1) (by omega)) ce_X2_moveTaken ml_X2_99 iv_X2_moveTaken cl_X2 rfl (ly_1003 (u2 σ 1043 i (nI n)) h) (xx_dt dd_X2_take 15 rfl) (by first | decide | omega) rfl rfl (Nat.le_of_ble_eq_true rfl) rfl ?_
  exact sw_ret O (xx_dt dd_X2_take 16 rfl) rfl (by rw [hQ]; exact ⟨rfl, by unfold g_take; rfl⟩)
theorem fr_take {σ : XS9} {i n R : Nat} {gr : Nat → Nat} {q : Nat} (h : q ≠ 1043 ∧ q ≠ 1044 ∧ q ≠ 1121 + gr i) : g_take σ i n R gr q = σ q := by
  unfold g_take
  simp (disch := omega) only [fr_moveTaken', u2_ne]
def g_giveBack (σ : XS9) (i n R : Nat) (gr : Nat → Nat) : XS9 := g_moveTaken (u2 σ 1043 i (-1)) i (σ (1022 + i) n) (-1) R gr
theorem ct_X2_giveBack {l : Launch} {h : XH} (hl : l.stackTraces = false) {σ : XS9} {R : Nat} (hR : σ 1001 4 = nI R) (hR5 : R ≤ 5) {gr : Nat → Nat} (hgr : ∀ i, i < 6 → σ 1017 i = nI (gr i) ∧ gr i < 4) {i n : Nat} (hi : i < 6) (hn : n < 6) : XEx l m_X2_giveBack 1 0 0 [.ref 1003, .ref 1001, .int (nI i), .int (nI n)] (setC σ h) (none) (setC (g_giveBack σ i n R gr) h) := by
  refine XMet.of hl rfl rfl (Nat.le_of_ble_eq_true rfl) (fun Y O hh hQ => ?_)
  show SW Y 0 0 (setC σ h) 0 [.ref 1003, .ref 1001, .int (nI i), .int (nI n)] []
  refine sw_aload_n O (xx_dt dd_X2_giveBack 0 rfl) rfl ?_
  refine sw_get (v := .ref 1043) O (xx_dt dd_X2_giveBack 1 rfl) cl_X2 fl_X2_35 (ly_1003 σ h) (by decide) rfl ?_
  refine sw_iload_n O (xx_dt dd_X2_giveBack 2 rfl) rfl ?_
  refine sw_iconst (x := (-1)) O (xx_dt dd_X2_giveBack 3 rfl) (by decide) ?_
  refine sw_iastore (h2 := setC (u2 σ 1043 i (-1)) h) O (xx_dt dd_X2_giveBack 4 rfl) (ly_1043 σ h) (pk_in i _ (by omega)) (by decide) (by rw [nI_clamp (by omega)]; exact pa_1043) ?_
  refine sw_aload_n O (xx_dt dd_X2_giveBack 5 rfl) rfl ?_
  refine sw_aload_n O (xx_dt dd_X2_giveBack 6 rfl) rfl ?_
  refine sw_iload_n O (xx_dt dd_X2_giveBack 7 rfl) rfl ?_
  refine sw_aload_n O (xx_dt dd_X2_giveBack 8 rfl) rfl ?_
  refine sw_get (v := .ref 1021) O (xx_dt dd_X2_giveBack 9 rfl) cl_X2 fl_X2_17 (ly_1003 (u2 σ 1043 i (-1)) h) (by decide) rfl ?_
  refine sw_iload_n O (xx_dt dd_X2_giveBack 10 rfl) rfl ?_
  refine sw_aaload (v := .ref (1022 + i)) O (xx_dt dd_X2_giveBack 11 rfl) (by omega) (by omega) (ly_1021 (u2 σ 1043 i (-1)) h) (pk_in i _ (by omega)) (by rw [nI_clamp (by omega)]; try exact rfl) ?_
  refine sw_iload_n O (xx_dt dd_X2_giveBack 12 rfl) rfl ?_
  refine sw_iaload (v := .int (σ (1022 + i) n)) O (xx_dt dd_X2_giveBack 13 rfl) (lr_1021 (u2 σ 1043 i (-1)) h (k := i) (by omega)) (pk_in n _ (by omega)) (by rw [nI_clamp (by omega)]; exact (congrArg Value.int (congrFun (u2_ne (by omega)) n))) ?_
  refine sw_iconst (x := (-1)) O (xx_dt dd_X2_giveBack 14 rfl) (by decide) ?_
  refine sw_callVx (as := [.ref 1001, .int (nI i), .int (σ (1022 + i) n), .int (-1)]) (st := []) (st2 := []) O (ct_X2_moveTaken hl (σ := u2 σ 1043 i (-1)) (R := R) hR (by omega) (gr := gr) hgr (i := i) (x := σ (1022 + i) n) (y := (-1)) (by omega)) ce_X2_moveTaken ml_X2_99 iv_X2_moveTaken cl_X2 rfl (ly_1003 (u2 σ 1043 i (-1)) h) (xx_dt dd_X2_giveBack 15 rfl) (by first | decide | omega) rfl rfl (Nat.le_of_ble_eq_true rfl) rfl ?_
  exact sw_ret O (xx_dt dd_X2_giveBack 16 rfl) rfl (by rw [hQ]; exact ⟨rfl, by unfold g_giveBack; rfl⟩)
theorem fr_giveBack {σ : XS9} {i n R : Nat} {gr : Nat → Nat} {q : Nat} (h : q ≠ 1043 ∧ q ≠ 1044 ∧ q ≠ 1121 + gr i) : g_giveBack σ i n R gr q = σ q := by
  unfold g_giveBack
  simp (disch := omega) only [fr_moveTaken', u2_ne]
def x_asksFor_2 (σ : XS9) (i r : Nat) (cnt : Nat → Nat) (s0 : Unit) : Unit ⊕ Int32 := xitR (fun i2 s2 => (if (f_many (σ (1022 + i) i2) r) ≤ 0 then .inl () else .inr 1)) (cnt i) 0 s0
def f_asksFor (σ : XS9) (i r : Nat) (cnt : Nat → Nat) : Int32 := (match (x_asksFor_2 σ i r cnt ()) with | .inl s2 => 0 | .inr r2 => r2)
theorem ct_X2_asksFor {l : Launch} {h : XH} (hl : l.stackTraces = false) {σ : XS9} {cnt : Nat → Nat} (hct : ∀ i, i < 6 → σ 1020 i = nI (cnt i) ∧ cnt i ≤ 6) {i r : Nat} (hi : i < 6) (hr : r < 5) : XEx l m_X2_asksFor 1 0 0 [.ref 1003, .int (nI i), .int (nI r)] (setC σ h) (some (.int (f_asksFor σ i r cnt))) (setC σ h) := by
  refine XMet.of hl rfl rfl (Nat.le_of_ble_eq_true rfl) (fun Y O hh hQ => ?_)
  show SW Y 0 0 (setC σ h) 0 [.ref 1003, .int (nI i), .int (nI r), xx_d] []
  refine sw_iconst (x := 0) O (xx_dt dd_X2_asksFor 0 rfl) (by decide) ?_
  refine sw_istore_n (ls2 := [.ref 1003, .int (nI i), .int (nI r), .int 0]) O (xx_dt dd_X2_asksFor 1 rfl) (by decide) rfl ?_
  refine sw_forR (R := Int32) (fun i2 s2 => (if (f_many (σ (1022 + i) i2) r) ≤ 0 then .inl () else .inr 1)) (fun _ _ => True) (FR := fun r9 => f_asksFor σ i r cnt = r9) (hp := fun _ => setC σ h) (hd := 2) (lc := fun i2 s2 => [.ref 1003, .int (nI i), .int (nI r), .int (nI i2)]) (N := (cnt i)) (fun i2 s2 hi2 hP2 => ⟨fun _ _ => trivial, fun kk2 kr2 => ?_⟩) (cnt i) 0 () (by omega) (trivial) (fun sN2 eN2 hP2 => ?_) (fun r2 eN2 => ?_)
  · refine sw_iload_n O (xx_dt dd_X2_asksFor 2 rfl) rfl ?_
    refine sw_aload_n O (xx_dt dd_X2_asksFor 3 rfl) rfl ?_
    refine sw_get (v := .ref 1020) O (xx_dt dd_X2_asksFor 4 rfl) cl_X2 fl_X2_9 (ly_1003 σ h) (by decide) rfl ?_
    refine sw_iload_n O (xx_dt dd_X2_asksFor 5 rfl) rfl ?_
    have hz8 := (hct i (by omega)).2
    refine sw_iaload (v := .int (nI (cnt i))) O (xx_dt dd_X2_asksFor 6 rfl) (ly_1020 σ h) (pk_in i _ (by omega)) (by rw [nI_clamp (by omega)]; exact (congrArg Value.int (hct i (by omega)).1)) ?_
    refine sw_icmp_ge (tgt := 35) O (xx_dt dd_X2_asksFor 7 rfl) (by decide) (fun q1 => ?_) (fun q1 => ?_)
    · exact absurd q1 (nI_ge (b := (cnt i)) hi2 (by omega))
    · refine sw_aload_n O (xx_dt dd_X2_asksFor 8 rfl) rfl ?_
      refine sw_get (v := .ref 1021) O (xx_dt dd_X2_asksFor 9 rfl) cl_X2 fl_X2_17 (ly_1003 σ h) (by decide) rfl ?_
      refine sw_iload_n O (xx_dt dd_X2_asksFor 10 rfl) rfl ?_
      refine sw_aaload (v := .ref (1022 + i)) O (xx_dt dd_X2_asksFor 11 rfl) (by omega) (by omega) (ly_1021 σ h) (pk_in i _ (by omega)) (by rw [nI_clamp (by omega)]; try exact rfl) ?_
      refine sw_iload_n O (xx_dt dd_X2_asksFor 12 rfl) rfl ?_
      refine sw_iaload (v := .int (σ (1022 + i) i2)) O (xx_dt dd_X2_asksFor 13 rfl) (lr_1021 σ h (k := i) (by omega)) (pk_in i2 _ (by omega)) (by rw [nI_clamp (by omega)]; try exact rfl) ?_
      refine sw_iload_n O (xx_dt dd_X2_asksFor 14 rfl) rfl ?_
      refine sw_callSx (as := [.int (σ (1022 + i) i2), .int (nI r)]) (st := []) (st2 := [.int (f_many (σ (1022 + i) i2) r)]) O (ct_X0_many hl (c := σ (1022 + i) i2) (r := r) (by omega)) ce_X0_many ml_X2_54 st_X0_many (xx_dt dd_X2_asksFor 15 rfl) (by first | decide | omega) rfl rfl (Nat.le_of_ble_eq_true rfl) rfl ?_
      refine sw_if_le (tgt := 29) O (xx_dt dd_X2_asksFor 16 rfl) (by decide) (fun q2 => ?_) (fun q2 => ?_)
      · refine sw_iinc (y := nI (i2 + 1)) (ls2 := [.ref 1003, .int (nI i), .int (nI r), .int (nI (i2 + 1))]) O (xx_dt dd_X2_asksFor 19 rfl) rfl (nI_1 _) (by decide) rfl ?_
        refine sw_goto (tgt := 2) O (xx_dt dd_X2_asksFor 20 rfl) (by decide) ?_
        exact kk2 () (by simp only [if_pos q2])
      · refine sw_iconst (x := 1) O (xx_dt dd_X2_asksFor 17 rfl) (by decide) ?_
        exact sw_iret O (xx_dt dd_X2_asksFor 18 rfl) rfl rfl (by rw [hQ, kr2 1 (by simp only [if_neg q2])]; exact ⟨rfl, rfl⟩)
  · show SW Y _ _ (setC σ h) 2 [.ref 1003, .int (nI i), .int (nI r), .int (nI ((cnt i)))] []
    refine sw_iload_n O (xx_dt dd_X2_asksFor 2 rfl) rfl ?_
    refine sw_aload_n O (xx_dt dd_X2_asksFor 3 rfl) rfl ?_
    refine sw_get (v := .ref 1020) O (xx_dt dd_X2_asksFor 4 rfl) cl_X2 fl_X2_9 (ly_1003 σ h) (by decide) rfl ?_
    refine sw_iload_n O (xx_dt dd_X2_asksFor 5 rfl) rfl ?_
    have hz8 := (hct i (by omega)).2
    refine sw_iaload (v := .int (nI (cnt i))) O (xx_dt dd_X2_asksFor 6 rfl) (ly_1020 σ h) (pk_in i _ (by omega)) (by rw [nI_clamp (by omega)]; exact (congrArg Value.int (hct i (by omega)).1)) ?_
    refine sw_icmp_ge (tgt := 35) O (xx_dt dd_X2_asksFor 7 rfl) (by decide) (fun q1 => ?_) (fun q1 => ?_)
    · refine sw_iconst (x := 0) O (xx_dt dd_X2_asksFor 21 rfl) (by decide) ?_
      exact sw_iret O (xx_dt dd_X2_asksFor 22 rfl) rfl rfl (by rw [hQ]; exact ⟨by unfold f_asksFor; simp only [x_asksFor_2, eN2], rfl⟩)
    · exact absurd (Int32.le_refl _) q1
  · unfold f_asksFor; simp only [x_asksFor_2, eN2]
theorem rem10 {a : Int32} {R : Nat} (hR : R ≤ 5) (h0 : 0 ≤ a) (h : ¬ nI R ≤ a - a / 10 * 10) : n_lt (a - a / 10 * 10) R := by
  refine (n_lt_iff (by omega)).mpr ⟨?_, Int32.not_le.mp h⟩
  obtain ⟨h1, h2⟩ := cn_of h0
  have h3 : cn a < 2147483648 := by have := Int32.toInt_lt a; omega
  rw [h1]
  have e : (10 : Int32) = nI 10 := rfl
  rw [e, nI_rem h3 (by decide) (by decide)]
  have h4 : cn a % 10 < 10 := Nat.mod_lt _ (by decide)
  intro h5
  have h6 := i_lt.mp h5
  rw [nI_toInt (by omega)] at h6
  have : (0 : Int32).toInt = 0 := rfl
  omega
def x_isSignal_43 (σ : XS9) (i n R B : Nat) (cnt : Nat → Nat) (s0 : Unit) : Unit ⊕ Int32 := xitR (fun i43 s43 => (if (f_areAllies σ i i43) = 0 then .inl () else (if (f_asksFor σ i43 (cn ((σ (1031 + i) n) - (σ (1031 + i) n) / 10 * 10)) cnt) = 0 then .inl () else .inr 1))) B 0 s0
def f_isSignal (σ : XS9) (i n R B : Nat) (cnt : Nat → Nat) : Int32 := (if (nI R) ≤ ((σ (1031 + i) n) - (σ (1031 + i) n) / 10 * 10) then 0 else (if (f_many (σ (1022 + i) n) (cn ((σ (1031 + i) n) - (σ (1031 + i) n) / 10 * 10))) = 0 then (match (x_isSignal_43 σ i n R B cnt ()) with | .inl s43 => 0 | .inr r43 => r43) else 0))
theorem ct_X2_isSignal {l : Launch} {h : XH} (hl : l.stackTraces = false) {σ : XS9} {R : Nat} (hR : σ 1001 4 = nI R) (hR5 : R ≤ 5) {B : Nat} (hB : σ 1001 9 = nI B) (hB6 : B ≤ 6) {cnt : Nat → Nat} (hct : ∀ i, i < 6 → σ 1020 i = nI (cnt i) ∧ cnt i ≤ 6) (ham : ∀ i k, i < 6 → k < 6 → 0 ≤ σ (1031 + i) k) {i n : Nat} (hi : i < 6) (hn : n < 6) : XEx l m_X2_isSignal 2 0 0 [.ref 1003, .ref 1001, .int (nI i), .int (nI n)] (setC σ h) (some (.int (f_isSignal σ i n R B cnt))) (setC σ h) := by
  refine XMet.of hl rfl rfl (Nat.le_of_ble_eq_true rfl) (fun Y O hh hQ => ?_)
  show SW Y 0 0 (setC σ h) 0 [.ref 1003, .ref 1001, .int (nI i), .int (nI n), xx_d, xx_d] []
  refine sw_aload_n O (xx_dt dd_X2_isSignal 0 rfl) rfl ?_
  refine sw_get (v := .ref 1030) O (xx_dt dd_X2_isSignal 1 rfl) cl_X2 fl_X2_20 (ly_1003 σ h) (by decide) rfl ?_
  refine sw_iload_n O (xx_dt dd_X2_isSignal 2 rfl) rfl ?_
  refine sw_aaload (v := .ref (1031 + i)) O (xx_dt dd_X2_isSignal 3 rfl) (by omega) (by omega) (ly_1030 σ h) (pk_in i _ (by omega)) (by rw [nI_clamp (by omega)]; try exact rfl) ?_
  refine sw_iload_n O (xx_dt dd_X2_isSignal 4 rfl) rfl ?_
  refine sw_iaload (v := .int (σ (1031 + i) n)) O (xx_dt dd_X2_isSignal 5 rfl) (lr_1030 σ h (k := i) (by omega)) (pk_in n _ (by omega)) (by rw [nI_clamp (by omega)]; try exact rfl) ?_
  refine sw_bipush (x := 10) O (xx_dt dd_X2_isSignal 6 rfl) (by decide) ?_
  refine sw_irem O (xx_dt dd_X2_isSignal 7 rfl) (by first | decide | assumption) ?_
  refine sw_istore (ls2 := [.ref 1003, .ref 1001, .int (nI i), .int (nI n), .int ((σ (1031 + i) n) - (σ (1031 + i) n) / 10 * 10), xx_d]) O (xx_dt dd_X2_isSignal 8 rfl) (by decide) rfl ?_
  refine sw_iload O (xx_dt dd_X2_isSignal 9 rfl) rfl ?_
  refine sw_aload_n O (xx_dt dd_X2_isSignal 10 rfl) rfl ?_
  refine sw_get (v := .int (nI R)) O (xx_dt dd_X2_isSignal 11 rfl) cl_X6 fl_X2_90 (ly_1001 σ h) (by decide) (congrArg Value.int hR) ?_
  refine sw_icmp_ge (tgt := 38) O (xx_dt dd_X2_isSignal 12 rfl) (by decide) (fun q1 => ?_) (fun q1 => ?_)
  · refine sw_iconst (x := 0) O (xx_dt dd_X2_isSignal 22 rfl) (by decide) ?_
    exact sw_iret O (xx_dt dd_X2_isSignal 23 rfl) rfl rfl (by rw [hQ]; exact ⟨by unfold f_isSignal; simp only [if_pos q1], rfl⟩)
  · have hc19 := rem10 hR5 (ham i n hi hn) q1
    refine sw_lsE (ls2 := [.ref 1003, .ref 1001, .int (nI i), .int (nI n), .int (nI (cn ((σ (1031 + i) n) - (σ (1031 + i) n) / 10 * 10))), xx_d]) (by rw [← hc19.1]) ?_
    have hd19 := hc19.2
    refine sw_aload_n O (xx_dt dd_X2_isSignal 13 rfl) rfl ?_
    refine sw_get (v := .ref 1021) O (xx_dt dd_X2_isSignal 14 rfl) cl_X2 fl_X2_17 (ly_1003 σ h) (by decide) rfl ?_
    refine sw_iload_n O (xx_dt dd_X2_isSignal 15 rfl) rfl ?_
    refine sw_aaload (v := .ref (1022 + i)) O (xx_dt dd_X2_isSignal 16 rfl) (by omega) (by omega) (ly_1021 σ h) (pk_in i _ (by omega)) (by rw [nI_clamp (by omega)]; try exact rfl) ?_
    refine sw_iload_n O (xx_dt dd_X2_isSignal 17 rfl) rfl ?_
    refine sw_iaload (v := .int (σ (1022 + i) n)) O (xx_dt dd_X2_isSignal 18 rfl) (lr_1021 σ h (k := i) (by omega)) (pk_in n _ (by omega)) (by rw [nI_clamp (by omega)]; try exact rfl) ?_
    refine sw_iload O (xx_dt dd_X2_isSignal 19 rfl) rfl ?_
    refine sw_callSx (as := [.int (σ (1022 + i) n), .int (nI (cn ((σ (1031 + i) n) - (σ (1031 + i) n) / 10 * 10)))]) (st := []) (st2 := [.int (f_many (σ (1022 + i) n) (cn ((σ (1031 + i) n) - (σ (1031 + i) n) / 10 * 10)))]) O (ct_X0_many hl (c := σ (1022 + i) n) (r := cn ((σ (1031 + i) n) - (σ (1031 + i) n) / 10 * 10)) (by omega)) ce_X0_many ml_X2_54 st_X0_many (xx_dt dd_X2_isSignal 20 rfl) (by first | decide | omega) rfl rfl (Nat.le_of_ble_eq_true rfl) rfl ?_
    refine sw_if_eq (tgt := 40) O (xx_dt dd_X2_isSignal 21 rfl) (by decide) (fun q2 => ?_) (fun q2 => ?_)
    · refine sw_iconst (x := 0) O (xx_dt dd_X2_isSignal 24 rfl) (by decide) ?_
      refine sw_istore (ls2 := [.ref 1003, .ref 1001, .int (nI i), .int (nI n), .int (nI (cn ((σ (1031 + i) n) - (σ (1031 + i) n) / 10 * 10))), .int 0]) O (xx_dt dd_X2_isSignal 25 rfl) (by decide) rfl ?_
      refine sw_forR (R := Int32) (fun i43 s43 => (if (f_areAllies σ i i43) = 0 then .inl () else (if (f_asksFor σ i43 (cn ((σ (1031 + i) n) - (σ (1031 + i) n) / 10 * 10)) cnt) = 0 then .inl () else .inr 1))) (fun _ _ => True) (FR := fun r9 => f_isSignal σ i n R B cnt = r9) (hp := fun _ => setC σ h) (hd := 43) (lc := fun i43 s43 => [.ref 1003, .ref 1001, .int (nI i), .int (nI n), .int (nI (cn ((σ (1031 + i) n) - (σ (1031 + i) n) / 10 * 10))), .int (nI i43)]) (N := B) (fun i43 s43 hi43 hP43 => ⟨fun _ _ => trivial, fun kk43 kr43 => ?_⟩) B 0 () (by omega) (trivial) (fun sN43 eN43 hP43 => ?_) (fun r43 eN43 => ?_)
      · refine sw_iload O (xx_dt dd_X2_isSignal 26 rfl) rfl ?_
        refine sw_aload_n O (xx_dt dd_X2_isSignal 27 rfl) rfl ?_
        refine sw_get (v := .int (nI B)) O (xx_dt dd_X2_isSignal 28 rfl) cl_X6 fl_X2_78 (ly_1001 σ h) (by decide) (congrArg Value.int hB) ?_
        refine sw_icmp_ge (tgt := 81) O (xx_dt dd_X2_isSignal 29 rfl) (by decide) (fun q3 => ?_) (fun q3 => ?_)
        · exact absurd q3 (nI_ge (b := B) hi43 (by omega))
        · refine sw_aload_n O (xx_dt dd_X2_isSignal 30 rfl) rfl ?_
          refine sw_iload_n O (xx_dt dd_X2_isSignal 31 rfl) rfl ?_
          refine sw_iload O (xx_dt dd_X2_isSignal 32 rfl) rfl ?_
          refine sw_callVx (as := [.int (nI i), .int (nI i43)]) (st := []) (st2 := [.int (f_areAllies σ i i43)]) O (ct_X6_areAllies hl (σ := σ) (i := i) (j := i43) (by omega) (by omega)) ce_X6_areAllies ml_X2_125 iv_X6_areAllies cl_X6 rfl (ly_1001 σ h) (xx_dt dd_X2_isSignal 33 rfl) (by first | decide | omega) rfl rfl (Nat.le_of_ble_eq_true rfl) rfl ?_
          refine sw_if_eq (tgt := 75) O (xx_dt dd_X2_isSignal 34 rfl) (by decide) (fun q4 => ?_) (fun q4 => ?_)
          · refine sw_iinc (y := nI (i43 + 1)) (ls2 := [.ref 1003, .ref 1001, .int (nI i), .int (nI n), .int (nI (cn ((σ (1031 + i) n) - (σ (1031 + i) n) / 10 * 10))), .int (nI (i43 + 1))]) O (xx_dt dd_X2_isSignal 42 rfl) rfl (nI_1 _) (by decide) rfl ?_
            refine sw_goto (tgt := 43) O (xx_dt dd_X2_isSignal 43 rfl) (by decide) ?_
            exact kk43 () (by simp only [if_pos q4])
          · refine sw_aload_n O (xx_dt dd_X2_isSignal 35 rfl) rfl ?_
            refine sw_iload O (xx_dt dd_X2_isSignal 36 rfl) rfl ?_
            refine sw_iload O (xx_dt dd_X2_isSignal 37 rfl) rfl ?_
            refine sw_callVx (as := [.int (nI i43), .int (nI (cn ((σ (1031 + i) n) - (σ (1031 + i) n) / 10 * 10)))]) (st := []) (st2 := [.int (f_asksFor σ i43 (cn ((σ (1031 + i) n) - (σ (1031 + i) n) / 10 * 10)) cnt)]) O (ct_X2_asksFor hl (σ := σ) (cnt := cnt) hct (i := i43) (r := cn ((σ (1031 + i) n) - (σ (1031 + i) n) / 10 * 10)) (by omega) (by omega)) ce_X2_asksFor ml_X2_129 iv_X2_asksFor cl_X2 rfl (ly_1003 σ h) (xx_dt dd_X2_isSignal 38 rfl) (by first | decide | omega) rfl rfl (Nat.le_of_ble_eq_true rfl) rfl ?_
            refine sw_if_eq (tgt := 75) O (xx_dt dd_X2_isSignal 39 rfl) (by decide) (fun q5 => ?_) (fun q5 => ?_)
            · refine sw_iinc (y := nI (i43 + 1)) (ls2 := [.ref 1003, .ref 1001, .int (nI i), .int (nI n), .int (nI (cn ((σ (1031 + i) n) - (σ (1031 + i) n) / 10 * 10))), .int (nI (i43 + 1))]) O (xx_dt dd_X2_isSignal 42 rfl) rfl (nI_1 _) (by decide) rfl ?_
              refine sw_goto (tgt := 43) O (xx_dt dd_X2_isSignal 43 rfl) (by decide) ?_
              exact kk43 () (by simp only [if_neg q4, if_pos q5])
            · refine sw_iconst (x := 1) O (xx_dt dd_X2_isSignal 40 rfl) (by decide) ?_
              exact sw_iret O (xx_dt dd_X2_isSignal 41 rfl) rfl rfl (by rw [hQ, kr43 1 (by simp only [if_neg q4, if_neg q5])]; exact ⟨rfl, rfl⟩)
      · show SW Y _ _ (setC σ h) 43 [.ref 1003, .ref 1001, .int (nI i), .int (nI n), .int (nI (cn ((σ (1031 + i) n) - (σ (1031 + i) n) / 10 * 10))), .int (nI B)] []
        refine sw_iload O (xx_dt dd_X2_isSignal 26 rfl) rfl ?_
        refine sw_aload_n O (xx_dt dd_X2_isSignal 27 rfl) rfl ?_
        refine sw_get (v := .int (nI B)) O (xx_dt dd_X2_isSignal 28 rfl) cl_X6 fl_X2_78 (ly_1001 σ h) (by decide) (congrArg Value.int hB) ?_
        refine sw_icmp_ge (tgt := 81) O (xx_dt dd_X2_isSignal 29 rfl) (by decide) (fun q3 => ?_) (fun q3 => ?_)
        · refine sw_iconst (x := 0) O (xx_dt dd_X2_isSignal 44 rfl) (by decide) ?_
          exact sw_iret O (xx_dt dd_X2_isSignal 45 rfl) rfl rfl (by rw [hQ]; exact ⟨by unfold f_isSignal; simp only [if_neg q1, if_pos q2, x_isSignal_43, eN43], rfl⟩)
        · exact absurd (Int32.le_refl _) q3
      · unfold f_isSignal; simp only [if_neg q1, if_pos q2, x_isSignal_43, eN43]
    · refine sw_iconst (x := 0) O (xx_dt dd_X2_isSignal 22 rfl) (by decide) ?_
      exact sw_iret O (xx_dt dd_X2_isSignal 23 rfl) rfl rfl (by rw [hQ]; exact ⟨by unfold f_isSignal; simp only [if_neg q1, if_neg q2], rfl⟩)
def x_signals_15 (σ : XS9) (R B : Nat) (cnt : Nat → Nat) (i4 : Nat) (s0 : Int32) : Int32 := xit (fun i15 s15 => (if (f_isSignal σ i4 (1 + i15) R B cnt) = 0 then s15 else s15 + 1)) (cnt i4 - 1) 0 s0
def x_signals_4 (σ : XS9) (R B : Nat) (cnt : Nat → Nat) (s0 : Int32) : Int32 := xit (fun i4 s4 => (x_signals_15 σ R B cnt i4 s4)) B 0 s0
def f_signals (σ : XS9) (R B : Nat) (cnt : Nat → Nat) : Int32 := (x_signals_4 σ R B cnt 0)
theorem ct_X2_signals {l : Launch} {h : XH} (hl : l.stackTraces = false) {σ : XS9} {R : Nat} (hR : σ 1001 4 = nI R) (hR5 : R ≤ 5) {B : Nat} (hB : σ 1001 9 = nI B) (hB6 : B ≤ 6) {cnt : Nat → Nat} (hct : ∀ i, i < 6 → σ 1020 i = nI (cnt i) ∧ cnt i ≤ 6) (ham : ∀ i k, i < 6 → k < 6 → 0 ≤ σ (1031 + i) k)  : XEx l m_X2_signals 3 0 0 [.ref 1003, .ref 1001] (setC σ h) (some (.int (f_signals σ R B cnt))) (setC σ h) := by
  refine XMet.of hl rfl rfl (Nat.le_of_ble_eq_true rfl) (fun Y O hh hQ => ?_)
  show SW Y 0 0 (setC σ h) 0 [.ref 1003, .ref 1001, xx_d, xx_d, xx_d] []
  refine sw_iconst (x := 0) O (xx_dt dd_X2_signals 0 rfl) (by decide) ?_
  refine sw_istore_n (ls2 := [.ref 1003, .ref 1001, .int 0, xx_d, xx_d]) O (xx_dt dd_X2_signals 1 rfl) (by decide) rfl ?_
  refine sw_iconst (x := 0) O (xx_dt dd_X2_signals 2 rfl) (by decide) ?_
  refine sw_istore_n (ls2 := [.ref 1003, .ref 1001, .int 0, .int 0, xx_d]) O (xx_dt dd_X2_signals 3 rfl) (by decide) rfl ?_
  refine sw_for (fun i4 s4 => (x_signals_15 σ R B cnt i4 s4)) (fun _ _ => True) (hp := fun _ => setC σ h) (hd := 4) (lc := fun i4 s4 => [.ref 1003, .ref 1001, .int s4, .int (nI i4), xx_d]) (N := B) (fun i4 s4 hi4 hP4 => ⟨trivial, fun kk4 => ?_⟩) B 0 0 (by omega) (trivial) (fun hP4 => ?_)
  · refine sw_iload_n O (xx_dt dd_X2_signals 4 rfl) rfl ?_
    refine sw_aload_n O (xx_dt dd_X2_signals 5 rfl) rfl ?_
    refine sw_get (v := .int (nI B)) O (xx_dt dd_X2_signals 6 rfl) cl_X6 fl_X2_78 (ly_1001 σ h) (by decide) (congrArg Value.int hB) ?_
    refine sw_icmp_ge (tgt := 52) O (xx_dt dd_X2_signals 7 rfl) (by decide) (fun q1 => ?_) (fun q1 => ?_)
    · exact absurd q1 (nI_ge (b := B) hi4 (by omega))
    · refine sw_iconst (x := 1) O (xx_dt dd_X2_signals 8 rfl) (by decide) ?_
      refine sw_istore (ls2 := [.ref 1003, .ref 1001, .int s4, .int (nI i4), .int 1]) O (xx_dt dd_X2_signals 9 rfl) (by decide) rfl ?_
      refine sw_for (fun i15 s15 => (if (f_isSignal σ i4 (1 + i15) R B cnt) = 0 then s15 else s15 + 1)) (fun _ _ => True) (hp := fun _ => setC σ h) (hd := 15) (lc := fun i15 s15 => [.ref 1003, .ref 1001, .int s15, .int (nI i4), .int (nI (1 + i15))]) (N := (cnt i4 - 1)) (fun i15 s15 hi15 hP15 => ⟨trivial, fun kk15 => ?_⟩) (cnt i4 - 1) 0 s4 (by omega) (trivial) (fun hP15 => ?_)
      · refine sw_iload O (xx_dt dd_X2_signals 10 rfl) rfl ?_
        refine sw_aload_n O (xx_dt dd_X2_signals 11 rfl) rfl ?_
        refine sw_get (v := .ref 1020) O (xx_dt dd_X2_signals 12 rfl) cl_X2 fl_X2_9 (ly_1003 σ h) (by decide) rfl ?_
        refine sw_iload_n O (xx_dt dd_X2_signals 13 rfl) rfl ?_
        have hz22 := (hct i4 (by omega)).2
        refine sw_iaload (v := .int (nI (cnt i4))) O (xx_dt dd_X2_signals 14 rfl) (ly_1020 σ h) (pk_in i4 _ (by omega)) (by rw [nI_clamp (by omega)]; exact (congrArg Value.int (hct i4 (by omega)).1)) ?_
        refine sw_icmp_ge (tgt := 46) O (xx_dt dd_X2_signals 15 rfl) (by decide) (fun q2 => ?_) (fun q2 => ?_)
        · exact absurd q2 (nI_ge (a := 1 + i15) (b := (cnt i4)) (by omega) (by omega))
        · refine sw_aload_n O (xx_dt dd_X2_signals 16 rfl) rfl ?_
          refine sw_aload_n O (xx_dt dd_X2_signals 17 rfl) rfl ?_
          refine sw_iload_n O (xx_dt dd_X2_signals 18 rfl) rfl ?_
          refine sw_iload O (xx_dt dd_X2_signals 19 rfl) rfl ?_
          refine sw_callVx (as := [.ref 1001, .int (nI i4), .int (nI (1 + i15))]) (st := []) (st2 := [.int (f_isSignal σ i4 (1 + i15) R B cnt)]) O (ct_X2_isSignal hl (σ := σ) (R := R) hR (by omega) (B := B) hB (by omega) (cnt := cnt) hct ham (i := i4) (n := 1 + i15) (by omega) (by omega)) ce_X2_isSignal ml_X2_122 iv_X2_isSignal cl_X2 rfl (ly_1003 σ h) (xx_dt dd_X2_signals 20 rfl) (by first | decide | omega) rfl rfl (Nat.le_of_ble_eq_true rfl) rfl ?_
          refine sw_if_eq (tgt := 40) O (xx_dt dd_X2_signals 21 rfl) (by decide) (fun q3 => ?_) (fun q3 => ?_)
          · refine sw_iinc (y := nI (1 + i15 + 1)) (ls2 := [.ref 1003, .ref 1001, .int s15, .int (nI i4), .int (nI (1 + i15 + 1))]) O (xx_dt dd_X2_signals 23 rfl) rfl (nI_1 _) (by decide) rfl ?_
            refine sw_goto (tgt := 15) O (xx_dt dd_X2_signals 24 rfl) (by decide) ?_
            simp only [if_pos q3] at kk15
            exact kk15
          · refine sw_iinc (y := s15 + 1) (ls2 := [.ref 1003, .ref 1001, .int (s15 + 1), .int (nI i4), .int (nI (1 + i15))]) O (xx_dt dd_X2_signals 22 rfl) rfl rfl (by decide) rfl ?_
            refine sw_iinc (y := nI (1 + i15 + 1)) (ls2 := [.ref 1003, .ref 1001, .int (s15 + 1), .int (nI i4), .int (nI (1 + i15 + 1))]) O (xx_dt dd_X2_signals 23 rfl) rfl (nI_1 _) (by decide) rfl ?_
            refine sw_goto (tgt := 15) O (xx_dt dd_X2_signals 24 rfl) (by decide) ?_
            simp only [if_neg q3] at kk15
            exact kk15
      · show SW Y _ _ (setC σ h) 15 [.ref 1003, .ref 1001, .int (x_signals_15 σ R B cnt i4 s4), .int (nI i4), .int (nI (1 + (cnt i4 - 1)))] []
        refine sw_iload O (xx_dt dd_X2_signals 10 rfl) rfl ?_
        refine sw_aload_n O (xx_dt dd_X2_signals 11 rfl) rfl ?_
        refine sw_get (v := .ref 1020) O (xx_dt dd_X2_signals 12 rfl) cl_X2 fl_X2_9 (ly_1003 σ h) (by decide) rfl ?_
        refine sw_iload_n O (xx_dt dd_X2_signals 13 rfl) rfl ?_
        have hz22 := (hct i4 (by omega)).2
        refine sw_iaload (v := .int (nI (cnt i4))) O (xx_dt dd_X2_signals 14 rfl) (ly_1020 σ h) (pk_in i4 _ (by omega)) (by rw [nI_clamp (by omega)]; exact (congrArg Value.int (hct i4 (by omega)).1)) ?_
        refine sw_icmp_ge (tgt := 46) O (xx_dt dd_X2_signals 15 rfl) (by decide) (fun q2 => ?_) (fun q2 => ?_)
        · refine sw_iinc (y := nI (i4 + 1)) (ls2 := [.ref 1003, .ref 1001, .int (x_signals_15 σ R B cnt i4 s4), .int (nI (i4 + 1)), .int (nI (1 + (cnt i4 - 1)))]) O (xx_dt dd_X2_signals 25 rfl) rfl (nI_1 _) (by decide) rfl ?_
          refine sw_goto (tgt := 4) O (xx_dt dd_X2_signals 26 rfl) (by decide) ?_
          refine sw_dum (ls2 := [.ref 1003, .ref 1001, .int (x_signals_15 σ R B cnt i4 s4), .int (nI (i4 + 1)), xx_d]) ⟨.inr rfl, .inr rfl, .inr rfl, .inr rfl, .inl rfl, trivial⟩ ?_
          exact kk4
        · exact absurd ((nI_leI (a := (cnt i4)) (b := 1 + (cnt i4 - 1)) (by omega) (by omega)).mpr (by omega)) q2
  · show SW Y _ _ (setC σ h) 4 [.ref 1003, .ref 1001, .int (x_signals_4 σ R B cnt 0), .int (nI B), xx_d] []
    refine sw_iload_n O (xx_dt dd_X2_signals 4 rfl) rfl ?_
    refine sw_aload_n O (xx_dt dd_X2_signals 5 rfl) rfl ?_
    refine sw_get (v := .int (nI B)) O (xx_dt dd_X2_signals 6 rfl) cl_X6 fl_X2_78 (ly_1001 σ h) (by decide) (congrArg Value.int hB) ?_
    refine sw_icmp_ge (tgt := 52) O (xx_dt dd_X2_signals 7 rfl) (by decide) (fun q1 => ?_) (fun q1 => ?_)
    · refine sw_iload_n O (xx_dt dd_X2_signals 27 rfl) rfl ?_
      exact sw_iret O (xx_dt dd_X2_signals 28 rfl) rfl rfl (by rw [hQ]; exact ⟨by unfold f_signals; rfl, rfl⟩)
    · exact absurd (Int32.le_refl _) q1
