section
/-! ===== the market: what is picked ===== -/
theorem fr_moveTaken' {σ : XS9} {i R : Nat} {x y : Int32} {gr : Nat → Nat} {q : Nat} (h : q ≠ 1044 ∧ q ≠ 1121 + gr i) : g_moveTaken σ i x y R gr q = σ q := by
  have H : ∀ s0, (x_moveTaken_19 σ i x y R gr s0).1 q = s0.1 q := fun s0 => xit_keep (fun s : XS9 × Int32 => s.1 q) (fun i s => by simp (disch := omega) only [u2_ne]) _ _ _
  unfold g_moveTaken
  exact H _
def g_take (σ : XS9) (i n R : Nat) (gr : Nat → Nat) : XS9 := g_moveTaken (u2 σ 1043 i (nI n)) i (σ (1022 + i) n) 1 R gr
theorem ct_X2_take {l : Launch} {h : XH} (hl : l.stackTraces = false) {σ : XS9} {R : Nat} (hR : σ 1001 4 = nI R) (hR5 : R ≤ 5) {gr : Nat → Nat} (hgr : ∀ i, i < 6 → σ 1017 i = nI (gr i) ∧ gr i < 4) {i n : Nat} (hi : i < 6) (hn : n < 6) : XEx l m_X2_take 1 0 0 [.ref 1003, .ref 1001, .int (nI i), .int (nI n)] (setC σ h) (none) (setC (g_take σ i n R gr) h) := by
  refine XMet.of hl rfl rfl (Nat.le_of_ble_eq_true rfl) (fun Y O hh hQ => ?_)
  show SW Y 0 0 (setC σ h) 0 [.ref 1003, .ref 1001, .int (nI i), .int (nI n)] []
  refine sw_aload_n O (xx_dt dd_X2_take 0 rfl) rfl ?_
  refine sw_get (v := .ref 1043) O (xx_dt dd_X2_take 1 rfl) cl_X2 fl_X2_35 (ly_1003 σ h) (by decide) rfl ?_
  refine sw_iload_n O (xx_dt dd_X2_take 2 rfl) rfl ?_
  refine sw_iload_n O (xx_dt dd_X2_take 3 rfl) rfl ?_
  refine sw_iastore (h2 := setC (u2 σ 1043 i (nI n)) h) O (xx_dt dd_X2_take 4 rfl) (ly_1043 σ h) (pk_in i _ (by omega)) (by decide) (by rw [nI_clamp (by omega)]; exact pa_1043) ?_
  refine sw_aload_n O (xx_dt dd_X2_take 5 rfl) rfl ?_
  refine sw_aload_n O (xx_dt dd_X2_take 6 rfl) rfl ?_
  refine sw_iload_n O (xx_dt dd_X2_take 7 rfl) rfl ?_
  refine sw_aload_n O (xx_dt dd_X2_take 8 rfl) rfl ?_
  refine sw_get (v := .ref 1021) O (xx_dt dd_X2_take 9 rfl) cl_X2 fl_X2_17 (ly_1003 (u2 σ 1043 i (nI n)) h) (by decide) rfl ?_
  refine sw_iload_n O (xx_dt dd_X2_take 10 rfl) rfl ?_
  refine sw_aaload (v := .ref (1022 + i)) O (xx_dt dd_X2_take 11 rfl) (by omega) (by omega) (ly_1021 (u2 σ 1043 i (nI n)) h) (pk_in i _ (by omega)) (by rw [nI_clamp (by omega)]; try exact rfl) ?_
  refine sw_iload_n O (xx_dt dd_X2_take 12 rfl) rfl ?_
  refine sw_iaload (v := .int (σ (1022 + i) n)) O (xx_dt dd_X2_take 13 rfl) (lr_1021 (u2 σ 1043 i (nI n)) h (k := i) (by omega)) (pk_in n _ (by omega)) (by rw [nI_clamp (by omega)]; exact (congrArg Value.int (congrFun (u2_ne (by omega)) n))) ?_
  refine sw_iconst (x := 1) O (xx_dt dd_X2_take 14 rfl) (by decide) ?_
  refine sw_callVx (as := [.ref 1001, .int (nI i), .int (σ (1022 + i) n), .int 1]) (st := []) (st2 := []) O (ct_X2_moveTaken hl (σ := u2 σ 1043 i (nI n)) (R := R) hR (by omega) (gr := gr) hgr (i := i) (x := σ (1022 + i) n) (y := 1) (by omega)) ce_X2_moveTaken ml_X2_99 iv_X2_moveTaken cl_X2 rfl (ly_1003 (u2 σ 1043 i (nI n)) h) (xx_dt dd_X2_take 15 rfl) (by first | decide | omega) rfl rfl (Nat.le_of_ble_eq_true rfl) rfl ?_
  exact sw_ret O (xx_dt dd_X2_take 16 rfl) rfl (by rw [hQ]; exact ⟨rfl, by unfold g_take; rfl⟩)
theorem fr_take {σ : XS9} {i n R : Nat} {gr : Nat → Nat} {q : Nat} (h : q ≠ 1043 ∧ q ≠ 1044 ∧ q ≠ 1121 + gr i) : g_take σ i n R gr q = σ q := by
  unfold g_take
  simp (disch := omega) only [fr_moveTaken', u2_ne]
def g_giveBack (σ : XS9) (i n R : Nat) (gr : Nat → Nat) : XS9 := g_moveTaken (u2 σ 1043 i (-1)) i (σ (1022 + i) n) (-1) R gr
theorem ct_X2_giveBack {l : Launch} {h : XH} (hl : l.stackTraces = false) {σ : XS9} {R : Nat} (hR : σ 1001 4 = nI R) (hR5 : R ≤ 5) {gr : Nat → Nat} (hgr : ∀ i, i < 6 → σ 1017 i = nI (gr i) ∧ gr i < 4) {i n : Nat} (hi : i < 6) (hn : n < 6) : XEx l m_X2_giveBack 1 0 0 [.ref 1003, .ref 1001, .int (nI i), .int (nI n)] (setC σ h) (none) (setC (g_giveBack σ i n R gr) h) := by
  refine XMet.of hl rfl rfl (Nat.le_of_ble_eq_true rfl) (fun Y O hh hQ => ?_)
  show SW Y 0 0 (setC σ h) 0 [.ref 1003, .ref 1001, .int (nI i), .int (nI n)] []
  refine sw_aload_n O (xx_dt dd_X2_giveBack 0 rfl) rfl ?_
  refine sw_get (v := .ref 1043) O (xx_dt dd_X2_giveBack 1 rfl) cl_X2 fl_X2_35 (ly_1003 σ h) (by decide) rfl ?_
  refine sw_iload_n O (xx_dt dd_X2_giveBack 2 rfl) rfl ?_
  refine sw_iconst (x := (-1)) O (xx_dt dd_X2_giveBack 3 rfl) (by decide) ?_
  refine sw_iastore (h2 := setC (u2 σ 1043 i (-1)) h) O (xx_dt dd_X2_giveBack 4 rfl) (ly_1043 σ h) (pk_in i _ (by omega)) (by decide) (by rw [nI_clamp (by omega)]; exact pa_1043) ?_
  refine sw_aload_n O (xx_dt dd_X2_giveBack 5 rfl) rfl ?_
  refine sw_aload_n O (xx_dt dd_X2_giveBack 6 rfl) rfl ?_
  refine sw_iload_n O (xx_dt dd_X2_giveBack 7 rfl) rfl ?_
  refine sw_aload_n O (xx_dt dd_X2_giveBack 8 rfl) rfl ?_
  refine sw_get (v := .ref 1021) O (xx_dt dd_X2_giveBack 9 rfl) cl_X2 fl_X2_17 (ly_1003 (u2 σ 1043 i (-1)) h) (by decide) rfl ?_
  refine sw_iload_n O (xx_dt dd_X2_giveBack 10 rfl) rfl ?_
  refine sw_aaload (v := .ref (1022 + i)) O (xx_dt dd_X2_giveBack 11 rfl) (by omega) (by omega) (ly_1021 (u2 σ 1043 i (-1)) h) (pk_in i _ (by omega)) (by rw [nI_clamp (by omega)]; try exact rfl) ?_
  refine sw_iload_n O (xx_dt dd_X2_giveBack 12 rfl) rfl ?_
  refine sw_iaload (v := .int (σ (1022 + i) n)) O (xx_dt dd_X2_giveBack 13 rfl) (lr_1021 (u2 σ 1043 i (-1)) h (k := i) (by omega)) (pk_in n _ (by omega)) (by rw [nI_clamp (by omega)]; exact (congrArg Value.int (congrFun (u2_ne (by omega)) n))) ?_
  refine sw_iconst (x := (-1)) O (xx_dt dd_X2_giveBack 14 rfl) (by decide) ?_
  refine sw_callVx (as := [.ref 1001, .int (nI i), .int (σ (1022 + i) n), .int (-1)]) (st := []) (st2 := []) O (ct_X2_moveTaken hl (σ := u2 σ 1043 i (-1)) (R := R) hR (by omega) (gr := gr) hgr (i := i) (x := σ (1022 + i) n) (y := (-1)) (by omega)) ce_X2_moveTaken ml_X2_99 iv_X2_moveTaken cl_X2 rfl (ly_1003 (u2 σ 1043 i (-1)) h) (xx_dt dd_X2_giveBack 15 rfl) (by first | decide | omega) rfl rfl (Nat.le_of_ble_eq_true rfl) rfl ?_
  exact sw_ret O (xx_dt dd_X2_giveBack 16 rfl) rfl (by rw [hQ]; exact ⟨rfl, by unfold g_giveBack; rfl⟩)
theorem fr_giveBack {σ : XS9} {i n R : Nat} {gr : Nat → Nat} {q : Nat} (h : q ≠ 1043 ∧ q ≠ 1044 ∧ q ≠ 1121 + gr i) : g_giveBack σ i n R gr q = σ q := by
  unfold g_giveBack
  simp (disch := omega) only [fr_moveTaken', u2_ne]
def x_asksFor_2 (σ : XS9) (i r : Nat) (cnt : Nat → Nat) (s0 : Unit) : Unit ⊕ Int32 := xitR (fun i2 s2 => (if (f_many (σ (1022 + i) i2) r) ≤ 0 then .inl () else .inr 1)) (cnt i) 0 s0
def f_asksFor (σ : XS9) (i r : Nat) (cnt : Nat → Nat) : Int32 := (match (x_asksFor_2 σ i r cnt ()) with | .inl s2 => 0 | .inr r2 => r2)
theorem ct_X2_asksFor {l : Launch} {h : XH} (hl : l.stackTraces = false) {σ : XS9} {cnt : Nat → Nat} (hct : ∀ i, i < 6 → σ 1020 i = nI (cnt i) ∧ cnt i ≤ 6) {i r : Nat} (hi : i < 6) (hr : r < 5) : XEx l m_X2_asksFor 1 0 0 [.ref 1003, .int (nI i), .int (nI r)] (setC σ h) (some (.int (f_asksFor σ i r cnt))) (setC σ h) := by
  refine XMet.of hl rfl rfl (Nat.le_of_ble_eq_true rfl) (fun Y O hh hQ => ?_)
  show SW Y 0 0 (setC σ h) 0 [.ref 1003, .int (nI i), .int (nI r), xx_d] []
  refine sw_iconst (x := 0) O (xx_dt dd_X2_asksFor 0 rfl) (by decide) ?_
  refine sw_istore_n (ls2 := [.ref 1003, .int (nI i), .int (nI r), .int 0]) O (xx_dt dd_X2_asksFor 1 rfl) (by decide) rfl ?_
  refine sw_forR (R := Int32) (fun i2 s2 => (if (f_many (σ (1022 + i) i2) r) ≤ 0 then .inl () else .inr 1)) (fun _ _ => True) (FR := fun r9 => f_asksFor σ i r cnt = r9) (hp := fun _ => setC σ h) (hd := 2) (lc := fun i2 s2 => [.ref 1003, .int (nI i), .int (nI r), .int (nI i2)]) (N := (cnt i)) (fun i2 s2 hi2 hP2 => ⟨fun _ _ => trivial, fun kk2 kr2 => ?_⟩) (cnt i) 0 () (by omega) (trivial) (fun sN2 eN2 hP2 => ?_) (fun r2 eN2 => ?_)
  · refine sw_iload_n O (xx_dt dd_X2_asksFor 2 rfl) rfl ?_
    refine sw_aload_n O (xx_dt dd_X2_asksFor 3 rfl) rfl ?_
    refine sw_get (v := .ref 1020) O (xx_dt dd_X2_asksFor 4 rfl) cl_X2 fl_X2_9 (ly_1003 σ h) (by decide) rfl ?_
    refine sw_iload_n O (xx_dt dd_X2_asksFor 5 rfl) rfl ?_
    have hz8 := (hct i (by omega)).2
    refine sw_iaload (v := .int (nI (cnt i))) O (xx_dt dd_X2_asksFor 6 rfl) (ly_1020 σ h) (pk_in i _ (by omega)) (by rw [nI_clamp (by omega)]; exact (congrArg Value.int (hct i (by omega)).1)) ?_
    refine sw_icmp_ge (tgt := 35) O (xx_dt dd_X2_asksFor 7 rfl) (by decide) (fun q1 => ?_) (fun q1 => ?_)
    · exact absurd q1 (nI_ge (b := (cnt i)) hi2 (by omega))
    · refine sw_aload_n O (xx_dt dd_X2_asksFor 8 rfl) rfl ?_
      refine sw_get (v := .ref 1021) O (xx_dt dd_X2_asksFor 9 rfl) cl_X2 fl_X2_17 (ly_1003 σ h) (by decide) rfl ?_
      refine sw_iload_n O (xx_dt dd_X2_asksFor 10 rfl) rfl ?_
      refine sw_aaload (v := .ref (1022 + i)) O (xx_dt dd_X2_asksFor 11 rfl) (by omega) (by omega) (ly_1021 σ h) (pk_in i _ (by omega)) (by rw [nI_clamp (by omega)]; try exact rfl) ?_
      refine sw_iload_n O (xx_dt dd_X2_asksFor 12 rfl) rfl ?_
      refine sw_iaload (v := .int (σ (1022 + i) i2)) O (xx_dt dd_X2_asksFor 13 rfl) (lr_1021 σ h (k := i) (by omega)) (pk_in i2 _ (by omega)) (by rw [nI_clamp (by omega)]; try exact rfl) ?_
      refine sw_iload_n O (xx_dt dd_X2_asksFor 14 rfl) rfl ?_
      refine sw_callSx (as := [.int (σ (1022 + i) i2), .int (nI r)]) (st := []) (st2 := [.int (f_many (σ (1022 + i) i2) r)]) O (ct_X0_many hl (c := σ (1022 + i) i2) (r := r) (by omega)) ce_X0_many ml_X2_54 st_X0_many (xx_dt dd_X2_asksFor 15 rfl) (by first | decide | omega) rfl rfl (Nat.le_of_ble_eq_true rfl) rfl ?_
      refine sw_if_le (tgt := 29) O (xx_dt dd_X2_asksFor 16 rfl) (by decide) (fun q2 => ?_) (fun q2 => ?_)
      · refine sw_iinc (y := nI (i2 + 1)) (ls2 := [.ref 1003, .int (nI i), .int (nI r), .int (nI (i2 + 1))]) O (xx_dt dd_X2_asksFor 19 rfl) rfl (nI_1 _) (by decide) rfl ?_
        refine sw_goto (tgt := 2) O (xx_dt dd_X2_asksFor 20 rfl) (by decide) ?_
        exact kk2 () (by simp only [if_pos q2])
      · refine sw_iconst (x := 1) O (xx_dt dd_X2_asksFor 17 rfl) (by decide) ?_
        exact sw_iret O (xx_dt dd_X2_asksFor 18 rfl) rfl rfl (by rw [hQ, kr2 1 (by simp only [if_neg q2])]; exact ⟨rfl, rfl⟩)
  · show SW Y _ _ (setC σ h) 2 [.ref 1003, .int (nI i), .int (nI r), .int (nI ((cnt i)))] []
    refine sw_iload_n O (xx_dt dd_X2_asksFor 2 rfl) rfl ?_
    refine sw_aload_n O (xx_dt dd_X2_asksFor 3 rfl) rfl ?_
    refine sw_get (v := .ref 1020) O (xx_dt dd_X2_asksFor 4 rfl) cl_X2 fl_X2_9 (ly_1003 σ h) (by decide) rfl ?_
    refine sw_iload_n O (xx_dt dd_X2_asksFor 5 rfl) rfl ?_
    have hz8 := (hct i (by omega)).2
    refine sw_iaload (v := .int (nI (cnt i))) O (xx_dt dd_X2_asksFor 6 rfl) (ly_1020 σ h) (pk_in i _ (by omega)) (by rw [nI_clamp (by omega)]; exact (congrArg Value.int (hct i (by omega)).1)) ?_
    refine sw_icmp_ge (tgt := 35) O (xx_dt dd_X2_asksFor 7 rfl) (by decide) (fun q1 => ?_) (fun q1 => ?_)
    · refine sw_iconst (x := 0) O (xx_dt dd_X2_asksFor 21 rfl) (by decide) ?_
      exact sw_iret O (xx_dt dd_X2_asksFor 22 rfl) rfl rfl (by rw [hQ]; exact ⟨by unfold f_asksFor; simp only [x_asksFor_2, eN2], rfl⟩)
    · exact absurd (Int32.le_refl _) q1
  · unfold f_asksFor; simp only [x_asksFor_2, eN2]
theorem rem10 {a : Int32} {R : Nat} (hR : R ≤ 5) (h0 : 0 ≤ a) (h : ¬ nI R ≤ a - a / 10 * 10) : n_lt (a - a / 10 * 10) R := by
  refine (n_lt_iff (by omega)).mpr ⟨?_, Int32.not_le.mp h⟩
  obtain ⟨h1, h2⟩ := cn_of h0
  have h3 : cn a < 2147483648 := by have := Int32.toInt_lt a; omega
  rw [h1]
  have e : (10 : Int32) = nI 10 := rfl
  rw [e, nI_rem h3 (by decide) (by decide)]
  have h4 : cn a % 10 < 10 := Nat.mod_lt _ (by decide)
  intro h5
  have h6 := i_lt.mp h5
  rw [nI_toInt (by omega)] at h6
  have : (0 : Int32).toInt = 0 := rfl
  omega
def x_isSignal_43 (σ : XS9) (i n R B : Nat) (cnt : Nat → Nat) (s0 : Unit) : Unit ⊕ Int32 := xitR (fun i43 s43 => (if (f_areAllies σ i i43) = 0 then .inl () else (if (f_asksFor σ i43 (cn ((σ (1031 + i) n) - (σ (1031 + i) n) / 10 * 10)) cnt) = 0 then .inl () else .inr 1))) B 0 s0
def f_isSignal (σ : XS9) (i n R B : Nat) (cnt : Nat → Nat) : Int32 := (if (nI R) ≤ ((σ (1031 + i) n) - (σ (1031 + i) n) / 10 * 10) then 0 else (if (f_many (σ (1022 + i) n) (cn ((σ (1031 + i) n) - (σ (1031 + i) n) / 10 * 10))) = 0 then (match (x_isSignal_43 σ i n R B cnt ()) with | .inl s43 => 0 | .inr r43 => r43) else 0))
theorem ct_X2_isSignal {l : Launch} {h : XH} (hl : l.stackTraces = false) {σ : XS9} {R : Nat} (hR : σ 1001 4 = nI R) (hR5 : R ≤ 5) {B : Nat} (hB : σ 1001 9 = nI B) (hB6 : B ≤ 6) {cnt : Nat → Nat} (hct : ∀ i, i < 6 → σ 1020 i = nI (cnt i) ∧ cnt i ≤ 6) (ham : ∀ i k, i < 6 → k < 6 → 0 ≤ σ (1031 + i) k) {i n : Nat} (hi : i < 6) (hn : n < 6) : XEx l m_X2_isSignal 2 0 0 [.ref 1003, .ref 1001, .int (nI i), .int (nI n)] (setC σ h) (some (.int (f_isSignal σ i n R B cnt))) (setC σ h) := by
  refine XMet.of hl rfl rfl (Nat.le_of_ble_eq_true rfl) (fun Y O hh hQ => ?_)
  show SW Y 0 0 (setC σ h) 0 [.ref 1003, .ref 1001, .int (nI i), .int (nI n), xx_d, xx_d] []
  refine sw_aload_n O (xx_dt dd_X2_isSignal 0 rfl) rfl ?_
  refine sw_get (v := .ref 1030) O (xx_dt dd_X2_isSignal 1 rfl) cl_X2 fl_X2_20 (ly_1003 σ h) (by decide) rfl ?_
  refine sw_iload_n O (xx_dt dd_X2_isSignal 2 rfl) rfl ?_
  refine sw_aaload (v := .ref (1031 + i)) O (xx_dt dd_X2_isSignal 3 rfl) (by omega) (by omega) (ly_1030 σ h) (pk_in i _ (by omega)) (by rw [nI_clamp (by omega)]; try exact rfl) ?_
  refine sw_iload_n O (xx_dt dd_X2_isSignal 4 rfl) rfl ?_
  refine sw_iaload (v := .int (σ (1031 + i) n)) O (xx_dt dd_X2_isSignal 5 rfl) (lr_1030 σ h (k := i) (by omega)) (pk_in n _ (by omega)) (by rw [nI_clamp (by omega)]; try exact rfl) ?_
  refine sw_bipush (x := 10) O (xx_dt dd_X2_isSignal 6 rfl) (by decide) ?_
  refine sw_irem O (xx_dt dd_X2_isSignal 7 rfl) (by first | decide | assumption) ?_
  refine sw_istore (ls2 := [.ref 1003, .ref 1001, .int (nI i), .int (nI n), .int ((σ (1031 + i) n) - (σ (1031 + i) n) / 10 * 10), xx_d]) O (xx_dt dd_X2_isSignal 8 rfl) (by decide) rfl ?_
  refine sw_iload O (xx_dt dd_X2_isSignal 9 rfl) rfl ?_
  refine sw_aload_n O (xx_dt dd_X2_isSignal 10 rfl) rfl ?_
  refine sw_get (v := .int (nI R)) O (xx_dt dd_X2_isSignal 11 rfl) cl_X6 fl_X2_90 (ly_1001 σ h) (by decide) (congrArg Value.int hR) ?_
  refine sw_icmp_ge (tgt := 38) O (xx_dt dd_X2_isSignal 12 rfl) (by decide) (fun q1 => ?_) (fun q1 => ?_)
  · refine sw_iconst (x := 0) O (xx_dt dd_X2_isSignal 22 rfl) (by decide) ?_
    exact sw_iret O (xx_dt dd_X2_isSignal 23 rfl) rfl rfl (by rw [hQ]; exact ⟨by unfold f_isSignal; simp only [if_pos q1], rfl⟩)
  · have hc19 := rem10 hR5 (ham i n hi hn) q1
    refine sw_lsE (ls2 := [.ref 1003, .ref 1001, .int (nI i), .int (nI n), .int (nI (cn ((σ (1031 + i) n) - (σ (1031 + i) n) / 10 * 10))), xx_d]) (by rw [← hc19.1]) ?_
    have hd19 := hc19.2
    refine sw_aload_n O (xx_dt dd_X2_isSignal 13 rfl) rfl ?_
    refine sw_get (v := .ref 1021) O (xx_dt dd_X2_isSignal 14 rfl) cl_X2 fl_X2_17 (ly_1003 σ h) (by decide) rfl ?_
    refine sw_iload_n O (xx_dt dd_X2_isSignal 15 rfl) rfl ?_
    refine sw_aaload (v := .ref (1022 + i)) O (xx_dt dd_X2_isSignal 16 rfl) (by omega) (by omega) (ly_1021 σ h) (pk_in i _ (by omega)) (by rw [nI_clamp (by omega)]; try exact rfl) ?_
    refine sw_iload_n O (xx_dt dd_X2_isSignal 17 rfl) rfl ?_
    refine sw_iaload (v := .int (σ (1022 + i) n)) O (xx_dt dd_X2_isSignal 18 rfl) (lr_1021 σ h (k := i) (by omega)) (pk_in n _ (by omega)) (by rw [nI_clamp (by omega)]; try exact rfl) ?_
    refine sw_iload O (xx_dt dd_X2_isSignal 19 rfl) rfl ?_
    refine sw_callSx (as := [.int (σ (1022 + i) n), .int (nI (cn ((σ (1031 + i) n) - (σ (1031 + i) n) / 10 * 10)))]) (st := []) (st2 := [.int (f_many (σ (1022 + i) n) (cn ((σ (1031 + i) n) - (σ (1031 + i) n) / 10 * 10)))]) O (ct_X0_many hl (c := σ (1022 + i) n) (r := cn ((σ (1031 + i) n) - (σ (1031 + i) n) / 10 * 10)) (by omega)) ce_X0_many ml_X2_54 st_X0_many (xx_dt dd_X2_isSignal 20 rfl) (by first | decide | omega) rfl rfl (Nat.le_of_ble_eq_true rfl) rfl ?_
    refine sw_if_eq (tgt := 40) O (xx_dt dd_X2_isSignal 21 rfl) (by decide) (fun q2 => ?_) (fun q2 => ?_)
    · refine sw_iconst (x := 0) O (xx_dt dd_X2_isSignal 24 rfl) (by decide) ?_
      refine sw_istore (ls2 := [.ref 1003, .ref 1001, .int (nI i), .int (nI n), .int (nI (cn ((σ (1031 + i) n) - (σ (1031 + i) n) / 10 * 10))), .int 0]) O (xx_dt dd_X2_isSignal 25 rfl) (by decide) rfl ?_
      refine sw_forR (R := Int32) (fun i43 s43 => (if (f_areAllies σ i i43) = 0 then .inl () else (if (f_asksFor σ i43 (cn ((σ (1031 + i) n) - (σ (1031 + i) n) / 10 * 10)) cnt) = 0 then .inl () else .inr 1))) (fun _ _ => True) (FR := fun r9 => f_isSignal σ i n R B cnt = r9) (hp := fun _ => setC σ h) (hd := 43) (lc := fun i43 s43 => [.ref 1003, .ref 1001, .int (nI i), .int (nI n), .int (nI (cn ((σ (1031 + i) n) - (σ (1031 + i) n) / 10 * 10))), .int (nI i43)]) (N := B) (fun i43 s43 hi43 hP43 => ⟨fun _ _ => trivial, fun kk43 kr43 => ?_⟩) B 0 () (by omega) (trivial) (fun sN43 eN43 hP43 => ?_) (fun r43 eN43 => ?_)
      · refine sw_iload O (xx_dt dd_X2_isSignal 26 rfl) rfl ?_
        refine sw_aload_n O (xx_dt dd_X2_isSignal 27 rfl) rfl ?_
        refine sw_get (v := .int (nI B)) O (xx_dt dd_X2_isSignal 28 rfl) cl_X6 fl_X2_78 (ly_1001 σ h) (by decide) (congrArg Value.int hB) ?_
        refine sw_icmp_ge (tgt := 81) O (xx_dt dd_X2_isSignal 29 rfl) (by decide) (fun q3 => ?_) (fun q3 => ?_)
        · exact absurd q3 (nI_ge (b := B) hi43 (by omega))
        · refine sw_aload_n O (xx_dt dd_X2_isSignal 30 rfl) rfl ?_
          refine sw_iload_n O (xx_dt dd_X2_isSignal 31 rfl) rfl ?_
          refine sw_iload O (xx_dt dd_X2_isSignal 32 rfl) rfl ?_
          refine sw_callVx (as := [.int (nI i), .int (nI i43)]) (st := []) (st2 := [.int (f_areAllies σ i i43)]) O (ct_X6_areAllies hl (σ := σ) (i := i) (j := i43) (by omega) (by omega)) ce_X6_areAllies ml_X2_125 iv_X6_areAllies cl_X6 rfl (ly_1001 σ h) (xx_dt dd_X2_isSignal 33 rfl) (by first | decide | omega) rfl rfl (Nat.le_of_ble_eq_true rfl) rfl ?_
          refine sw_if_eq (tgt := 75) O (xx_dt dd_X2_isSignal 34 rfl) (by decide) (fun q4 => ?_) (fun q4 => ?_)
          · refine sw_iinc (y := nI (i43 + 1)) (ls2 := [.ref 1003, .ref 1001, .int (nI i), .int (nI n), .int (nI (cn ((σ (1031 + i) n) - (σ (1031 + i) n) / 10 * 10))), .int (nI (i43 + 1))]) O (xx_dt dd_X2_isSignal 42 rfl) rfl (nI_1 _) (by decide) rfl ?_
            refine sw_goto (tgt := 43) O (xx_dt dd_X2_isSignal 43 rfl) (by decide) ?_
            exact kk43 () (by simp only [if_pos q4])
          · refine sw_aload_n O (xx_dt dd_X2_isSignal 35 rfl) rfl ?_
            refine sw_iload O (xx_dt dd_X2_isSignal 36 rfl) rfl ?_
            refine sw_iload O (xx_dt dd_X2_isSignal 37 rfl) rfl ?_
            refine sw_callVx (as := [.int (nI i43), .int (nI (cn ((σ (1031 + i) n) - (σ (1031 + i) n) / 10 * 10)))]) (st := []) (st2 := [.int (f_asksFor σ i43 (cn ((σ (1031 + i) n) - (σ (1031 + i) n) / 10 * 10)) cnt)]) O (ct_X2_asksFor hl (σ := σ) (cnt := cnt) hct (i := i43) (r := cn ((σ (1031 + i) n) - (σ (1031 + i) n) / 10 * 10)) (by omega) (by omega)) ce_X2_asksFor ml_X2_129 iv_X2_asksFor cl_X2 rfl (ly_1003 σ h) (xx_dt dd_X2_isSignal 38 rfl) (by first | decide | omega) rfl rfl (Nat.le_of_ble_eq_true rfl) rfl ?_
            refine sw_if_eq (tgt := 75) O (xx_dt dd_X2_isSignal 39 rfl) (by decide) (fun q5 => ?_) (fun q5 => ?_)
            · refine sw_iinc (y := nI (i43 + 1)) (ls2 := [.ref 1003, .ref 1001, .int (nI i), .int (nI n), .int (nI (cn ((σ (1031 + i) n) - (σ (1031 + i) n) / 10 * 10))), .int (nI (i43 + 1))]) O (xx_dt dd_X2_isSignal 42 rfl) rfl (nI_1 _) (by decide) rfl ?_
              refine sw_goto (tgt := 43) O (xx_dt dd_X2_isSignal 43 rfl) (by decide) ?_
              exact kk43 () (by simp only [if_neg q4, if_pos q5])
            · refine sw_iconst (x := 1) O (xx_dt dd_X2_isSignal 40 rfl) (by decide) ?_
              exact sw_iret O (xx_dt dd_X2_isSignal 41 rfl) rfl rfl (by rw [hQ, kr43 1 (by simp only [if_neg q4, if_neg q5])]; exact ⟨rfl, rfl⟩)
      · show SW Y _ _ (setC σ h) 43 [.ref 1003, .ref 1001, .int (nI i), .int (nI n), .int (nI (cn ((σ (1031 + i) n) - (σ (1031 + i) n) / 10 * 10))), .int (nI B)] []
        refine sw_iload O (xx_dt dd_X2_isSignal 26 rfl) rfl ?_
        refine sw_aload_n O (xx_dt dd_X2_isSignal 27 rfl) rfl ?_
        refine sw_get (v := .int (nI B)) O (xx_dt dd_X2_isSignal 28 rfl) cl_X6 fl_X2_78 (ly_1001 σ h) (by decide) (congrArg Value.int hB) ?_
        refine sw_icmp_ge (tgt := 81) O (xx_dt dd_X2_isSignal 29 rfl) (by decide) (fun q3 => ?_) (fun q3 => ?_)
        · refine sw_iconst (x := 0) O (xx_dt dd_X2_isSignal 44 rfl) (by decide) ?_
          exact sw_iret O (xx_dt dd_X2_isSignal 45 rfl) rfl rfl (by rw [hQ]; exact ⟨by unfold f_isSignal; simp only [if_neg q1, if_pos q2, x_isSignal_43, eN43], rfl⟩)
        · exact absurd (Int32.le_refl _) q3
      · unfold f_isSignal; simp only [if_neg q1, if_pos q2, x_isSignal_43, eN43]
    · refine sw_iconst (x := 0) O (xx_dt dd_X2_isSignal 22 rfl) (by decide) ?_
      exact sw_iret O (xx_dt dd_X2_isSignal 23 rfl) rfl rfl (by rw [hQ]; exact ⟨by unfold f_isSignal; simp only [if_neg q1, if_neg q2], rfl⟩)
def x_signals_15 (σ : XS9) (R B : Nat) (cnt : Nat → Nat) (i4 : Nat) (s0 : Int32) : Int32 := xit (fun i15 s15 => (if (f_isSignal σ i4 (1 + i15) R B cnt) = 0 then s15 else s15 + 1)) (cnt i4 - 1) 0 s0
def x_signals_4 (σ : XS9) (R B : Nat) (cnt : Nat → Nat) (s0 : Int32) : Int32 := xit (fun i4 s4 => (x_signals_15 σ R B cnt i4 s4)) B 0 s0
def f_signals (σ : XS9) (R B : Nat) (cnt : Nat → Nat) : Int32 := (x_signals_4 σ R B cnt 0)
theorem ct_X2_signals {l : Launch} {h : XH} (hl : l.stackTraces = false) {σ : XS9} {R : Nat} (hR : σ 1001 4 = nI R) (hR5 : R ≤ 5) {B : Nat} (hB : σ 1001 9 = nI B) (hB6 : B ≤ 6) {cnt : Nat → Nat} (hct : ∀ i, i < 6 → σ 1020 i = nI (cnt i) ∧ cnt i ≤ 6) (ham : ∀ i k, i < 6 → k < 6 → 0 ≤ σ (1031 + i) k)  : XEx l m_X2_signals 3 0 0 [.ref 1003, .ref 1001] (setC σ h) (some (.int (f_signals σ R B cnt))) (setC σ h) := by
  refine XMet.of hl rfl rfl (Nat.le_of_ble_eq_true rfl) (fun Y O hh hQ => ?_)
  show SW Y 0 0 (setC σ h) 0 [.ref 1003, .ref 1001, xx_d, xx_d, xx_d] []
  refine sw_iconst (x := 0) O (xx_dt dd_X2_signals 0 rfl) (by decide) ?_
  refine sw_istore_n (ls2 := [.ref 1003, .ref 1001, .int 0, xx_d, xx_d]) O (xx_dt dd_X2_signals 1 rfl) (by decide) rfl ?_
  refine sw_iconst (x := 0) O (xx_dt dd_X2_signals 2 rfl) (by decide) ?_
  refine sw_istore_n (ls2 := [.ref 1003, .ref 1001, .int 0, .int 0, xx_d]) O (xx_dt dd_X2_signals 3 rfl) (by decide) rfl ?_
  refine sw_for (fun i4 s4 => (x_signals_15 σ R B cnt i4 s4)) (fun _ _ => True) (hp := fun _ => setC σ h) (hd := 4) (lc := fun i4 s4 => [.ref 1003, .ref 1001, .int s4, .int (nI i4), xx_d]) (N := B) (fun i4 s4 hi4 hP4 => ⟨trivial, fun kk4 => ?_⟩) B 0 0 (by omega) (trivial) (fun hP4 => ?_)
  · refine sw_iload_n O (xx_dt dd_X2_signals 4 rfl) rfl ?_
    refine sw_aload_n O (xx_dt dd_X2_signals 5 rfl) rfl ?_
    refine sw_get (v := .int (nI B)) O (xx_dt dd_X2_signals 6 rfl) cl_X6 fl_X2_78 (ly_1001 σ h) (by decide) (congrArg Value.int hB) ?_
    refine sw_icmp_ge (tgt := 52) O (xx_dt dd_X2_signals 7 rfl) (by decide) (fun q1 => ?_) (fun q1 => ?_)
    · exact absurd q1 (nI_ge (b := B) hi4 (by omega))
    · refine sw_iconst (x := 1) O (xx_dt dd_X2_signals 8 rfl) (by decide) ?_
      refine sw_istore (ls2 := [.ref 1003, .ref 1001, .int s4, .int (nI i4), .int 1]) O (xx_dt dd_X2_signals 9 rfl) (by decide) rfl ?_
      refine sw_for (fun i15 s15 => (if (f_isSignal σ i4 (1 + i15) R B cnt) = 0 then s15 else s15 + 1)) (fun _ _ => True) (hp := fun _ => setC σ h) (hd := 15) (lc := fun i15 s15 => [.ref 1003, .ref 1001, .int s15, .int (nI i4), .int (nI (1 + i15))]) (N := (cnt i4 - 1)) (fun i15 s15 hi15 hP15 => ⟨trivial, fun kk15 => ?_⟩) (cnt i4 - 1) 0 s4 (by omega) (trivial) (fun hP15 => ?_)
      · refine sw_iload O (xx_dt dd_X2_signals 10 rfl) rfl ?_
        refine sw_aload_n O (xx_dt dd_X2_signals 11 rfl) rfl ?_
        refine sw_get (v := .ref 1020) O (xx_dt dd_X2_signals 12 rfl) cl_X2 fl_X2_9 (ly_1003 σ h) (by decide) rfl ?_
        refine sw_iload_n O (xx_dt dd_X2_signals 13 rfl) rfl ?_
        have hz22 := (hct i4 (by omega)).2
        refine sw_iaload (v := .int (nI (cnt i4))) O (xx_dt dd_X2_signals 14 rfl) (ly_1020 σ h) (pk_in i4 _ (by omega)) (by rw [nI_clamp (by omega)]; exact (congrArg Value.int (hct i4 (by omega)).1)) ?_
        refine sw_icmp_ge (tgt := 46) O (xx_dt dd_X2_signals 15 rfl) (by decide) (fun q2 => ?_) (fun q2 => ?_)
        · exact absurd q2 (nI_ge (a := 1 + i15) (b := (cnt i4)) (by omega) (by omega))
        · refine sw_aload_n O (xx_dt dd_X2_signals 16 rfl) rfl ?_
          refine sw_aload_n O (xx_dt dd_X2_signals 17 rfl) rfl ?_
          refine sw_iload_n O (xx_dt dd_X2_signals 18 rfl) rfl ?_
          refine sw_iload O (xx_dt dd_X2_signals 19 rfl) rfl ?_
          refine sw_callVx (as := [.ref 1001, .int (nI i4), .int (nI (1 + i15))]) (st := []) (st2 := [.int (f_isSignal σ i4 (1 + i15) R B cnt)]) O (ct_X2_isSignal hl (σ := σ) (R := R) hR (by omega) (B := B) hB (by omega) (cnt := cnt) hct ham (i := i4) (n := 1 + i15) (by omega) (by omega)) ce_X2_isSignal ml_X2_122 iv_X2_isSignal cl_X2 rfl (ly_1003 σ h) (xx_dt dd_X2_signals 20 rfl) (by first | decide | omega) rfl rfl (Nat.le_of_ble_eq_true rfl) rfl ?_
          refine sw_if_eq (tgt := 40) O (xx_dt dd_X2_signals 21 rfl) (by decide) (fun q3 => ?_) (fun q3 => ?_)
          · refine sw_iinc (y := nI (1 + i15 + 1)) (ls2 := [.ref 1003, .ref 1001, .int s15, .int (nI i4), .int (nI (1 + i15 + 1))]) O (xx_dt dd_X2_signals 23 rfl) rfl (nI_1 _) (by decide) rfl ?_
            refine sw_goto (tgt := 15) O (xx_dt dd_X2_signals 24 rfl) (by decide) ?_
            simp only [if_pos q3] at kk15
            exact kk15
          · refine sw_iinc (y := s15 + 1) (ls2 := [.ref 1003, .ref 1001, .int (s15 + 1), .int (nI i4), .int (nI (1 + i15))]) O (xx_dt dd_X2_signals 22 rfl) rfl rfl (by decide) rfl ?_
            refine sw_iinc (y := nI (1 + i15 + 1)) (ls2 := [.ref 1003, .ref 1001, .int (s15 + 1), .int (nI i4), .int (nI (1 + i15 + 1))]) O (xx_dt dd_X2_signals 23 rfl) rfl (nI_1 _) (by decide) rfl ?_
            refine sw_goto (tgt := 15) O (xx_dt dd_X2_signals 24 rfl) (by decide) ?_
            simp only [if_neg q3] at kk15
            exact kk15
      · show SW Y _ _ (setC σ h) 15 [.ref 1003, .ref 1001, .int (x_signals_15 σ R B cnt i4 s4), .int (nI i4), .int (nI (1 + (cnt i4 - 1)))] []
        refine sw_iload O (xx_dt dd_X2_signals 10 rfl) rfl ?_
        refine sw_aload_n O (xx_dt dd_X2_signals 11 rfl) rfl ?_
        refine sw_get (v := .ref 1020) O (xx_dt dd_X2_signals 12 rfl) cl_X2 fl_X2_9 (ly_1003 σ h) (by decide) rfl ?_
        refine sw_iload_n O (xx_dt dd_X2_signals 13 rfl) rfl ?_
        have hz22 := (hct i4 (by omega)).2
        refine sw_iaload (v := .int (nI (cnt i4))) O (xx_dt dd_X2_signals 14 rfl) (ly_1020 σ h) (pk_in i4 _ (by omega)) (by rw [nI_clamp (by omega)]; exact (congrArg Value.int (hct i4 (by omega)).1)) ?_
        refine sw_icmp_ge (tgt := 46) O (xx_dt dd_X2_signals 15 rfl) (by decide) (fun q2 => ?_) (fun q2 => ?_)
        · refine sw_iinc (y := nI (i4 + 1)) (ls2 := [.ref 1003, .ref 1001, .int (x_signals_15 σ R B cnt i4 s4), .int (nI (i4 + 1)), .int (nI (1 + (cnt i4 - 1)))]) O (xx_dt dd_X2_signals 25 rfl) rfl (nI_1 _) (by decide) rfl ?_
          refine sw_goto (tgt := 4) O (xx_dt dd_X2_signals 26 rfl) (by decide) ?_
          refine sw_dum (ls2 := [.ref 1003, .ref 1001, .int (x_signals_15 σ R B cnt i4 s4), .int (nI (i4 + 1)), xx_d]) ⟨.inr rfl, .inr rfl, .inr rfl, .inr rfl, .inl rfl, trivial⟩ ?_
          exact kk4
        · exact absurd ((nI_leI (a := (cnt i4)) (b := 1 + (cnt i4 - 1)) (by omega) (by omega)).mpr (by omega)) q2
  · show SW Y _ _ (setC σ h) 4 [.ref 1003, .ref 1001, .int (x_signals_4 σ R B cnt 0), .int (nI B), xx_d] []
    refine sw_iload_n O (xx_dt dd_X2_signals 4 rfl) rfl ?_
    refine sw_aload_n O (xx_dt dd_X2_signals 5 rfl) rfl ?_
    refine sw_get (v := .int (nI B)) O (xx_dt dd_X2_signals 6 rfl) cl_X6 fl_X2_78 (ly_1001 σ h) (by decide) (congrArg Value.int hB) ?_
    refine sw_icmp_ge (tgt := 52) O (xx_dt dd_X2_signals 7 rfl) (by decide) (fun q1 => ?_) (fun q1 => ?_)
    · refine sw_iload_n O (xx_dt dd_X2_signals 27 rfl) rfl ?_
      exact sw_iret O (xx_dt dd_X2_signals 28 rfl) rfl rfl (by rw [hQ]; exact ⟨by unfold f_signals; rfl, rfl⟩)
    · exact absurd (Int32.le_refl _) q1
end
section
/-! ===== the market: all choices ===== -/
theorem fr_keepIfBetter {σ : XS9} {S : Nat} {x : Int32} {q : Nat} (h : q ≠ 1042 ∧ q ≠ 1051 + S) : g_keepIfBetter σ S x q = σ q := by
  unfold g_keepIfBetter
  (repeat' split) <;> first | rfl | simp (disch := omega) only [u2_ne, uR_ne]
/-! a choice is under way -/
def x_pickStep_45 (σ : XS9) (g_rec : XS9 → Nat → Int32 → XS9) (i fx S : Nat) (x : Int32) (R B : Nat) (gr cnt : Nat → Nat) (s0 : XS9) : XS9 := xit (fun i45 s45 => (if (f_fits s45 i (s45 (1022 + i) i45) R gr) = 0 then s45 else g_giveBack (g_rec (g_take s45 i i45 R gr) (S ||| 2 ^ i) (x + (s45 (1031 + i) i45))) i i45 R gr)) (cnt i) 0 s0
def g_pickStep (σ : XS9) (g_rec : XS9 → Nat → Int32 → XS9) (i fx S : Nat) (x : Int32) (R B : Nat) (gr cnt : Nat → Nat) : XS9 := (if (nI B) ≤ (nI i) then g_keepIfBetter σ S x else (if (nI i) = (nI fx) then g_rec σ S x else (x_pickStep_45 σ g_rec i fx S x R B gr cnt (g_rec σ S x))))
theorem ct_X2_pickStep {l : Launch} {h : XH} (hl : l.stackTraces = false) {σ : XS9} {g_rec : XS9 → Nat → Int32 → XS9} (fr_rec : ∀ {σ : XS9} {S : Nat} {x : Int32} {q : Nat}, (S < 64 ∧ q ≠ 1042 ∧ q ≠ 1043 ∧ q ≠ 1044 ∧ (q < 1051 ∨ 1114 < q) ∧ (q < 1121 ∨ 1124 < q)) → g_rec σ S x q = σ q) {i fx S : Nat} {x : Int32} (hi : i < 6) (hf : fx < 6) (hS : S < 64) (hor : S ||| 2 ^ i < 64) {B : Nat} (hB : σ 1001 9 = nI B) (hB6 : B ≤ 6) {R : Nat} (hR : σ 1001 4 = nI R) (hR5 : R ≤ 5) {gr : Nat → Nat} (hgr : ∀ i, i < 6 → σ 1017 i = nI (gr i) ∧ gr i < 4) {cnt : Nat → Nat} (hct : ∀ i, i < 6 → σ 1020 i = nI (cnt i) ∧ cnt i ≤ 6) {d0 : Nat} (hd0 : 2 ≤ d0) (ih : ∀ (σ : XS9) (S : Nat) (y x : Int32), y = nI S → S < 64 → σ 1001 9 = nI B → σ 1001 4 = nI R → (∀ i, i < 6 → σ 1017 i = nI (gr i) ∧ gr i < 4) → (∀ i, i < 6 → σ 1020 i = nI (cnt i) ∧ cnt i ≤ 6) → XEx l m_X2_pickFrom d0 0 0 [.ref 1003, .ref 1001, .int (nI (i + 1)), .int (nI fx), .int y, .int x] (setC σ h) none (setC (g_rec σ S x) h)) : XEx l m_X2_pickFrom (d0 + 1) 0 0 [.ref 1003, .ref 1001, .int (nI i), .int (nI fx), .int (nI S), .int x] (setC σ h) (none) (setC (g_pickStep σ g_rec i fx S x R B gr cnt) h) := by
  refine XMet.of hl rfl rfl (Nat.le_of_ble_eq_true rfl) (fun Y O hh hQ => ?_)
  show SW Y 0 0 (setC σ h) 0 [.ref 1003, .ref 1001, .int (nI i), .int (nI fx), .int (nI S), .int x, xx_d] []
  refine sw_iload_n O (xx_dt dd_X2_pickFrom 0 rfl) rfl ?_
  refine sw_aload_n O (xx_dt dd_X2_pickFrom 1 rfl) rfl ?_
  refine sw_get (v := .int (nI B)) O (xx_dt dd_X2_pickFrom 2 rfl) cl_X6 fl_X2_78 (ly_1001 σ h) (by decide) (congrArg Value.int hB) ?_
  refine sw_icmp_ge (tgt := 14) O (xx_dt dd_X2_pickFrom 3 rfl) (by decide) (fun q1 => ?_) (fun q1 => ?_)
  · refine sw_aload_n O (xx_dt dd_X2_pickFrom 7 rfl) rfl ?_
    refine sw_iload O (xx_dt dd_X2_pickFrom 8 rfl) rfl ?_
    refine sw_iload O (xx_dt dd_X2_pickFrom 9 rfl) rfl ?_
    refine sw_callVx (as := [.int (nI S), .int x]) (st := []) (st2 := []) O (ct_X2_keepIfBetter hl (σ := σ) (S := S) (x := x) (by omega)) ce_X2_keepIfBetter ml_X2_83 iv_X2_keepIfBetter cl_X2 rfl (ly_1003 σ h) (xx_dt dd_X2_pickFrom 10 rfl) (by first | decide | omega) rfl rfl (Nat.le_of_ble_eq_true rfl) rfl ?_
    exact sw_ret O (xx_dt dd_X2_pickFrom 11 rfl) rfl (by rw [hQ]; exact ⟨rfl, by unfold g_pickStep; simp only [if_pos q1]⟩)
  · refine sw_iload_n O (xx_dt dd_X2_pickFrom 4 rfl) rfl ?_
    refine sw_bipush (x := 6) O (xx_dt dd_X2_pickFrom 5 rfl) (by decide) ?_
    refine sw_icmp_lt (tgt := 23) O (xx_dt dd_X2_pickFrom 6 rfl) (by decide) (fun q2 => ?_) (fun q2 => ?_)
    · refine sw_aload_n O (xx_dt dd_X2_pickFrom 12 rfl) rfl ?_
      refine sw_aload_n O (xx_dt dd_X2_pickFrom 13 rfl) rfl ?_
      refine sw_iload_n O (xx_dt dd_X2_pickFrom 14 rfl) rfl ?_
      refine sw_iconst (x := 1) O (xx_dt dd_X2_pickFrom 15 rfl) (by decide) ?_
      refine sw_iadd O (xx_dt dd_X2_pickFrom 16 rfl) ?_
      rw [nI_a1 i]
      refine sw_iload_n O (xx_dt dd_X2_pickFrom 17 rfl) rfl ?_
      refine sw_iload O (xx_dt dd_X2_pickFrom 18 rfl) rfl ?_
      refine sw_iload O (xx_dt dd_X2_pickFrom 19 rfl) rfl ?_
      refine sw_callSx (as := [.ref 1003, .ref 1001, .int (nI (i + 1)), .int (nI fx), .int (nI S), .int x]) (st := []) (st2 := []) O (ih (σ) S (nI S) x rfl (by omega) (hB) (hR) hgr hct) ce_X2_pickFrom ml_X2_68 st_X2_pickFrom (xx_dt dd_X2_pickFrom 20 rfl) (by first | decide | omega) rfl rfl (Nat.le_of_ble_eq_true rfl) rfl ?_
      refine sw_iload_n O (xx_dt dd_X2_pickFrom 21 rfl) rfl ?_
      refine sw_iload_n O (xx_dt dd_X2_pickFrom 22 rfl) rfl ?_
      refine sw_icmp_ne (tgt := 42) O (xx_dt dd_X2_pickFrom 23 rfl) (by decide) (fun q3 => ?_) (fun q3 => ?_)
      · refine sw_iconst (x := 0) O (xx_dt dd_X2_pickFrom 25 rfl) (by decide) ?_
        refine sw_istore (ls2 := [.ref 1003, .ref 1001, .int (nI i), .int (nI fx), .int (nI S), .int x, .int 0]) O (xx_dt dd_X2_pickFrom 26 rfl) (by decide) rfl ?_
        refine sw_for (fun i45 s45 => (if (f_fits s45 i (s45 (1022 + i) i45) R gr) = 0 then s45 else g_giveBack (g_rec (g_take s45 i i45 R gr) (S ||| 2 ^ i) (x + (s45 (1031 + i) i45))) i i45 R gr)) (fun _ s45 => s45 1001 4 = nI R ∧ s45 1001 9 = nI B ∧ s45 1017 = σ 1017 ∧ s45 1020 = σ 1020) (hp := fun s45 => setC s45 h) (hd := 45) (lc := fun i45 s45 => [.ref 1003, .ref 1001, .int (nI i), .int (nI fx), .int (nI S), .int x, .int (nI i45)]) (N := (cnt i)) (fun i45 s45 hi45 hP45 => ⟨(by (try dsimp only); (repeat' split) <;> (refine ⟨?_, ?_, ?_, ?_⟩ <;> (first | exact hP45.1 | exact hP45.2.1 | exact hP45.2.2.1 | exact hP45.2.2.2 | exact hi45 | exact .inl rfl | exact .inr rfl | (simp (disch := omega) only [u2_ne, uR_ne, fr_fill, fr_useWaiver, fr_undoContradictions, fr_lowerEligible, fr_moveHeld, fr_raisePrices, fr_begin, fr_closeRound, fr_moveTaken, fr_findDisturbed, fr_addRegion, fr_addBidder, fr_take, fr_giveBack, fr_keepIfBetter, fr_rec]; first | exact hP45.1 | exact hP45.2.1 | exact hP45.2.2.1 | exact hP45.2.2.2)))), fun kk45 => ?_⟩) (cnt i) 0 (g_rec σ S x) (by omega) (⟨((congrFun (fr_rec (by omega)) 4).trans hR), ((congrFun (fr_rec (by omega)) 9).trans hB), (fr_rec (by omega)), (fr_rec (by omega))⟩) (fun hP45 => ?_)
        · refine sw_iload O (xx_dt dd_X2_pickFrom 27 rfl) rfl ?_
          refine sw_aload_n O (xx_dt dd_X2_pickFrom 28 rfl) rfl ?_
          refine sw_get (v := .ref 1020) O (xx_dt dd_X2_pickFrom 29 rfl) cl_X2 fl_X2_9 (ly_1003 s45 h) (by decide) rfl ?_
          refine sw_iload_n O (xx_dt dd_X2_pickFrom 30 rfl) rfl ?_
          have hz52 := (hct i (by omega)).2
          refine sw_iaload (v := .int (nI (cnt i))) O (xx_dt dd_X2_pickFrom 31 rfl) (ly_1020 s45 h) (pk_in i _ (by omega)) (by rw [nI_clamp (by omega)]; exact (congrArg Value.int ((congrFun hP45.2.2.2 i).trans (hct i (by omega)).1))) ?_
          refine sw_icmp_ge (tgt := 123) O (xx_dt dd_X2_pickFrom 32 rfl) (by decide) (fun q4 => ?_) (fun q4 => ?_)
          · exact absurd q4 (nI_ge (b := (cnt i)) hi45 (by omega))
          · refine sw_aload_n O (xx_dt dd_X2_pickFrom 33 rfl) rfl ?_
            refine sw_aload_n O (xx_dt dd_X2_pickFrom 34 rfl) rfl ?_
            refine sw_iload_n O (xx_dt dd_X2_pickFrom 35 rfl) rfl ?_
            refine sw_aload_n O (xx_dt dd_X2_pickFrom 36 rfl) rfl ?_
            refine sw_get (v := .ref 1021) O (xx_dt dd_X2_pickFrom 37 rfl) cl_X2 fl_X2_17 (ly_1003 s45 h) (by decide) rfl ?_
            refine sw_iload_n O (xx_dt dd_X2_pickFrom 38 rfl) rfl ?_
            refine sw_aaload (v := .ref (1022 + i)) O (xx_dt dd_X2_pickFrom 39 rfl) (by omega) (by omega) (ly_1021 s45 h) (pk_in i _ (by omega)) (by rw [nI_clamp (by omega)]; try exact rfl) ?_
            refine sw_iload O (xx_dt dd_X2_pickFrom 40 rfl) rfl ?_
            refine sw_iaload (v := .int (s45 (1022 + i) i45)) O (xx_dt dd_X2_pickFrom 41 rfl) (lr_1021 s45 h (k := i) (by omega)) (pk_in i45 _ (by omega)) (by rw [nI_clamp (by omega)]; try exact rfl) ?_
            refine sw_callVx (as := [.ref 1001, .int (nI i), .int (s45 (1022 + i) i45)]) (st := []) (st2 := [.int (f_fits s45 i (s45 (1022 + i) i45) R gr)]) O (ct_X2_fits hl (σ := s45) (R := R) hP45.1 (by omega) (gr := gr) (fun j9 hj9 => by rw [show s45 1017 = σ 1017 from hP45.2.2.1]; exact hgr j9 hj9) (i := i) (x := s45 (1022 + i) i45) (by omega)) ce_X2_fits ml_X2_60 iv_X2_fits cl_X2 rfl (ly_1003 s45 h) (xx_dt dd_X2_pickFrom 42 rfl) (by first | decide | omega) rfl rfl (Nat.le_of_ble_eq_true rfl) rfl ?_
            refine sw_if_eq (tgt := 117) O (xx_dt dd_X2_pickFrom 43 rfl) (by decide) (fun q5 => ?_) (fun q5 => ?_)
            · refine sw_iinc (y := nI (i45 + 1)) (ls2 := [.ref 1003, .ref 1001, .int (nI i), .int (nI fx), .int (nI S), .int x, .int (nI (i45 + 1))]) O (xx_dt dd_X2_pickFrom 74 rfl) rfl (nI_1 _) (by decide) rfl ?_
              refine sw_goto (tgt := 45) O (xx_dt dd_X2_pickFrom 75 rfl) (by decide) ?_
              simp only [if_pos q5] at kk45
              exact kk45
            · refine sw_aload_n O (xx_dt dd_X2_pickFrom 44 rfl) rfl ?_
              refine sw_aload_n O (xx_dt dd_X2_pickFrom 45 rfl) rfl ?_
              refine sw_iload_n O (xx_dt dd_X2_pickFrom 46 rfl) rfl ?_
              refine sw_iload O (xx_dt dd_X2_pickFrom 47 rfl) rfl ?_
              refine sw_callVx (as := [.ref 1001, .int (nI i), .int (nI i45)]) (st := []) (st2 := []) O (ct_X2_take hl (σ := s45) (R := R) hP45.1 (by omega) (gr := gr) (fun j9 hj9 => by rw [show s45 1017 = σ 1017 from hP45.2.2.1]; exact hgr j9 hj9) (i := i) (n := i45) (by omega) (by omega)) ce_X2_take ml_X2_64 iv_X2_take cl_X2 rfl (ly_1003 s45 h) (xx_dt dd_X2_pickFrom 48 rfl) (by first | decide | omega) rfl rfl (Nat.le_of_ble_eq_true rfl) rfl ?_
              refine sw_aload_n O (xx_dt dd_X2_pickFrom 49 rfl) rfl ?_
              refine sw_aload_n O (xx_dt dd_X2_pickFrom 50 rfl) rfl ?_
              refine sw_iload_n O (xx_dt dd_X2_pickFrom 51 rfl) rfl ?_
              refine sw_iconst (x := 1) O (xx_dt dd_X2_pickFrom 52 rfl) (by decide) ?_
              refine sw_iadd O (xx_dt dd_X2_pickFrom 53 rfl) ?_
              rw [nI_a1 i]
              refine sw_iload_n O (xx_dt dd_X2_pickFrom 54 rfl) rfl ?_
              refine sw_iload O (xx_dt dd_X2_pickFrom 55 rfl) rfl ?_
              refine sw_iconst (x := 1) O (xx_dt dd_X2_pickFrom 56 rfl) (by decide) ?_
              refine sw_iload_n O (xx_dt dd_X2_pickFrom 57 rfl) rfl ?_
              refine sw_ishl O (xx_dt dd_X2_pickFrom 58 rfl) ?_
              refine sw_ior O (xx_dt dd_X2_pickFrom 59 rfl) ?_
              refine sw_iload O (xx_dt dd_X2_pickFrom 60 rfl) rfl ?_
              refine sw_aload_n O (xx_dt dd_X2_pickFrom 61 rfl) rfl ?_
              refine sw_get (v := .ref 1030) O (xx_dt dd_X2_pickFrom 62 rfl) cl_X2 fl_X2_20 (ly_1003 (g_take s45 i i45 R gr) h) (by decide) rfl ?_
              refine sw_iload_n O (xx_dt dd_X2_pickFrom 63 rfl) rfl ?_
              refine sw_aaload (v := .ref (1031 + i)) O (xx_dt dd_X2_pickFrom 64 rfl) (by omega) (by omega) (ly_1030 (g_take s45 i i45 R gr) h) (pk_in i _ (by omega)) (by rw [nI_clamp (by omega)]; try exact rfl) ?_
              refine sw_iload O (xx_dt dd_X2_pickFrom 65 rfl) rfl ?_
              refine sw_iaload (v := .int (s45 (1031 + i) i45)) O (xx_dt dd_X2_pickFrom 66 rfl) (lr_1030 (g_take s45 i i45 R gr) h (k := i) (by omega)) (pk_in i45 _ (by omega)) (by rw [nI_clamp (by omega)]; exact (congrArg Value.int (congrFun (fr_take (by omega)) i45))) ?_
              refine sw_iadd O (xx_dt dd_X2_pickFrom 67 rfl) ?_
              refine sw_callSx (as := [.ref 1003, .ref 1001, .int (nI (i + 1)), .int (nI fx), .int ((nI S) ||| (1 <<< ((nI i) &&& 31))), .int (x + (s45 (1031 + i) i45))]) (st := []) (st2 := []) O (ih (g_take s45 i i45 R gr) (S ||| 2 ^ i) ((nI S) ||| (1 <<< ((nI i) &&& 31))) (x + (s45 (1031 + i) i45)) (or_bit (S := S) (i := i) (by omega) (by omega)) (or_bit_lt (by omega) (by omega)) (((congrFun (fr_take (by omega)) 9).trans hP45.2.1)) (((congrFun (fr_take (by omega)) 4).trans hP45.1)) (fun j9 hj9 => by rw [show (g_take s45 i i45 R gr) 1017 = σ 1017 from ((fr_take (by omega)).trans hP45.2.2.1)]; exact hgr j9 hj9) (fun j9 hj9 => by rw [show (g_take s45 i i45 R gr) 1020 = σ 1020 from ((fr_take (by omega)).trans hP45.2.2.2)]; exact hct j9 hj9)) ce_X2_pickFrom ml_X2_68 st_X2_pickFrom (xx_dt dd_X2_pickFrom 68 rfl) (by first | decide | omega) rfl rfl (Nat.le_of_ble_eq_true rfl) rfl ?_
              refine sw_aload_n O (xx_dt dd_X2_pickFrom 69 rfl) rfl ?_
              refine sw_aload_n O (xx_dt dd_X2_pickFrom 70 rfl) rfl ?_
              refine sw_iload_n O (xx_dt dd_X2_pickFrom 71 rfl) rfl ?_
              refine sw_iload O (xx_dt dd_X2_pickFrom 72 rfl) rfl ?_
              refine sw_callVx (as := [.ref 1001, .int (nI i), .int (nI i45)]) (st := []) (st2 := []) O (ct_X2_giveBack hl (σ := g_rec (g_take s45 i i45 R gr) (S ||| 2 ^ i) (x + (s45 (1031 + i) i45))) (R := R) (((congrFun (fr_rec (by omega)) 4).trans (congrFun (fr_take (by omega)) 4)).trans hP45.1) (by omega) (gr := gr) (fun j9 hj9 => by rw [show (g_rec (g_take s45 i i45 R gr) (S ||| 2 ^ i) (x + (s45 (1031 + i) i45))) 1017 = σ 1017 from (((fr_rec (by omega)).trans (fr_take (by omega))).trans hP45.2.2.1)]; exact hgr j9 hj9) (i := i) (n := i45) (by omega) (by omega)) ce_X2_giveBack ml_X2_72 iv_X2_giveBack cl_X2 rfl (ly_1003 (g_rec (g_take s45 i i45 R gr) (S ||| 2 ^ i) (x + (s45 (1031 + i) i45))) h) (xx_dt dd_X2_pickFrom 73 rfl) (by first | decide | omega) rfl rfl (Nat.le_of_ble_eq_true rfl) rfl ?_
              refine sw_iinc (y := nI (i45 + 1)) (ls2 := [.ref 1003, .ref 1001, .int (nI i), .int (nI fx), .int (nI S), .int x, .int (nI (i45 + 1))]) O (xx_dt dd_X2_pickFrom 74 rfl) rfl (nI_1 _) (by decide) rfl ?_
              refine sw_goto (tgt := 45) O (xx_dt dd_X2_pickFrom 75 rfl) (by decide) ?_
              simp only [if_neg q5] at kk45
              exact kk45
        · show SW Y _ _ (setC (x_pickStep_45 σ g_rec i fx S x R B gr cnt (g_rec σ S x)) h) 45 [.ref 1003, .ref 1001, .int (nI i), .int (nI fx), .int (nI S), .int x, .int (nI ((cnt i)))] []
          have hP45 : (x_pickStep_45 σ g_rec i fx S x R B gr cnt (g_rec σ S x)) 1001 4 = nI R ∧ (x_pickStep_45 σ g_rec i fx S x R B gr cnt (g_rec σ S x)) 1001 9 = nI B ∧ (x_pickStep_45 σ g_rec i fx S x R B gr cnt (g_rec σ S x)) 1017 = σ 1017 ∧ (x_pickStep_45 σ g_rec i fx S x R B gr cnt (g_rec σ S x)) 1020 = σ 1020 := hP45
          refine sw_iload O (xx_dt dd_X2_pickFrom 27 rfl) rfl ?_
          refine sw_aload_n O (xx_dt dd_X2_pickFrom 28 rfl) rfl ?_
          refine sw_get (v := .ref 1020) O (xx_dt dd_X2_pickFrom 29 rfl) cl_X2 fl_X2_9 (ly_1003 (x_pickStep_45 σ g_rec i fx S x R B gr cnt (g_rec σ S x)) h) (by decide) rfl ?_
          refine sw_iload_n O (xx_dt dd_X2_pickFrom 30 rfl) rfl ?_
          have hz52 := (hct i (by omega)).2
          refine sw_iaload (v := .int (nI (cnt i))) O (xx_dt dd_X2_pickFrom 31 rfl) (ly_1020 (x_pickStep_45 σ g_rec i fx S x R B gr cnt (g_rec σ S x)) h) (pk_in i _ (by omega)) (by rw [nI_clamp (by omega)]; exact (congrArg Value.int ((congrFun hP45.2.2.2 i).trans (hct i (by omega)).1))) ?_
          refine sw_icmp_ge (tgt := 123) O (xx_dt dd_X2_pickFrom 32 rfl) (by decide) (fun q4 => ?_) (fun q4 => ?_)
          · exact sw_ret O (xx_dt dd_X2_pickFrom 76 rfl) rfl (by rw [hQ]; exact ⟨rfl, by unfold g_pickStep; simp only [if_neg q1, if_neg q3]⟩)
          · exact absurd (Int32.le_refl _) q4
      · exact sw_ret O (xx_dt dd_X2_pickFrom 24 rfl) rfl (by rw [hQ]; exact ⟨rfl, by unfold g_pickStep; simp only [if_neg q1, if_pos q3]⟩)
    · exact absurd q2 (fun e => e (nI_lt (a := i) (b := 6) (by omega) (by omega)))
def g_pickBase (σ : XS9) (fx S : Nat) (x : Int32) (B : Nat) : XS9 := g_keepIfBetter σ S x
theorem ct_X2_pickBase {l : Launch} {h : XH} (hl : l.stackTraces = false) {σ : XS9} {fx S : Nat} {x : Int32} (hf : fx < 6) (hS : S < 64) {B : Nat} (hB : σ 1001 9 = nI B) (hB6 : B ≤ 6)  : XEx l m_X2_pickFrom 2 0 0 [.ref 1003, .ref 1001, .int (nI 6), .int (nI fx), .int (nI S), .int x] (setC σ h) (none) (setC (g_pickBase σ fx S x B) h) := by
  refine XMet.of hl rfl rfl (Nat.le_of_ble_eq_true rfl) (fun Y O hh hQ => ?_)
  show SW Y 0 0 (setC σ h) 0 [.ref 1003, .ref 1001, .int (nI 6), .int (nI fx), .int (nI S), .int x, xx_d] []
  refine sw_iload_n O (xx_dt dd_X2_pickFrom 0 rfl) rfl ?_
  refine sw_aload_n O (xx_dt dd_X2_pickFrom 1 rfl) rfl ?_
  refine sw_get (v := .int (nI B)) O (xx_dt dd_X2_pickFrom 2 rfl) cl_X6 fl_X2_78 (ly_1001 σ h) (by decide) (congrArg Value.int hB) ?_
  refine sw_icmp_ge (tgt := 14) O (xx_dt dd_X2_pickFrom 3 rfl) (by decide) (fun q1 => ?_) (fun q1 => ?_)
  · refine sw_aload_n O (xx_dt dd_X2_pickFrom 7 rfl) rfl ?_
    refine sw_iload O (xx_dt dd_X2_pickFrom 8 rfl) rfl ?_
    refine sw_iload O (xx_dt dd_X2_pickFrom 9 rfl) rfl ?_
    refine sw_callVx (as := [.int (nI S), .int x]) (st := []) (st2 := []) O (ct_X2_keepIfBetter hl (σ := σ) (S := S) (x := x) (by omega)) ce_X2_keepIfBetter ml_X2_83 iv_X2_keepIfBetter cl_X2 rfl (ly_1003 σ h) (xx_dt dd_X2_pickFrom 10 rfl) (by first | decide | omega) rfl rfl (Nat.le_of_ble_eq_true rfl) rfl ?_
    exact sw_ret O (xx_dt dd_X2_pickFrom 11 rfl) rfl (by rw [hQ]; exact ⟨rfl, by unfold g_pickBase; rfl⟩)
  · exact absurd q1 (fun e => e ((nI_leI (a := B) (b := 6) (by omega) (by omega)).mpr hB6))
theorem fr_pickStep {σ : XS9} {g_rec : XS9 → Nat → Int32 → XS9} (fr_rec : ∀ {σ : XS9} {S : Nat} {x : Int32} {q : Nat}, (S < 64 ∧ q ≠ 1042 ∧ q ≠ 1043 ∧ q ≠ 1044 ∧ (q < 1051 ∨ 1114 < q) ∧ (q < 1121 ∨ 1124 < q)) → g_rec σ S x q = σ q) {i fx S : Nat} {x : Int32} {R B : Nat} {gr cnt : Nat → Nat} (hg : gr i < 4) (hS : S < 64) (hor : S ||| 2 ^ i < 64) {q : Nat} (h : q ≠ 1042 ∧ q ≠ 1043 ∧ q ≠ 1044 ∧ (q < 1051 ∨ 1114 < q) ∧ (q < 1121 ∨ 1124 < q)) : g_pickStep σ g_rec i fx S x R B gr cnt q = σ q := by
  have H0 : ∀ s0, (x_pickStep_45 σ g_rec i fx S x R B gr cnt s0) q = s0 q := fun s0 => xit_keep (fun s : XS9 => s q) (fun i s => by (try dsimp only); (repeat' split) <;> first | rfl | simp (disch := omega) only [fr_rec, fr_take, fr_giveBack]) _ _ _
  unfold g_pickStep
  (repeat' split) <;> first | rfl | simp (disch := omega) only [fr_rec, fr_keepIfBetter, H0]
def g_pickFrom (fx R B : Nat) (gr cnt : Nat → Nat) : Nat → Nat → XS9 → Nat → Int32 → XS9
  | 0, _, σ, S, x => g_pickBase σ fx S x B
  | f + 1, i, σ, S, x => g_pickStep σ (fun σ S x => g_pickFrom fx R B gr cnt f (i + 1) σ S x) i fx S x R B gr cnt
theorem fr_pickF {fx R B : Nat} {gr cnt : Nat → Nat} (hg : ∀ i, i < 6 → gr i < 4) : ∀ (f i : Nat), i + f = 6 → ∀ {σ : XS9} {S : Nat} {x : Int32} {q : Nat}, (S < 64 ∧ q ≠ 1042 ∧ q ≠ 1043 ∧ q ≠ 1044 ∧ (q < 1051 ∨ 1114 < q) ∧ (q < 1121 ∨ 1124 < q)) → g_pickFrom fx R B gr cnt f i σ S x q = σ q
  | 0, i, e, σ, S, x, q, h => by
    unfold g_pickFrom g_pickBase
    simp (disch := omega) only [fr_keepIfBetter]
  | f + 1, i, e, σ, S, x, q, h => by
    unfold g_pickFrom
    exact fr_pickStep (fun h' => fr_pickF hg f (i + 1) (by omega) h') (hg i (by omega)) h.1 (or_bit_lt h.1 (by omega)) h.2
theorem ct_pickF {l : Launch} {h : XH} (hl : l.stackTraces = false) {fx R B : Nat} {gr cnt : Nat → Nat} (hf : fx < 6) (hB6 : B ≤ 6) (hR5 : R ≤ 5) : ∀ (f i : Nat), i + f = 6 → ∀ (σ : XS9) (S : Nat) (y x : Int32), y = nI S → S < 64 → σ 1001 9 = nI B → σ 1001 4 = nI R → (∀ i, i < 6 → σ 1017 i = nI (gr i) ∧ gr i < 4) → (∀ i, i < 6 → σ 1020 i = nI (cnt i) ∧ cnt i ≤ 6) → XEx l m_X2_pickFrom (f + 2) 0 0 [.ref 1003, .ref 1001, .int (nI i), .int (nI fx), .int y, .int x] (setC σ h) none (setC (g_pickFrom fx R B gr cnt f i σ S x) h)
  | 0, i, e, σ, S, y, x, hy, hS, hB, hR, hgr, hct => by
    subst hy
    obtain rfl : i = 6 := by omega
    exact ct_X2_pickBase hl hf hS hB hB6
  | f + 1, i, e, σ, S, y, x, hy, hS, hB, hR, hgr, hct => by
    subst hy
    exact ct_X2_pickStep hl (fun h' => fr_pickF (fun i hi => (hgr i hi).2) f (i + 1) (by omega) h') (by omega) hf hS (or_bit_lt hS (by omega)) hB hB6 hR hR5 hgr hct (d0 := f + 2) (by omega) (fun σ S y x e1 e2 e3 e4 e5 e6 => ct_pickF hl hf hB6 hR5 f (i + 1) (by omega) σ S y x e1 e2 e3 e4 e5 e6)
def cnt1 (cnt : Nat → Nat) (i : Nat) : Nat → Nat := fun j => if j = i then cnt i + 1 else cnt j
theorem cnt1_ok {σ A : XS9} {cnt : Nat → Nat} {i : Nat} (hct : ∀ i, i < 6 → σ 1020 i = nI (cnt i) ∧ cnt i ≤ 6) (hA : A 1020 = σ 1020) (hc : cnt i < 6) : ∀ j, j < 6 → u2 A 1020 i (nI (cnt i + 1)) 1020 j = nI (cnt1 cnt i j) ∧ cnt1 cnt i j ≤ 6 := by
  intro j hj
  unfold cnt1
  by_cases e : j = i
  · subst e
    rw [if_pos rfl, u2_at]
    exact ⟨rfl, hc⟩
  · rw [if_neg e]
    rw [show u2 A 1020 i (nI (cnt i + 1)) 1020 j = A 1020 j from u2_oi e, hA]
    exact hct j hj
end
section
/-! ===== packages are added ===== -/
theorem fr_findWinners {σ : XS9}  {q : Nat} (h : q ≠ 1040 ∧ q ≠ 1041) : g_findWinners σ  q = σ q := by
  have H0 : ∀ s0, (x_findWinners_4 σ s0).1 q = s0.1 q := fun s0 => xit_keep (fun s : XS9 × Nat => s.1 q) (fun i s => by (try dsimp only); (repeat' split) <;> first | rfl | simp (disch := omega) only [u2_ne, uR_ne, fr_fill, fr_useWaiver, fr_undoContradictions, fr_lowerEligible, fr_moveHeld, fr_raisePrices, fr_begin, fr_closeRound, fr_moveTaken, fr_findDisturbed, fr_addRegion, fr_addBidder, fr_take, fr_giveBack, fr_keepIfBetter]) _ _ _
  unfold g_findWinners
  (repeat' split) <;> first | rfl | simp (disch := omega) only [u2_ne, uR_ne, fr_fill, fr_useWaiver, fr_undoContradictions, fr_lowerEligible, fr_moveHeld, fr_raisePrices, fr_begin, fr_closeRound, fr_moveTaken, fr_findDisturbed, fr_addRegion, fr_addBidder, fr_take, fr_giveBack, fr_keepIfBetter, H0]
theorem fr_pickFrom {fx R B : Nat} {gr cnt : Nat → Nat} {σ : XS9} {S : Nat} {x : Int32} {q : Nat} (h : (∀ i, i < 6 → gr i < 4) ∧ S < 64 ∧ q ≠ 1042 ∧ q ≠ 1043 ∧ q ≠ 1044 ∧ (q < 1051 ∨ 1114 < q) ∧ (q < 1121 ∨ 1124 < q)) : g_pickFrom fx R B gr cnt 6 0 σ S x q = σ q := fr_pickF h.1 6 0 rfl h.2
def g_addM (σ : XS9) (i : Nat) (x y : Int32) (R B : Nat) (gr cnt : Nat → Nat) : XS9 := (if (nI (cnt i)) < 6 then (if (f_fits (u2 (u2 (u2 σ (1022 + i) (cnt i) x) (1031 + i) (cnt i) y) 1020 i (nI (cnt i + 1))) i x R gr) = 0 then g_findWinners (u2 (u2 (u2 σ (1022 + i) (cnt i) x) (1031 + i) (cnt i) y) 1020 i (nI (cnt i + 1))) else g_findWinners (g_giveBack (g_pickFrom i R B gr (cnt1 cnt i) 6 0 (g_take (u2 (u2 (u2 σ (1022 + i) (cnt i) x) (1031 + i) (cnt i) y) 1020 i (nI (cnt i + 1))) i (cnt i) R gr) (2 ^ i) y) i (cnt i) R gr)) else σ)
theorem ct_X2_add {l : Launch} {h : XH} (hl : l.stackTraces = false) {σ : XS9} {R : Nat} (hR : σ 1001 4 = nI R) (hR5 : R ≤ 5) {B : Nat} (hB : σ 1001 9 = nI B) (hB6 : B ≤ 6) {gr : Nat → Nat} (hgr : ∀ i, i < 6 → σ 1017 i = nI (gr i) ∧ gr i < 4) {cnt : Nat → Nat} (hct : ∀ i, i < 6 → σ 1020 i = nI (cnt i) ∧ cnt i ≤ 6) {i : Nat} {x y : Int32} (hi : i < 6) : XEx l m_X2_add 9 0 0 [.ref 1003, .ref 1001, .int (nI i), .int x, .int y] (setC σ h) (none) (setC (g_addM σ i x y R B gr cnt) h) := by
  refine XMet.of hl rfl rfl (Nat.le_of_ble_eq_true rfl) (fun Y O hh hQ => ?_)
  show SW Y 0 0 (setC σ h) 0 [.ref 1003, .ref 1001, .int (nI i), .int x, .int y, xx_d] []
  refine sw_aload_n O (xx_dt dd_X2_add 0 rfl) rfl ?_
  refine sw_get (v := .ref 1020) O (xx_dt dd_X2_add 1 rfl) cl_X2 fl_X2_9 (ly_1003 σ h) (by decide) rfl ?_
  refine sw_iload_n O (xx_dt dd_X2_add 2 rfl) rfl ?_
  have hz5 := (hct i (by omega)).2
  refine sw_iaload (v := .int (nI (cnt i))) O (xx_dt dd_X2_add 3 rfl) (ly_1020 σ h) (pk_in i _ (by omega)) (by rw [nI_clamp (by omega)]; exact (congrArg Value.int (hct i (by omega)).1)) ?_
  refine sw_istore (ls2 := [.ref 1003, .ref 1001, .int (nI i), .int x, .int y, .int (nI (cnt i))]) O (xx_dt dd_X2_add 4 rfl) (by decide) rfl ?_
  refine sw_iload O (xx_dt dd_X2_add 5 rfl) rfl ?_
  refine sw_bipush (x := 6) O (xx_dt dd_X2_add 6 rfl) (by decide) ?_
  refine sw_icmp_lt (tgt := 16) O (xx_dt dd_X2_add 7 rfl) (by decide) (fun q1 => ?_) (fun q1 => ?_)
  · have hfq1 : (cnt i) < 6 := (nI_ltI (a := (cnt i)) (b := 6) (by omega) (by omega)).mp q1
    refine sw_aload_n O (xx_dt dd_X2_add 9 rfl) rfl ?_
    refine sw_get (v := .ref 1021) O (xx_dt dd_X2_add 10 rfl) cl_X2 fl_X2_17 (ly_1003 σ h) (by decide) rfl ?_
    refine sw_iload_n O (xx_dt dd_X2_add 11 rfl) rfl ?_
    refine sw_aaload (v := .ref (1022 + i)) O (xx_dt dd_X2_add 12 rfl) (by omega) (by omega) (ly_1021 σ h) (pk_in i _ (by omega)) (by rw [nI_clamp (by omega)]; try exact rfl) ?_
    refine sw_iload O (xx_dt dd_X2_add 13 rfl) rfl ?_
    refine sw_iload_n O (xx_dt dd_X2_add 14 rfl) rfl ?_
    refine sw_iastore (h2 := setC (u2 σ (1022 + i) (cnt i) x) h) O (xx_dt dd_X2_add 15 rfl) (lr_1021 σ h (k := i) (by omega)) (pk_in (cnt i) _ (by omega)) (by omega) (by rw [nI_clamp (by omega)]; exact (pr_1021 (by omega))) ?_
    refine sw_aload_n O (xx_dt dd_X2_add 16 rfl) rfl ?_
    refine sw_get (v := .ref 1030) O (xx_dt dd_X2_add 17 rfl) cl_X2 fl_X2_20 (ly_1003 (u2 σ (1022 + i) (cnt i) x) h) (by decide) rfl ?_
    refine sw_iload_n O (xx_dt dd_X2_add 18 rfl) rfl ?_
    refine sw_aaload (v := .ref (1031 + i)) O (xx_dt dd_X2_add 19 rfl) (by omega) (by omega) (ly_1030 (u2 σ (1022 + i) (cnt i) x) h) (pk_in i _ (by omega)) (by rw [nI_clamp (by omega)]; try exact rfl) ?_
    refine sw_iload O (xx_dt dd_X2_add 20 rfl) rfl ?_
    refine sw_iload O (xx_dt dd_X2_add 21 rfl) rfl ?_
    refine sw_iastore (h2 := setC (u2 (u2 σ (1022 + i) (cnt i) x) (1031 + i) (cnt i) y) h) O (xx_dt dd_X2_add 22 rfl) (lr_1030 (u2 σ (1022 + i) (cnt i) x) h (k := i) (by omega)) (pk_in (cnt i) _ (by omega)) (by omega) (by rw [nI_clamp (by omega)]; exact (pr_1030 (by omega))) ?_
    refine sw_aload_n O (xx_dt dd_X2_add 23 rfl) rfl ?_
    refine sw_get (v := .ref 1020) O (xx_dt dd_X2_add 24 rfl) cl_X2 fl_X2_9 (ly_1003 (u2 (u2 σ (1022 + i) (cnt i) x) (1031 + i) (cnt i) y) h) (by decide) rfl ?_
    refine sw_iload_n O (xx_dt dd_X2_add 25 rfl) rfl ?_
    refine sw_dup2 O (xx_dt dd_X2_add 26 rfl) rfl rfl ?_
    have hz43 := (hct i (by omega)).2
    refine sw_iaload (v := .int (nI (cnt i))) O (xx_dt dd_X2_add 27 rfl) (ly_1020 (u2 (u2 σ (1022 + i) (cnt i) x) (1031 + i) (cnt i) y) h) (pk_in i _ (by omega)) (by rw [nI_clamp (by omega)]; exact (congrArg Value.int (((congrFun (u2_ne (by omega)) i).trans (congrFun (u2_ne (by omega)) i)).trans (hct i (by omega)).1))) ?_
    refine sw_iconst (x := 1) O (xx_dt dd_X2_add 28 rfl) (by decide) ?_
    refine sw_iadd O (xx_dt dd_X2_add 29 rfl) ?_
    rw [nI_a1 (cnt i)]
    refine sw_iastore (h2 := setC (u2 (u2 (u2 σ (1022 + i) (cnt i) x) (1031 + i) (cnt i) y) 1020 i (nI (cnt i + 1))) h) O (xx_dt dd_X2_add 30 rfl) (ly_1020 (u2 (u2 σ (1022 + i) (cnt i) x) (1031 + i) (cnt i) y) h) (pk_in i _ (by omega)) (by decide) (by rw [nI_clamp (by omega)]; exact pa_1020) ?_
    refine sw_aload_n O (xx_dt dd_X2_add 31 rfl) rfl ?_
    refine sw_aload_n O (xx_dt dd_X2_add 32 rfl) rfl ?_
    refine sw_iload_n O (xx_dt dd_X2_add 33 rfl) rfl ?_
    refine sw_iload_n O (xx_dt dd_X2_add 34 rfl) rfl ?_
    refine sw_callVx (as := [.ref 1001, .int (nI i), .int x]) (st := []) (st2 := [.int (f_fits (u2 (u2 (u2 σ (1022 + i) (cnt i) x) (1031 + i) (cnt i) y) 1020 i (nI (cnt i + 1))) i x R gr)]) O (ct_X2_fits hl (σ := u2 (u2 (u2 σ (1022 + i) (cnt i) x) (1031 + i) (cnt i) y) 1020 i (nI (cnt i + 1))) (R := R) ((((congrFun (u2_ne (by omega)) 4).trans (congrFun (u2_ne (by omega)) 4)).trans (congrFun (u2_ne (by omega)) 4)).trans hR) (by omega) (gr := gr) (fun j9 hj9 => by rw [show (u2 (u2 (u2 σ (1022 + i) (cnt i) x) (1031 + i) (cnt i) y) 1020 i (nI (cnt i + 1))) 1017 = σ 1017 from (((u2_ne (by omega)).trans (u2_ne (by omega))).trans (u2_ne (by omega)))]; exact hgr j9 hj9) (i := i) (x := x) (by omega)) ce_X2_fits ml_X2_60 iv_X2_fits cl_X2 rfl (ly_1003 (u2 (u2 (u2 σ (1022 + i) (cnt i) x) (1031 + i) (cnt i) y) 1020 i (nI (cnt i + 1))) h) (xx_dt dd_X2_add 35 rfl) (by first | decide | omega) rfl rfl (Nat.le_of_ble_eq_true rfl) rfl ?_
    refine sw_if_eq (tgt := 85) O (xx_dt dd_X2_add 36 rfl) (by decide) (fun q2 => ?_) (fun q2 => ?_)
    · refine sw_aload_n O (xx_dt dd_X2_add 56 rfl) rfl ?_
      refine sw_callVx (as := []) (st := []) (st2 := []) O (ct_X2_findWinners hl (σ := u2 (u2 (u2 σ (1022 + i) (cnt i) x) (1031 + i) (cnt i) y) 1020 i (nI (cnt i + 1)))) ce_X2_findWinners ml_X2_75 iv_X2_findWinners cl_X2 rfl (ly_1003 (u2 (u2 (u2 σ (1022 + i) (cnt i) x) (1031 + i) (cnt i) y) 1020 i (nI (cnt i + 1))) h) (xx_dt dd_X2_add 57 rfl) (by first | decide | omega) rfl rfl (Nat.le_of_ble_eq_true rfl) rfl ?_
      exact sw_ret O (xx_dt dd_X2_add 58 rfl) rfl (by rw [hQ]; exact ⟨rfl, by unfold g_addM; simp only [if_pos q1, if_pos q2]⟩)
    · refine sw_aload_n O (xx_dt dd_X2_add 37 rfl) rfl ?_
      refine sw_aload_n O (xx_dt dd_X2_add 38 rfl) rfl ?_
      refine sw_iload_n O (xx_dt dd_X2_add 39 rfl) rfl ?_
      refine sw_iload O (xx_dt dd_X2_add 40 rfl) rfl ?_
      refine sw_callVx (as := [.ref 1001, .int (nI i), .int (nI (cnt i))]) (st := []) (st2 := []) O (ct_X2_take hl (σ := u2 (u2 (u2 σ (1022 + i) (cnt i) x) (1031 + i) (cnt i) y) 1020 i (nI (cnt i + 1))) (R := R) ((((congrFun (u2_ne (by omega)) 4).trans (congrFun (u2_ne (by omega)) 4)).trans (congrFun (u2_ne (by omega)) 4)).trans hR) (by omega) (gr := gr) (fun j9 hj9 => by rw [show (u2 (u2 (u2 σ (1022 + i) (cnt i) x) (1031 + i) (cnt i) y) 1020 i (nI (cnt i + 1))) 1017 = σ 1017 from (((u2_ne (by omega)).trans (u2_ne (by omega))).trans (u2_ne (by omega)))]; exact hgr j9 hj9) (i := i) (n := cnt i) (by omega) (by omega)) ce_X2_take ml_X2_64 iv_X2_take cl_X2 rfl (ly_1003 (u2 (u2 (u2 σ (1022 + i) (cnt i) x) (1031 + i) (cnt i) y) 1020 i (nI (cnt i + 1))) h) (xx_dt dd_X2_add 41 rfl) (by first | decide | omega) rfl rfl (Nat.le_of_ble_eq_true rfl) rfl ?_
      refine sw_aload_n O (xx_dt dd_X2_add 42 rfl) rfl ?_
      refine sw_aload_n O (xx_dt dd_X2_add 43 rfl) rfl ?_
      refine sw_iconst (x := 0) O (xx_dt dd_X2_add 44 rfl) (by decide) ?_
      refine sw_iload_n O (xx_dt dd_X2_add 45 rfl) rfl ?_
      refine sw_iconst (x := 1) O (xx_dt dd_X2_add 46 rfl) (by decide) ?_
      refine sw_iload_n O (xx_dt dd_X2_add 47 rfl) rfl ?_
      refine sw_ishl O (xx_dt dd_X2_add 48 rfl) ?_
      refine sw_iload O (xx_dt dd_X2_add 49 rfl) rfl ?_
      refine sw_callSx (as := [.ref 1003, .ref 1001, .int 0, .int (nI i), .int (1 <<< ((nI i) &&& 31)), .int y]) (st := []) (st2 := []) O (ct_pickF hl (fx := i) (R := R) (B := B) (gr := gr) (cnt := cnt1 cnt i) hi hB6 hR5 6 0 rfl (g_take (u2 (u2 (u2 σ (1022 + i) (cnt i) x) (1031 + i) (cnt i) y) 1020 i (nI (cnt i + 1))) i (cnt i) R gr) (2 ^ i) (1 <<< ((nI i) &&& 31)) y (one_bit (i := i) (by omega)) (one_bit_lt (by omega)) ((((((congrFun (fr_take (by omega)) 9).trans (congrFun (u2_ne (by omega)) 9)).trans (congrFun (u2_ne (by omega)) 9)).trans (congrFun (u2_ne (by omega)) 9)).trans hB)) ((((((congrFun (fr_take (by omega)) 4).trans (congrFun (u2_ne (by omega)) 4)).trans (congrFun (u2_ne (by omega)) 4)).trans (congrFun (u2_ne (by omega)) 4)).trans hR)) (fun j9 hj9 => by rw [show (g_take (u2 (u2 (u2 σ (1022 + i) (cnt i) x) (1031 + i) (cnt i) y) 1020 i (nI (cnt i + 1))) i (cnt i) R gr) 1017 = σ 1017 from ((((fr_take (by omega)).trans (u2_ne (by omega))).trans (u2_ne (by omega))).trans (u2_ne (by omega)))]; exact hgr j9 hj9) (fun j9 hj9 => by rw [show (g_take (u2 (u2 (u2 σ (1022 + i) (cnt i) x) (1031 + i) (cnt i) y) 1020 i (nI (cnt i + 1))) i (cnt i) R gr) 1020 = (u2 (u2 (u2 σ (1022 + i) (cnt i) x) (1031 + i) (cnt i) y) 1020 i (nI (cnt i + 1))) 1020 from (fr_take (by omega))]; exact cnt1_ok (A := u2 (u2 σ (1022 + i) (cnt i) x) (1031 + i) (cnt i) y) hct (by simp (disch := omega) only [u2_ne]) (by omega) j9 hj9)) ce_X2_pickFrom ml_X2_68 st_X2_pickFrom (xx_dt dd_X2_add 50 rfl) (by first | decide | omega) rfl rfl (Nat.le_of_ble_eq_true rfl) rfl ?_
      refine sw_aload_n O (xx_dt dd_X2_add 51 rfl) rfl ?_
      refine sw_aload_n O (xx_dt dd_X2_add 52 rfl) rfl ?_
      refine sw_iload_n O (xx_dt dd_X2_add 53 rfl) rfl ?_
      refine sw_iload O (xx_dt dd_X2_add 54 rfl) rfl ?_
      refine sw_callVx (as := [.ref 1001, .int (nI i), .int (nI (cnt i))]) (st := []) (st2 := []) O (ct_X2_giveBack hl (σ := g_pickFrom i R B gr (cnt1 cnt i) 6 0 (g_take (u2 (u2 (u2 σ (1022 + i) (cnt i) x) (1031 + i) (cnt i) y) 1020 i (nI (cnt i + 1))) i (cnt i) R gr) (2 ^ i) y) (R := R) ((((((congrFun (fr_pickFrom ⟨fun i9 hi9 => (hgr i9 hi9).2, one_bit_lt (by omega), by omega⟩) 4).trans (congrFun (fr_take (by omega)) 4)).trans (congrFun (u2_ne (by omega)) 4)).trans (congrFun (u2_ne (by omega)) 4)).trans (congrFun (u2_ne (by omega)) 4)).trans hR) (by omega) (gr := gr) (fun j9 hj9 => by rw [show (g_pickFrom i R B gr (cnt1 cnt i) 6 0 (g_take (u2 (u2 (u2 σ (1022 + i) (cnt i) x) (1031 + i) (cnt i) y) 1020 i (nI (cnt i + 1))) i (cnt i) R gr) (2 ^ i) y) 1017 = σ 1017 from (((((fr_pickFrom ⟨fun i9 hi9 => (hgr i9 hi9).2, one_bit_lt (by omega), by omega⟩).trans (fr_take (by omega))).trans (u2_ne (by omega))).trans (u2_ne (by omega))).trans (u2_ne (by omega)))]; exact hgr j9 hj9) (i := i) (n := cnt i) (by omega) (by omega)) ce_X2_giveBack ml_X2_72 iv_X2_giveBack cl_X2 rfl (ly_1003 (g_pickFrom i R B gr (cnt1 cnt i) 6 0 (g_take (u2 (u2 (u2 σ (1022 + i) (cnt i) x) (1031 + i) (cnt i) y) 1020 i (nI (cnt i + 1))) i (cnt i) R gr) (2 ^ i) y) h) (xx_dt dd_X2_add 55 rfl) (by first | decide | omega) rfl rfl (Nat.le_of_ble_eq_true rfl) rfl ?_
      refine sw_aload_n O (xx_dt dd_X2_add 56 rfl) rfl ?_
      refine sw_callVx (as := []) (st := []) (st2 := []) O (ct_X2_findWinners hl (σ := g_giveBack (g_pickFrom i R B gr (cnt1 cnt i) 6 0 (g_take (u2 (u2 (u2 σ (1022 + i) (cnt i) x) (1031 + i) (cnt i) y) 1020 i (nI (cnt i + 1))) i (cnt i) R gr) (2 ^ i) y) i (cnt i) R gr)) ce_X2_findWinners ml_X2_75 iv_X2_findWinners cl_X2 rfl (ly_1003 (g_giveBack (g_pickFrom i R B gr (cnt1 cnt i) 6 0 (g_take (u2 (u2 (u2 σ (1022 + i) (cnt i) x) (1031 + i) (cnt i) y) 1020 i (nI (cnt i + 1))) i (cnt i) R gr) (2 ^ i) y) i (cnt i) R gr) h) (xx_dt dd_X2_add 57 rfl) (by first | decide | omega) rfl rfl (Nat.le_of_ble_eq_true rfl) rfl ?_
      exact sw_ret O (xx_dt dd_X2_add 58 rfl) rfl (by rw [hQ]; exact ⟨rfl, by unfold g_addM; simp only [if_pos q1, if_neg q2]⟩)
  · have hfq1 : ¬ (cnt i) < 6 := fun e => q1 ((nI_ltI (a := (cnt i)) (b := 6) (by omega) (by omega)).mpr e)
    exact sw_ret O (xx_dt dd_X2_add 8 rfl) rfl (by rw [hQ]; exact ⟨rfl, by unfold g_addM; simp only [if_neg q1]⟩)
theorem fr_addM {σ : XS9} {i : Nat} {x y : Int32} {R B : Nat} {gr cnt : Nat → Nat} {q : Nat} (h : i < 6 ∧ (q < 1020 ∨ 1124 < q) ∧ ∀ i, i < 6 → gr i < 4) (hc : cnt i ≤ 6) : g_addM σ i x y R B gr cnt q = σ q := by
  obtain ⟨hi, hq, hg⟩ := h
  have hgi := hg i hi
  have HP : ∀ σ, g_pickFrom i R B gr (cnt1 cnt i) 6 0 σ (2 ^ i) y q = σ q := fun σ => fr_pickFrom ⟨hg, one_bit_lt hi, by omega⟩
  unfold g_addM
  (repeat' split) <;> first | rfl | simp (disch := omega) only [u2_ne, fr_findWinners, fr_giveBack, fr_take, HP]
def XCT (σ : XS9) : Prop := ∀ i, i < 6 → σ 1020 i = nI (cn (σ 1020 i)) ∧ cn (σ 1020 i) ≤ 6
theorem XCT.of {σ σ' : XS9} (h : XCT σ) (e : σ' 1020 = σ 1020) : XCT σ' := by unfold XCT; rw [e]; exact h
theorem XCT.add {σ : XS9} {i : Nat} {x y : Int32} {R B : Nat} {gr : Nat → Nat} (h : XCT σ) (hi : i < 6) (hg : ∀ i, i < 6 → gr i < 4) : XCT (g_addM σ i x y R B gr (fun j => cn (σ 1020 j))) := by
  have hgi := hg i hi
  have HP : ∀ σ, g_pickFrom i R B gr (cnt1 (fun j => cn (σ 1020 j)) i) 6 0 σ (2 ^ i) y 1020 = σ 1020 := fun σ => fr_pickFrom ⟨hg, one_bit_lt hi, by omega⟩
  have hci := h i hi
  unfold g_addM
  split
  · rename_i hc
    have hc' : cn (σ 1020 i) < 6 := (nI_ltI (a := cn (σ 1020 i)) (b := 6) (by omega) (by omega)).mp hc
    have K : XCT (u2 (u2 (u2 σ (1022 + i) (cn (σ 1020 i)) x) (1031 + i) (cn (σ 1020 i)) y) 1020 i (nI (cn (σ 1020 i) + 1))) := by
      have := cnt1_ok (σ := σ) (A := u2 (u2 σ (1022 + i) (cn (σ 1020 i)) x) (1031 + i) (cn (σ 1020 i)) y) (cnt := fun j => cn (σ 1020 j)) h (by simp (disch := omega) only [u2_ne]) hc'
      intro j hj
      obtain ⟨e1, e2⟩ := this j hj
      rw [e1, cn_nI (by omega)]
      exact ⟨rfl, e2⟩
    split
    · exact K.of (by simp (disch := omega) only [fr_findWinners])
    · exact K.of (by
        have HP : ∀ σ', g_pickFrom i R B gr (cnt1 (fun j => cn (σ 1020 j)) i) 6 0 σ' (2 ^ i) y 1020 = σ' 1020 := fun σ' => fr_pickFrom ⟨hg, one_bit_lt hi, by omega⟩
        simp (disch := omega) only [fr_findWinners, fr_giveBack, fr_take, HP])
  · exact h
def g_leaveOut (σ : XS9) (i : Nat) : XS9 := g_findWinners (u2 σ 1003 5 ((σ 1003 5) ||| (1 <<< ((nI i) &&& 31))))
theorem ct_X2_leaveOut {l : Launch} {h : XH} (hl : l.stackTraces = false) {σ : XS9} {i : Nat} (hi : i < 6) : XEx l m_X2_leaveOut 3 0 0 [.ref 1003, .int (nI i)] (setC σ h) (none) (setC (g_leaveOut σ i) h) := by
  refine XMet.of hl rfl rfl (Nat.le_of_ble_eq_true rfl) (fun Y O hh hQ => ?_)
  show SW Y 0 0 (setC σ h) 0 [.ref 1003, .int (nI i)] []
  refine sw_aload_n O (xx_dt dd_X2_leaveOut 0 rfl) rfl ?_
  refine sw_dup O (xx_dt dd_X2_leaveOut 1 rfl) rfl ?_
  refine sw_get (v := .int (σ 1003 5)) O (xx_dt dd_X2_leaveOut 2 rfl) cl_X2 fl_X2_50 (ly_1003 σ h) (by decide) rfl ?_
  refine sw_iconst (x := 1) O (xx_dt dd_X2_leaveOut 3 rfl) (by decide) ?_
  refine sw_iload_n O (xx_dt dd_X2_leaveOut 4 rfl) rfl ?_
  refine sw_ishl O (xx_dt dd_X2_leaveOut 5 rfl) ?_
  refine sw_ior O (xx_dt dd_X2_leaveOut 6 rfl) ?_
  refine sw_put (h2 := setC (u2 σ 1003 5 ((σ 1003 5) ||| (1 <<< ((nI i) &&& 31)))) h) O (xx_dt dd_X2_leaveOut 7 rfl) cl_X2 fl_X2_50 (ly_1003 σ h) (by decide) (by decide) rfl (fun _ => ⟨rfl, rfl⟩) pu_1003_5 ?_
  refine sw_aload_n O (xx_dt dd_X2_leaveOut 8 rfl) rfl ?_
  refine sw_callVx (as := []) (st := []) (st2 := []) O (ct_X2_findWinners hl (σ := u2 σ 1003 5 ((σ 1003 5) ||| (1 <<< ((nI i) &&& 31))))) ce_X2_findWinners ml_X2_75 iv_X2_findWinners cl_X2 rfl (ly_1003 (u2 σ 1003 5 ((σ 1003 5) ||| (1 <<< ((nI i) &&& 31)))) h) (xx_dt dd_X2_leaveOut 9 rfl) (by first | decide | omega) rfl rfl (Nat.le_of_ble_eq_true rfl) rfl ?_
  exact sw_ret O (xx_dt dd_X2_leaveOut 10 rfl) rfl (by rw [hQ]; exact ⟨rfl, by unfold g_leaveOut; rfl⟩)
theorem fr_leaveOut {σ : XS9} {i : Nat} {q : Nat} (h : q ≠ 1003 ∧ q ≠ 1040 ∧ q ≠ 1041) : g_leaveOut σ i q = σ q := by
  unfold g_leaveOut
  (repeat' split) <;> first | rfl | simp (disch := omega) only [u2_ne, uR_ne, fr_fill, fr_useWaiver, fr_undoContradictions, fr_lowerEligible, fr_moveHeld, fr_raisePrices, fr_begin, fr_closeRound, fr_moveTaken, fr_findDisturbed, fr_addRegion, fr_addBidder, fr_take, fr_giveBack, fr_keepIfBetter, fr_findWinners]
theorem xitR_keep {S R : Type} {step : Nat → S → S ⊕ R} {A : Type} (π : S → A) (πR : R → A) (h : ∀ i s s', step i s = .inl s' → π s' = π s) (hR : ∀ i s r, step i s = .inr r → πR r = π s) : ∀ (f i : Nat) (s : S), Sum.elim π πR (xitR step f i s) = π s
  | 0, _, _ => rfl
  | f + 1, i, s => by
    unfold xitR
    cases e : step i s with
    | inl s' => exact (xitR_keep π πR h hR f (i + 1) s').trans (h i s s' e)
    | inr r => exact hR i s r e
theorem fr_raiseEach {σ : XS9} {x y z : Int32} {q : Nat} (h : q ≠ 1131 + 2) : g_raiseEach σ x y z q = σ q := by
  have H0 : ∀ s0, (x_raiseEach_6 σ x y z s0).1 q = s0.1 q := fun s0 => xit_keep (fun s : XS9 × Int32 => s.1 q) (fun i s => by (try dsimp only); (repeat' split) <;> first | rfl | simp (disch := omega) only [u2_ne, uR_ne, fr_fill, fr_useWaiver, fr_undoContradictions, fr_lowerEligible, fr_moveHeld, fr_raisePrices, fr_begin, fr_closeRound, fr_moveTaken, fr_findDisturbed, fr_addRegion, fr_addBidder, fr_take, fr_giveBack, fr_keepIfBetter, fr_findWinners, fr_leaveOut]) _ _ _
  unfold g_raiseEach
  (repeat' split) <;> first | rfl | simp (disch := omega) only [u2_ne, uR_ne, fr_fill, fr_useWaiver, fr_undoContradictions, fr_lowerEligible, fr_moveHeld, fr_raisePrices, fr_begin, fr_closeRound, fr_moveTaken, fr_findDisturbed, fr_addRegion, fr_addBidder, fr_take, fr_giveBack, fr_keepIfBetter, fr_findWinners, fr_leaveOut, H0]
theorem fr_raiseOutside {σ : XS9} {x y : Int32} {q : Nat} (h : q ≠ 1131 + 2) : g_raiseOutside σ x y q = σ q := by
  have H0 : ∀ s0, (x_raiseOutside_5 σ x y s0).1 q = s0.1 q := fun s0 => xitB_keep (fun s : XS9 × Int32 => s.1 q) (fun i s s' e => by
    revert e
    (try dsimp only)
    (repeat' split) <;> intro e <;> rcases e with e | e <;> first | (cases e; done) | (injection e with e; subst e; first | exact fr_raiseEach h | rfl)) _ _ _
  unfold g_raiseOutside
  rw [fr_raiseEach h]
  exact H0 _
theorem fr_find {σ : XS9} {q : Nat} (h : q ≠ 1131 ∧ q ≠ 1132 ∧ q ≠ 1133) : g_find σ q = σ q := by
  have H0 : ∀ s0, x_find_2 σ s0 q = s0 q := fun s0 => xit_keep (fun s : XS9 => s q) (fun i s => by (try dsimp only); simp (disch := omega) only [u2_ne]) _ _ _
  have H1 : ∀ s0, Sum.elim (fun s : XS9 => s q) (fun s : XS9 => s q) (x_find_53 σ s0) = s0 q := fun s0 => by
   unfold x_find_53
   exact xitR_keep (fun s : XS9 => s q) (fun s : XS9 => s q) (fun i s s' e => by
    revert e
    (try dsimp only)
    split <;> intro e
    · cases e
    · exact (congrFun (Sum.inl.inj e) q).symm.trans (fr_raiseOutside (by omega))) (fun i s r e => by
    revert e
    (try dsimp only)
    split <;> intro e
    · exact (congrFun (Sum.inr.inj e) q).symm
    · cases e) _ _ _
  unfold g_find
  rw [← H0 σ, ← H1 (x_find_2 σ σ)]
  cases x_find_53 σ (x_find_2 σ σ) <;> rfl
end
section
/-! ===== the end of the clock ===== -/
def x_endClock_7 (σ : XS9) (R B K : Nat) (gr : Nat → Nat) (s0 : XS9) : XS9 := xit (fun i7 s7 => (if (s7 (2000 + 2) i7) = 0 then s7 else g_addM s7 i7 (s7 (2000 + 2) i7) (f_lastValue s7 2000 (s7 (2000 + 2) i7) K) R B gr (fun j => cn (s7 1020 j)))) B 0 s0
def g_endClock (σ : XS9) (R B K : Nat) (gr : Nat → Nat) : XS9 := g_find (x_endClock_7 σ R B K gr (u2 σ 1000 7 2))
theorem ct_X7_endClock {l : Launch} {h : XH} (hl : l.stackTraces = false) {σ : XS9} {R : Nat} (hR : σ 1001 4 = nI R) (hR5 : R ≤ 5) {B : Nat} (hB : σ 1001 9 = nI B) (hB6 : B ≤ 6) {gr : Nat → Nat} (hgr : ∀ i, i < 6 → σ 1017 i = nI (gr i) ∧ gr i < 4) {K : Nat} (hK : σ 2000 9 = nI (K + 1)) (hK60 : K < 60) (hxc : XCT σ) : XEx l m_X7_endClock 10 0 0 [.ref 1000] (setC σ h) (none) (setC (g_endClock σ R B K gr) h) := by
  refine XMet.of hl rfl rfl (Nat.le_of_ble_eq_true rfl) (fun Y O hh hQ => ?_)
  show SW Y 0 0 (setC σ h) 0 [.ref 1000, xx_d, xx_d] []
  refine sw_aload_n O (xx_dt dd_X7_endClock 0 rfl) rfl ?_
  refine sw_iconst (x := 2) O (xx_dt dd_X7_endClock 1 rfl) (by decide) ?_
  refine sw_put (h2 := setC (u2 σ 1000 7 2) h) O (xx_dt dd_X7_endClock 2 rfl) cl_X7 fl_X7_54 (ly_1000 σ h) (by decide) (by decide) rfl (fun _ => ⟨rfl, rfl⟩) pu_1000_7 ?_
  refine sw_iconst (x := 0) O (xx_dt dd_X7_endClock 3 rfl) (by decide) ?_
  refine sw_istore_n (ls2 := [.ref 1000, .int 0, xx_d]) O (xx_dt dd_X7_endClock 4 rfl) (by decide) rfl ?_
  refine sw_for (fun i7 s7 => (if (s7 (2000 + 2) i7) = 0 then s7 else g_addM s7 i7 (s7 (2000 + 2) i7) (f_lastValue s7 2000 (s7 (2000 + 2) i7) K) R B gr (fun j => cn (s7 1020 j)))) (fun _ s7 => s7 1001 4 = nI R ∧ s7 1001 9 = nI B ∧ s7 2000 9 = nI (K + 1) ∧ s7 1017 = σ 1017 ∧ XCT s7) (hp := fun s7 => setC s7 h) (hd := 7) (lc := fun i7 s7 => [.ref 1000, .int (nI i7), xx_d]) (N := B) (fun i7 s7 hi7 hP7 => ⟨(by (try dsimp only); (repeat' split) <;> (refine ⟨?_, ?_, ?_, ?_, ?_⟩ <;> (first | exact hP7.1 | exact hP7.2.1 | exact hP7.2.2.1 | exact hP7.2.2.2.1 | exact hP7.2.2.2.2 | exact XCT.add hP7.2.2.2.2 (by omega) (fun i9 hi9 => (hgr i9 hi9).2) | exact (by rw [fr_addM ⟨by omega, by omega, fun i9 hi9 => (hgr i9 hi9).2⟩ (hP7.2.2.2.2 _ (by omega)).2]; first | exact hP7.1 | exact hP7.2.1 | exact hP7.2.2.1 | exact hP7.2.2.2.1) | exact hi7 | exact .inl rfl | exact .inr rfl | (simp (disch := omega) only [u2_ne, uR_ne, fr_fill, fr_useWaiver, fr_undoContradictions, fr_lowerEligible, fr_moveHeld, fr_raisePrices, fr_begin, fr_closeRound, fr_moveTaken, fr_findDisturbed, fr_addRegion, fr_addBidder, fr_take, fr_giveBack, fr_keepIfBetter, fr_findWinners, fr_leaveOut, fr_raiseEach, fr_raiseOutside, fr_find]; first | exact hP7.1 | exact hP7.2.1 | exact hP7.2.2.1 | exact hP7.2.2.2.1 | exact hP7.2.2.2.2 | exact XCT.add hP7.2.2.2.2 (by omega) (fun i9 hi9 => (hgr i9 hi9).2) | exact (by rw [fr_addM ⟨by omega, by omega, fun i9 hi9 => (hgr i9 hi9).2⟩ (hP7.2.2.2.2 _ (by omega)).2]; first | exact hP7.1 | exact hP7.2.1 | exact hP7.2.2.1 | exact hP7.2.2.2.1))))), fun kk7 => ?_⟩) B 0 (u2 σ 1000 7 2) (by omega) (⟨hR, hB, hK, rfl, hxc.of rfl⟩) (fun hP7 => ?_)
  · refine sw_iload_n O (xx_dt dd_X7_endClock 5 rfl) rfl ?_
    refine sw_aload_n O (xx_dt dd_X7_endClock 6 rfl) rfl ?_
    refine sw_get (v := .ref 1001) O (xx_dt dd_X7_endClock 7 rfl) cl_X7 fl_X7_12 (ly_1000 s7 h) (by decide) rfl ?_
    refine sw_get (v := .int (nI B)) O (xx_dt dd_X7_endClock 8 rfl) cl_X6 fl_X7_100 (ly_1001 s7 h) (by decide) (congrArg Value.int hP7.2.1) ?_
    refine sw_icmp_ge (tgt := 59) O (xx_dt dd_X7_endClock 9 rfl) (by decide) (fun q1 => ?_) (fun q1 => ?_)
    · exact absurd q1 (nI_ge (b := B) hi7 (by omega))
    · refine sw_aload_n O (xx_dt dd_X7_endClock 10 rfl) rfl ?_
      refine sw_get (v := .ref 2000) O (xx_dt dd_X7_endClock 11 rfl) cl_X7 fl_X7_19 (ly_1000 s7 h) (by decide) rfl ?_
      refine sw_get (v := .ref (2000 + 2)) O (xx_dt dd_X7_endClock 12 rfl) cl_X1 fl_X7_249 (lk_0 s7 h (.inl rfl)) (by decide) rfl ?_
      refine sw_iload_n O (xx_dt dd_X7_endClock 13 rfl) rfl ?_
      refine sw_iaload (v := .int (s7 (2000 + 2) i7)) O (xx_dt dd_X7_endClock 14 rfl) (lk_2 s7 h (.inl rfl)) (pk_in i7 _ (by omega)) (by rw [nI_clamp (by omega)]; try exact rfl) ?_
      refine sw_istore_n (ls2 := [.ref 1000, .int (nI i7), .int (s7 (2000 + 2) i7)]) O (xx_dt dd_X7_endClock 15 rfl) (by decide) rfl ?_
      refine sw_iload_n O (xx_dt dd_X7_endClock 16 rfl) rfl ?_
      refine sw_if_eq (tgt := 53) O (xx_dt dd_X7_endClock 17 rfl) (by decide) (fun q2 => ?_) (fun q2 => ?_)
      · refine sw_iinc (y := nI (i7 + 1)) (ls2 := [.ref 1000, .int (nI (i7 + 1)), .int (s7 (2000 + 2) i7)]) O (xx_dt dd_X7_endClock 29 rfl) rfl (nI_1 _) (by decide) rfl ?_
        refine sw_goto (tgt := 7) O (xx_dt dd_X7_endClock 30 rfl) (by decide) ?_
        refine sw_dum (ls2 := [.ref 1000, .int (nI (i7 + 1)), xx_d]) ⟨.inr rfl, .inr rfl, .inl rfl, trivial⟩ ?_
        simp only [if_pos q2] at kk7
        exact kk7
      · refine sw_aload_n O (xx_dt dd_X7_endClock 18 rfl) rfl ?_
        refine sw_get (v := .ref 1003) O (xx_dt dd_X7_endClock 19 rfl) cl_X7 fl_X7_29 (ly_1000 s7 h) (by decide) rfl ?_
        refine sw_aload_n O (xx_dt dd_X7_endClock 20 rfl) rfl ?_
        refine sw_get (v := .ref 1001) O (xx_dt dd_X7_endClock 21 rfl) cl_X7 fl_X7_12 (ly_1000 s7 h) (by decide) rfl ?_
        refine sw_iload_n O (xx_dt dd_X7_endClock 22 rfl) rfl ?_
        refine sw_iload_n O (xx_dt dd_X7_endClock 23 rfl) rfl ?_
        refine sw_aload_n O (xx_dt dd_X7_endClock 24 rfl) rfl ?_
        refine sw_get (v := .ref 2000) O (xx_dt dd_X7_endClock 25 rfl) cl_X7 fl_X7_19 (ly_1000 s7 h) (by decide) rfl ?_
        refine sw_iload_n O (xx_dt dd_X7_endClock 26 rfl) rfl ?_
        refine sw_callVx (as := [.int (s7 (2000 + 2) i7)]) (st := [.int (s7 (2000 + 2) i7), .int (nI i7), .ref 1001, .ref 1003]) (st2 := [.int (f_lastValue s7 2000 (s7 (2000 + 2) i7) K), .int (s7 (2000 + 2) i7), .int (nI i7), .ref 1001, .ref 1003]) O (ct_X1_lastValue hl (σ := s7) (b := 2000) (.inl rfl) (c := s7 (2000 + 2) i7) (K := K) hP7.2.2.1 (by omega)) ce_X1_lastValue ml_X7_384 iv_X1_lastValue cl_X1 rfl (lk_0 s7 h (.inl rfl)) (xx_dt dd_X7_endClock 27 rfl) (by first | decide | omega) rfl rfl (Nat.le_of_ble_eq_true rfl) rfl ?_
        refine sw_callVx (as := [.ref 1001, .int (nI i7), .int (s7 (2000 + 2) i7), .int (f_lastValue s7 2000 (s7 (2000 + 2) i7) K)]) (st := []) (st2 := []) O (ct_X2_add hl (σ := s7) (R := R) hP7.1 (by omega) (B := B) hP7.2.1 (by omega) (gr := gr) (fun j9 hj9 => by rw [show s7 1017 = σ 1017 from hP7.2.2.2.1]; exact hgr j9 hj9) (cnt := fun j => cn (s7 1020 j)) hP7.2.2.2.2 (i := i7) (x := s7 (2000 + 2) i7) (y := f_lastValue s7 2000 (s7 (2000 + 2) i7) K) (by omega)) ce_X2_add ml_X7_182 iv_X2_add cl_X2 rfl (ly_1003 s7 h) (xx_dt dd_X7_endClock 28 rfl) (by first | decide | omega) rfl rfl (Nat.le_of_ble_eq_true rfl) rfl ?_
        refine sw_iinc (y := nI (i7 + 1)) (ls2 := [.ref 1000, .int (nI (i7 + 1)), .int (s7 (2000 + 2) i7)]) O (xx_dt dd_X7_endClock 29 rfl) rfl (nI_1 _) (by decide) rfl ?_
        refine sw_goto (tgt := 7) O (xx_dt dd_X7_endClock 30 rfl) (by decide) ?_
        refine sw_dum (ls2 := [.ref 1000, .int (nI (i7 + 1)), xx_d]) ⟨.inr rfl, .inr rfl, .inl rfl, trivial⟩ ?_
        simp only [if_neg q2] at kk7
        exact kk7
  · show SW Y _ _ (setC (x_endClock_7 σ R B K gr (u2 σ 1000 7 2)) h) 7 [.ref 1000, .int (nI B), xx_d] []
    have hP7 : (x_endClock_7 σ R B K gr (u2 σ 1000 7 2)) 1001 4 = nI R ∧ (x_endClock_7 σ R B K gr (u2 σ 1000 7 2)) 1001 9 = nI B ∧ (x_endClock_7 σ R B K gr (u2 σ 1000 7 2)) 2000 9 = nI (K + 1) ∧ (x_endClock_7 σ R B K gr (u2 σ 1000 7 2)) 1017 = σ 1017 ∧ XCT (x_endClock_7 σ R B K gr (u2 σ 1000 7 2)) := hP7
    refine sw_iload_n O (xx_dt dd_X7_endClock 5 rfl) rfl ?_
    refine sw_aload_n O (xx_dt dd_X7_endClock 6 rfl) rfl ?_
    refine sw_get (v := .ref 1001) O (xx_dt dd_X7_endClock 7 rfl) cl_X7 fl_X7_12 (ly_1000 (x_endClock_7 σ R B K gr (u2 σ 1000 7 2)) h) (by decide) rfl ?_
    refine sw_get (v := .int (nI B)) O (xx_dt dd_X7_endClock 8 rfl) cl_X6 fl_X7_100 (ly_1001 (x_endClock_7 σ R B K gr (u2 σ 1000 7 2)) h) (by decide) (congrArg Value.int hP7.2.1) ?_
    refine sw_icmp_ge (tgt := 59) O (xx_dt dd_X7_endClock 9 rfl) (by decide) (fun q1 => ?_) (fun q1 => ?_)
    · refine sw_aload_n O (xx_dt dd_X7_endClock 31 rfl) rfl ?_
      refine sw_get (v := .ref 1004) O (xx_dt dd_X7_endClock 32 rfl) cl_X7 fl_X7_36 (ly_1000 (x_endClock_7 σ R B K gr (u2 σ 1000 7 2)) h) (by decide) rfl ?_
      refine sw_aload_n O (xx_dt dd_X7_endClock 33 rfl) rfl ?_
      refine sw_get (v := .ref 1003) O (xx_dt dd_X7_endClock 34 rfl) cl_X7 fl_X7_29 (ly_1000 (x_endClock_7 σ R B K gr (u2 σ 1000 7 2)) h) (by decide) rfl ?_
      refine sw_callVx (as := [.ref 1003]) (st := []) (st2 := []) O (ct_X4_find hl (σ := (x_endClock_7 σ R B K gr (u2 σ 1000 7 2)))) ce_X4_find ml_X7_186 iv_X4_find cl_X4 rfl (ly_1004 (x_endClock_7 σ R B K gr (u2 σ 1000 7 2)) h) (xx_dt dd_X7_endClock 35 rfl) (by first | decide | omega) rfl rfl (Nat.le_of_ble_eq_true rfl) rfl ?_
      exact sw_ret O (xx_dt dd_X7_endClock 36 rfl) rfl (by rw [hQ]; exact ⟨rfl, by unfold g_endClock; rfl⟩)
    · exact absurd (Int32.le_refl _) q1
theorem endClock_loop {σ : XS9} {R B K : Nat} {gr : Nat → Nat} (hB6 : B ≤ 6) (hg : ∀ i, i < 6 → gr i < 4) {s0 : XS9} (hc : XCT s0) : XCT (x_endClock_7 σ R B K gr s0) ∧ ∀ q, (q < 1020 ∨ 1124 < q) → x_endClock_7 σ R B K gr s0 q = s0 q := by
  unfold x_endClock_7
  refine xit_inv (fun s => XCT s ∧ ∀ q, (q < 1020 ∨ 1124 < q) → s q = s0 q) (N := B) (fun i s hi hP => ?_) B 0 s0 (by omega) ⟨hc, fun _ _ => rfl⟩
  (try dsimp only)
  split
  · exact hP
  · exact ⟨XCT.add hP.1 (by omega) hg, fun q hq => (fr_addM ⟨by omega, hq, hg⟩ (hP.1 _ (by omega)).2).trans (hP.2 q hq)⟩
theorem fr_endClock {σ : XS9} {R B K : Nat} {gr : Nat → Nat} (hB6 : B ≤ 6) (hg : ∀ i, i < 6 → gr i < 4) (hc : XCT σ) : XCT (g_endClock σ R B K gr) ∧ ∀ q, (q ≠ 1000 ∧ (q < 1020 ∨ 1124 < q) ∧ q ≠ 1131 ∧ q ≠ 1132 ∧ q ≠ 1133) → g_endClock σ R B K gr q = σ q := by
  have H := endClock_loop (σ := σ) (R := R) (K := K) hB6 hg (s0 := u2 σ 1000 7 2) (hc.of rfl)
  unfold g_endClock
  refine ⟨H.1.of (fr_find (by omega)), fun q h => ?_⟩
  rw [fr_find (by omega), H.2 q h.2.1, u2_ne h.1]
def XK (σ : XS9) : Prop := σ 2000 9 = nI (cn (σ 2000 9)) ∧ cn (σ 2000 9) ≤ 60
def IC (σ : XS9) (R B : Nat) (s : XS9) : Prop := s 1001 4 = nI R ∧ s 1001 9 = nI B ∧ s 1017 = σ 1017 ∧ XCT s ∧ XK s
theorem rounds_closeRound' {σ : XS9} {b B R K : Nat} {x : Int32} (hK : K ≤ 60) (hk : σ b 9 = nI K) : g_closeRound σ b x B R K b 9 = nI (min K 59 + 1) := by
  by_cases h : K < 60
  · rw [rounds_closeRound h]
    congr 1
    omega
  · obtain rfl : K = 60 := by omega
    unfold g_closeRound
    rw [if_neg (by decide)]
    exact hk
theorem IC.close {σ : XS9} {R B : Nat} {s : XS9} {x : Int32} (h : IC σ R B s) : IC σ R B (g_closeRound s 2000 x B R (cn (s 2000 9))) := by
  have h60 := h.2.2.2.2.2
  refine ⟨(congrFun (fr_closeRound (by omega)) 4).trans h.1, (congrFun (fr_closeRound (by omega)) 9).trans h.2.1, (fr_closeRound (by omega)).trans h.2.2.1, h.2.2.2.1.of (fr_closeRound (by omega)), ?_⟩
  unfold XK
  rw [rounds_closeRound' h60 h.2.2.2.2.1, cn_nI (by omega)]
  exact ⟨rfl, by omega⟩
theorem IC.endC {σ : XS9} {R B K : Nat} {gr : Nat → Nat} {s : XS9} (hB6 : B ≤ 6) (hg : ∀ i, i < 6 → gr i < 4) (h : IC σ R B s) : IC σ R B (g_endClock s R B K gr) := by
  have H := fr_endClock (R := R) (K := K) hB6 hg h.2.2.2.1
  refine ⟨(congrFun (H.2 _ (by omega)) 4).trans h.1, (congrFun (H.2 _ (by omega)) 9).trans h.2.1, (H.2 _ (by omega)).trans h.2.2.1, H.1, ?_⟩
  unfold XK
  rw [H.2 2000 (by omega)]
  exact h.2.2.2.2
theorem close_pres {σ : XS9} {R B : Nat} {gr : Nat → Nat} {s14 : XS9} (hB6 : B ≤ 6) (hg : ∀ i, i < 6 → gr i < 4) (h : IC σ R B s14) :
    (∀ s', (if (s14 1000 7) = 1 then (if (f_closeRound s14 2000 (s14 1000 8) B R (cn (s14 2000 9))) = 0 then .inl (g_closeRound s14 2000 (s14 1000 8) B R (cn (s14 2000 9))) else .inl (g_endClock (g_closeRound s14 2000 (s14 1000 8) B R (cn (s14 2000 9))) R B (min (cn (s14 2000 9)) 59) gr)) else .inr s14 : XS9 ⊕ XS9) = .inl s' → IC σ R B s') ∧
    ∀ s', (if (s14 1000 7) = 1 then (if (f_closeRound s14 2000 (s14 1000 8) B R (cn (s14 2000 9))) = 0 then .inl (g_closeRound s14 2000 (s14 1000 8) B R (cn (s14 2000 9))) else .inl (g_endClock (g_closeRound s14 2000 (s14 1000 8) B R (cn (s14 2000 9))) R B (min (cn (s14 2000 9)) 59) gr)) else .inr s14 : XS9 ⊕ XS9) = .inr s' → IC σ R B s' := by
  refine ⟨fun s' e => ?_, fun s' e => ?_⟩
  · by_cases c1 : s14 1000 7 = 1
    · rw [if_pos c1] at e
      by_cases c2 : f_closeRound s14 2000 (s14 1000 8) B R (cn (s14 2000 9)) = 0
      · rw [if_pos c2] at e
        rw [← Sum.inl.inj e]
        exact h.close
      · rw [if_neg c2] at e
        rw [← Sum.inl.inj e]
        exact h.close.endC hB6 hg
    · rw [if_neg c1] at e
      exact absurd e (by intro e; cases e)
  · by_cases c1 : s14 1000 7 = 1
    · rw [if_pos c1] at e
      by_cases c2 : f_closeRound s14 2000 (s14 1000 8) B R (cn (s14 2000 9)) = 0
      · rw [if_pos c2] at e
        exact absurd e (by intro e; cases e)
      · rw [if_neg c2] at e
        exact absurd e (by intro e; cases e)
    · rw [if_neg c1] at e
      rw [← Sum.inr.inj e]
      exact h
def x_close_14 (σ : XS9) (x : Int32) (R B : Nat) (gr : Nat → Nat) (s0 : XS9) : XS9 := xitB (fun i14 s14 => (if (s14 1000 7) = 1 then (if (f_closeRound s14 2000 (s14 1000 8) B R (cn (s14 2000 9))) = 0 then .inl (g_closeRound s14 2000 (s14 1000 8) B R (cn (s14 2000 9))) else .inl (g_endClock (g_closeRound s14 2000 (s14 1000 8) B R (cn (s14 2000 9))) R B (min (cn (s14 2000 9)) 59) gr)) else .inr s14)) (cn x) 0 s0
def o_close (σ : XS9) (x : Int32) (R B : Nat) (gr : Nat → Nat) : Int32 ⊕ String := (if n_bt x 1 9 then (if σ 1000 7 = 1 then .inl ((x_close_14 σ x R B gr σ) 1000 7) else .inr eISE) else .inr eIAE)
def g_close (σ : XS9) (x : Int32) (R B : Nat) (gr : Nat → Nat) : XS9 := (if n_bt x 1 9 then (if σ 1000 7 = 1 then (x_close_14 σ x R B gr σ) else σ) else σ)
theorem ct_X7_close {l : Launch} {h : XH} (hl : l.stackTraces = false) {σ : XS9} {R : Nat} (hR : σ 1001 4 = nI R) (hR5 : R ≤ 5) {B : Nat} (hB : σ 1001 9 = nI B) (hB6 : B ≤ 6) {gr : Nat → Nat} (hgr : ∀ i, i < 6 → σ 1017 i = nI (gr i) ∧ gr i < 4) (hxc : XCT σ) (hxk : XK σ) {x : Int32} : XEo l m_X7_close 11 1 6 [.ref 1000, .int x] (setC σ h) ((xoi (o_close σ x R B gr))) (setC (g_close σ x R B gr) h) := by
  refine XMet.of hl rfl rfl (Nat.le_of_ble_eq_true rfl) (fun Y O hh hQ => ?_)
  show SW Y 1 6 (setC σ h) 0 [.ref 1000, .int x, xx_d] []
  refine sw_iload_n O (xx_dt dd_X7_close 0 rfl) rfl ?_
  refine sw_iconst (x := 1) O (xx_dt dd_X7_close 1 rfl) (by decide) ?_
  refine sw_bipush (x := 9) O (xx_dt dd_X7_close 2 rfl) (by decide) ?_
  by_cases q1 : n_bt x 1 9
  · refine sw_callSx (as := [.int x, .int 1, .int 9]) (st := []) (st2 := []) (k' := 0) (n' := 0) O (ct_X7_needBetween_ok hl  q1) ce_X7_needBetween ml_X7_61 st_X7_needBetween (xx_dt dd_X7_close 3 rfl) (by decide) rfl rfl (Nat.le_of_ble_eq_true rfl) rfl ?_
    refine sw_lsE (ls2 := [.ref 1000, .int (nI (cn x)), xx_d]) (by rw [← (bt_nat 9 q1 (by decide) (by decide) (by decide)).1]) ?_
    have hvq1 := (bt_nat 9 q1 (by decide) (by decide) (by decide)).2
    refine sw_aload_n O (xx_dt dd_X7_close 4 rfl) rfl ?_
    refine sw_iconst (x := 1) O (xx_dt dd_X7_close 5 rfl) (by decide) ?_
    by_cases q2 : σ 1000 7 = 1
    · refine sw_callVx (as := [.int 1]) (st := []) (st2 := []) (k' := 0) (n' := 0) O (ct_X7_needStage_ok hl (σ := σ) q2) ce_X7_needStage ml_X7_65 iv_X7_needStage cl_X7 rfl (ly_1000 σ h) (xx_dt dd_X7_close 6 rfl) (by decide) rfl rfl (Nat.le_of_ble_eq_true rfl) rfl ?_
      refine sw_iconst (x := 0) O (xx_dt dd_X7_close 7 rfl) (by decide) ?_
      refine sw_istore_n (ls2 := [.ref 1000, .int (nI (cn x)), .int 0]) O (xx_dt dd_X7_close 8 rfl) (by decide) rfl ?_
      refine sw_forB (fun i14 s14 => (if (s14 1000 7) = 1 then (if (f_closeRound s14 2000 (s14 1000 8) B R (cn (s14 2000 9))) = 0 then .inl (g_closeRound s14 2000 (s14 1000 8) B R (cn (s14 2000 9))) else .inl (g_endClock (g_closeRound s14 2000 (s14 1000 8) B R (cn (s14 2000 9))) R B (min (cn (s14 2000 9)) 59) gr)) else .inr s14)) (fun _ s14 => IC σ R B s14) (fun s14 => IC σ R B s14) (hp := fun s14 => setC s14 h) (hd := 14) (lc := fun i14 s14 => [.ref 1000, .int (nI (cn x)), .int (nI i14)]) (ex := 55) (lx := fun s14 => [.ref 1000, .int (nI (cn x)), xx_d]) (N := (cn x)) (fun i14 s14 hi14 hP14 => ⟨(close_pres hB6 (fun i9 hi9 => (hgr i9 hi9).2) hP14), fun kk14 kb14 => ?_⟩) (fun s14 hP14 => ⟨hP14, fun kx14 => ?_⟩) (cn x) 0 σ (by omega) (⟨hR, hB, rfl, hxc, hxk⟩) (fun hP14 => ?_)
      · refine sw_iload_n O (xx_dt dd_X7_close 9 rfl) rfl ?_
        refine sw_iload_n O (xx_dt dd_X7_close 10 rfl) rfl ?_
        refine sw_icmp_ge (tgt := 55) O (xx_dt dd_X7_close 11 rfl) (by decide) (fun q3 => ?_) (fun q3 => ?_)
        · exact absurd q3 (nI_ge (b := (cn x)) hi14 (by omega))
        · have hk60 := hP14.2.2.2.2.2
          refine sw_aload_n O (xx_dt dd_X7_close 12 rfl) rfl ?_
          refine sw_get (v := .int (s14 1000 7)) O (xx_dt dd_X7_close 13 rfl) cl_X7 fl_X7_54 (ly_1000 s14 h) (by decide) rfl ?_
          refine sw_iconst (x := 1) O (xx_dt dd_X7_close 14 rfl) (by decide) ?_
          refine sw_icmp_ne (tgt := 55) O (xx_dt dd_X7_close 15 rfl) (by decide) (fun q4 => ?_) (fun q4 => ?_)
          · refine sw_dum (ls2 := [.ref 1000, .int (nI (cn x)), xx_d]) ⟨.inr rfl, .inr rfl, .inl rfl, trivial⟩ ?_
            exact kb14 s14 (by simp only [if_neg q4])
          · refine sw_aload_n O (xx_dt dd_X7_close 16 rfl) rfl ?_
            refine sw_get (v := .ref 2000) O (xx_dt dd_X7_close 17 rfl) cl_X7 fl_X7_19 (ly_1000 s14 h) (by decide) rfl ?_
            refine sw_aload_n O (xx_dt dd_X7_close 18 rfl) rfl ?_
            refine sw_get (v := .ref 1001) O (xx_dt dd_X7_close 19 rfl) cl_X7 fl_X7_12 (ly_1000 s14 h) (by decide) rfl ?_
            refine sw_aload_n O (xx_dt dd_X7_close 20 rfl) rfl ?_
            refine sw_get (v := .int (s14 1000 8)) O (xx_dt dd_X7_close 21 rfl) cl_X7 fl_X7_58 (ly_1000 s14 h) (by decide) rfl ?_
            refine sw_callVx (as := [.ref 1001, .int (s14 1000 8)]) (st := []) (st2 := [.int (f_closeRound s14 2000 (s14 1000 8) B R (cn (s14 2000 9)))]) O (ct_X1_closeRound hl (σ := s14) (b := 2000) (.inl rfl) (B := B) hP14.2.1 (by omega) (R := R) hP14.1 (by omega) (K := cn (s14 2000 9)) hP14.2.2.2.2.1 (by omega) (x := s14 1000 8)) ce_X1_closeRound ml_X7_161 iv_X1_closeRound cl_X1 rfl (lk_0 s14 h (.inl rfl)) (xx_dt dd_X7_close 22 rfl) (by first | decide | omega) rfl rfl (Nat.le_of_ble_eq_true rfl) rfl ?_
            refine sw_if_eq (tgt := 49) O (xx_dt dd_X7_close 23 rfl) (by decide) (fun q5 => ?_) (fun q5 => ?_)
            · refine sw_iinc (y := nI (i14 + 1)) (ls2 := [.ref 1000, .int (nI (cn x)), .int (nI (i14 + 1))]) O (xx_dt dd_X7_close 26 rfl) rfl (nI_1 _) (by decide) rfl ?_
              refine sw_goto (tgt := 14) O (xx_dt dd_X7_close 27 rfl) (by decide) ?_
              exact kk14 (g_closeRound s14 2000 (s14 1000 8) B R (cn (s14 2000 9))) (by simp only [if_pos q4, if_pos q5])
            · refine sw_aload_n O (xx_dt dd_X7_close 24 rfl) rfl ?_
              refine sw_callVx (as := []) (st := []) (st2 := []) O (ct_X7_endClock hl (σ := g_closeRound s14 2000 (s14 1000 8) B R (cn (s14 2000 9))) (R := R) ((congrFun (fr_closeRound (by omega)) 4).trans hP14.1) (by omega) (B := B) ((congrFun (fr_closeRound (by omega)) 9).trans hP14.2.1) (by omega) (gr := gr) (fun j9 hj9 => by rw [show (g_closeRound s14 2000 (s14 1000 8) B R (cn (s14 2000 9))) 1017 = σ 1017 from ((fr_closeRound (by omega)).trans hP14.2.2.1)]; exact hgr j9 hj9) (K := min (cn (s14 2000 9)) 59) (rounds_closeRound' (by omega) hP14.2.2.2.2.1) (by omega) (hP14.2.2.2.1.of (fr_closeRound (by omega)))) ce_X7_endClock ml_X7_165 iv_X7_endClock cl_X7 rfl (ly_1000 (g_closeRound s14 2000 (s14 1000 8) B R (cn (s14 2000 9))) h) (xx_dt dd_X7_close 25 rfl) (by first | decide | omega) rfl rfl (Nat.le_of_ble_eq_true rfl) rfl ?_
              refine sw_iinc (y := nI (i14 + 1)) (ls2 := [.ref 1000, .int (nI (cn x)), .int (nI (i14 + 1))]) O (xx_dt dd_X7_close 26 rfl) rfl (nI_1 _) (by decide) rfl ?_
              refine sw_goto (tgt := 14) O (xx_dt dd_X7_close 27 rfl) (by decide) ?_
              exact kk14 (g_endClock (g_closeRound s14 2000 (s14 1000 8) B R (cn (s14 2000 9))) R B (min (cn (s14 2000 9)) 59) gr) (by simp only [if_pos q4, if_neg q5])
      · show SW Y _ _ (setC s14 h) 14 [.ref 1000, .int (nI (cn x)), .int (nI ((cn x)))] []
        have hP14 : IC σ R B s14 := hP14
        refine sw_iload_n O (xx_dt dd_X7_close 9 rfl) rfl ?_
        refine sw_iload_n O (xx_dt dd_X7_close 10 rfl) rfl ?_
        refine sw_icmp_ge (tgt := 55) O (xx_dt dd_X7_close 11 rfl) (by decide) (fun q3 => ?_) (fun q3 => ?_)
        · refine sw_dum (ls2 := [.ref 1000, .int (nI (cn x)), xx_d]) ⟨.inr rfl, .inr rfl, .inl rfl, trivial⟩ ?_
          exact kx14
        · exact absurd (Int32.le_refl _) q3
      · show SW Y _ _ (setC (x_close_14 σ x R B gr σ) h) 55 [.ref 1000, .int (nI (cn x)), xx_d] []
        refine sw_aload_n O (xx_dt dd_X7_close 28 rfl) rfl ?_
        refine sw_get (v := .int ((x_close_14 σ x R B gr σ) 1000 7)) O (xx_dt dd_X7_close 29 rfl) cl_X7 fl_X7_54 (ly_1000 (x_close_14 σ x R B gr σ) h) (by decide) rfl ?_
        exact sw_iret O (xx_dt dd_X7_close 30 rfl) rfl rfl (by rw [hQ]; exact ⟨by unfold o_close; simp only [if_pos q1, if_pos q2]; rfl, by unfold g_close; simp only [if_pos q1, if_pos q2]⟩)
    · exact sw_callVt (as := [.int 1]) (st := []) (k := 0) (n := 0) (k' := 1) (n' := 6) O (ct_X7_needStage_no hl (σ := σ) q2) ce_X7_needStage ml_X7_65 iv_X7_needStage cl_X7 rfl (ly_1000 σ h) (xx_dt dd_X7_close 6 rfl) (by decide) rfl rfl (Nat.le_of_ble_eq_true rfl)  (by rw [hQ]; exact ⟨by unfold o_close; simp only [if_pos q1, if_neg q2]; rfl, by unfold g_close; simp only [if_pos q1, if_neg q2]⟩)
  · exact sw_callSt (as := [.int x, .int 1, .int 9]) (st := []) (k := 0) (n := 0) (k' := 1) (n' := 6) O (ct_X7_needBetween_no hl  q1) ce_X7_needBetween ml_X7_61 st_X7_needBetween (xx_dt dd_X7_close 3 rfl) (by decide) rfl rfl (Nat.le_of_ble_eq_true rfl)  (by rw [hQ]; exact ⟨by unfold o_close; simp only [if_neg q1]; rfl, by unfold g_close; simp only [if_neg q1]⟩)
def o_offer (σ : XS9) (x y z : Int32) (R B : Nat) (gr cnt : Nat → Nat) : Int32 ⊕ String := (if n_lt x B then (if (f_isCode σ y R) = 0 then .inr eIAE else (if 0 ≤ z then (if σ 1000 7 = 2 then (if 6 ≤ (nI (cnt (cn x))) then .inr eISE else (if (f_mayOffer σ (cn x) y z R) = 0 then .inr eISE else .inl (nI (cnt (cn x))))) else .inr eISE) else .inr eIAE)) else .inr eIOB)
def g_offer (σ : XS9) (x y z : Int32) (R B : Nat) (gr cnt : Nat → Nat) : XS9 := (if n_lt x B then (if (f_isCode σ y R) = 0 then σ else (if 0 ≤ z then (if σ 1000 7 = 2 then (if 6 ≤ (nI (cnt (cn x))) then σ else (if (f_mayOffer σ (cn x) y z R) = 0 then σ else g_find (g_addM σ (cn x) y z R B gr cnt))) else σ) else σ)) else σ)
theorem ct_X7_offer {l : Launch} {h : XH} (hl : l.stackTraces = false) {σ : XS9} {R : Nat} (hR : σ 1001 4 = nI R) (hR5 : R ≤ 5) {B : Nat} (hB : σ 1001 9 = nI B) (hB6 : B ≤ 6) {gr : Nat → Nat} (hgr : ∀ i, i < 6 → σ 1017 i = nI (gr i) ∧ gr i < 4) {cnt : Nat → Nat} (hct : ∀ i, i < 6 → σ 1020 i = nI (cnt i) ∧ cnt i ≤ 6) {x y z : Int32} : XEo l m_X7_offer 10 1 6 [.ref 1000, .int x, .int y, .int z] (setC σ h) ((xoi (o_offer σ x y z R B gr cnt))) (setC (g_offer σ x y z R B gr cnt) h) := by
  refine XMet.of hl rfl rfl (Nat.le_of_ble_eq_true rfl) (fun Y O hh hQ => ?_)
  show SW Y 1 6 (setC σ h) 0 [.ref 1000, .int x, .int y, .int z, xx_d] []
  refine sw_aload_n O (xx_dt dd_X7_offer 0 rfl) rfl ?_
  refine sw_iload_n O (xx_dt dd_X7_offer 1 rfl) rfl ?_
  by_cases q1 : n_lt x B
  · refine sw_callVx (as := [.int x]) (st := []) (st2 := []) (k' := 0) (n' := 0) O (ct_X7_needBidder_ok hl (σ := σ) (B := B) hB (by omega) q1) ce_X7_needBidder ml_X7_124 iv_X7_needBidder cl_X7 rfl (ly_1000 σ h) (xx_dt dd_X7_offer 2 rfl) (by decide) rfl rfl (Nat.le_of_ble_eq_true rfl) rfl ?_
    refine sw_lsE (ls2 := [.ref 1000, .int (nI (cn x)), .int y, .int z, xx_d]) (by rw [← q1.1]) ?_
    have hvq1 := q1.2
    refine sw_aload_n O (xx_dt dd_X7_offer 3 rfl) rfl ?_
    refine sw_get (v := .ref 1001) O (xx_dt dd_X7_offer 4 rfl) cl_X7 fl_X7_12 (ly_1000 σ h) (by decide) rfl ?_
    refine sw_iload_n O (xx_dt dd_X7_offer 5 rfl) rfl ?_
    refine sw_callVx (as := [.int y]) (st := []) (st2 := [.int (f_isCode σ y R)]) O (ct_X6_isCode hl (σ := σ) (c := y) (R := R) hR (by omega)) ce_X6_isCode ml_X7_168 iv_X6_isCode cl_X6 rfl (ly_1001 σ h) (xx_dt dd_X7_offer 6 rfl) (by first | decide | omega) rfl rfl (Nat.le_of_ble_eq_true rfl) rfl ?_
    refine sw_if_eq (tgt := 20) O (xx_dt dd_X7_offer 7 rfl) (by decide) (fun q2 => ?_) (fun q2 => ?_)
    · exact sw_throw (k := 0) (n := 0) O ex_IAE th_X7_offer_20 (xx_dt dd_X7_offer 10 rfl) (xx_dt dd_X7_offer 11 rfl) (xx_dt dd_X7_offer 12 rfl) (xx_dt dd_X7_offer 13 rfl) (xx_dt dd_X7_offer 14 rfl) (by decide) (by decide) (by rw [hQ]; exact ⟨by unfold o_offer; simp only [if_pos q1, if_pos q2]; rfl, by unfold g_offer; simp only [if_pos q1, if_pos q2]⟩)
    · refine sw_iload_n O (xx_dt dd_X7_offer 8 rfl) rfl ?_
      refine sw_if_ge (tgt := 30) O (xx_dt dd_X7_offer 9 rfl) (by decide) (fun q3 => ?_) (fun q3 => ?_)
      · refine sw_aload_n O (xx_dt dd_X7_offer 15 rfl) rfl ?_
        refine sw_iconst (x := 2) O (xx_dt dd_X7_offer 16 rfl) (by decide) ?_
        by_cases q4 : σ 1000 7 = 2
        · refine sw_callVx (as := [.int 2]) (st := []) (st2 := []) (k' := 0) (n' := 0) O (ct_X7_needStage_ok hl (σ := σ) q4) ce_X7_needStage ml_X7_65 iv_X7_needStage cl_X7 rfl (ly_1000 σ h) (xx_dt dd_X7_offer 17 rfl) (by decide) rfl rfl (Nat.le_of_ble_eq_true rfl) rfl ?_
          refine sw_aload_n O (xx_dt dd_X7_offer 18 rfl) rfl ?_
          refine sw_get (v := .ref 1003) O (xx_dt dd_X7_offer 19 rfl) cl_X7 fl_X7_29 (ly_1000 σ h) (by decide) rfl ?_
          refine sw_get (v := .ref 1020) O (xx_dt dd_X7_offer 20 rfl) cl_X2 fl_X7_173 (ly_1003 σ h) (by decide) rfl ?_
          refine sw_iload_n O (xx_dt dd_X7_offer 21 rfl) rfl ?_
          have hz43 := (hct (cn x) (by omega)).2
          refine sw_iaload (v := .int (nI (cnt (cn x)))) O (xx_dt dd_X7_offer 22 rfl) (ly_1020 σ h) (pk_in (cn x) _ (by omega)) (by rw [nI_clamp (by omega)]; exact (congrArg Value.int (hct (cn x) (by omega)).1)) ?_
          refine sw_bipush (x := 6) O (xx_dt dd_X7_offer 23 rfl) (by decide) ?_
          refine sw_icmp_ge (tgt := 62) O (xx_dt dd_X7_offer 24 rfl) (by decide) (fun q5 => ?_) (fun q5 => ?_)
          · exact sw_throw (k := 0) (n := 0) O ex_ISE th_X7_offer_62 (xx_dt dd_X7_offer 32 rfl) (xx_dt dd_X7_offer 33 rfl) (xx_dt dd_X7_offer 34 rfl) (xx_dt dd_X7_offer 35 rfl) (xx_dt dd_X7_offer 36 rfl) (by decide) (by decide) (by rw [hQ]; exact ⟨by unfold o_offer; simp only [if_pos q1, if_neg q2, if_pos q3, if_pos q4, if_pos q5]; rfl, by unfold g_offer; simp only [if_pos q1, if_neg q2, if_pos q3, if_pos q4, if_pos q5]⟩)
          · refine sw_aload_n O (xx_dt dd_X7_offer 25 rfl) rfl ?_
            refine sw_get (v := .ref 1001) O (xx_dt dd_X7_offer 26 rfl) cl_X7 fl_X7_12 (ly_1000 σ h) (by decide) rfl ?_
            refine sw_iload_n O (xx_dt dd_X7_offer 27 rfl) rfl ?_
            refine sw_iload_n O (xx_dt dd_X7_offer 28 rfl) rfl ?_
            refine sw_iload_n O (xx_dt dd_X7_offer 29 rfl) rfl ?_
            refine sw_callVx (as := [.int (nI (cn x)), .int y, .int z]) (st := []) (st2 := [.int (f_mayOffer σ (cn x) y z R)]) O (ct_X6_mayOffer hl (σ := σ) (c := y) (x := z) (i := cn x) (by omega) (R := R) hR (by omega)) ce_X6_mayOffer ml_X7_176 iv_X6_mayOffer cl_X6 rfl (ly_1001 σ h) (xx_dt dd_X7_offer 30 rfl) (by first | decide | omega) rfl rfl (Nat.le_of_ble_eq_true rfl) rfl ?_
            refine sw_if_ne (tgt := 72) O (xx_dt dd_X7_offer 31 rfl) (by decide) (fun q6 => ?_) (fun q6 => ?_)
            · refine sw_aload_n O (xx_dt dd_X7_offer 37 rfl) rfl ?_
              refine sw_get (v := .ref 1003) O (xx_dt dd_X7_offer 38 rfl) cl_X7 fl_X7_29 (ly_1000 σ h) (by decide) rfl ?_
              refine sw_get (v := .ref 1020) O (xx_dt dd_X7_offer 39 rfl) cl_X2 fl_X7_173 (ly_1003 σ h) (by decide) rfl ?_
              refine sw_iload_n O (xx_dt dd_X7_offer 40 rfl) rfl ?_
              have hz80 := (hct (cn x) (by omega)).2
              refine sw_iaload (v := .int (nI (cnt (cn x)))) O (xx_dt dd_X7_offer 41 rfl) (ly_1020 σ h) (pk_in (cn x) _ (by omega)) (by rw [nI_clamp (by omega)]; exact (congrArg Value.int (hct (cn x) (by omega)).1)) ?_
              refine sw_istore (ls2 := [.ref 1000, .int (nI (cn x)), .int y, .int z, .int (nI (cnt (cn x)))]) O (xx_dt dd_X7_offer 42 rfl) (by decide) rfl ?_
              refine sw_aload_n O (xx_dt dd_X7_offer 43 rfl) rfl ?_
              refine sw_get (v := .ref 1003) O (xx_dt dd_X7_offer 44 rfl) cl_X7 fl_X7_29 (ly_1000 σ h) (by decide) rfl ?_
              refine sw_aload_n O (xx_dt dd_X7_offer 45 rfl) rfl ?_
              refine sw_get (v := .ref 1001) O (xx_dt dd_X7_offer 46 rfl) cl_X7 fl_X7_12 (ly_1000 σ h) (by decide) rfl ?_
              refine sw_iload_n O (xx_dt dd_X7_offer 47 rfl) rfl ?_
              refine sw_iload_n O (xx_dt dd_X7_offer 48 rfl) rfl ?_
              refine sw_iload_n O (xx_dt dd_X7_offer 49 rfl) rfl ?_
              refine sw_callVx (as := [.ref 1001, .int (nI (cn x)), .int y, .int z]) (st := []) (st2 := []) O (ct_X2_add hl (σ := σ) (R := R) hR (by omega) (B := B) hB (by omega) (gr := gr) hgr (cnt := cnt) hct (i := cn x) (x := y) (y := z) (by omega)) ce_X2_add ml_X7_182 iv_X2_add cl_X2 rfl (ly_1003 σ h) (xx_dt dd_X7_offer 50 rfl) (by first | decide | omega) rfl rfl (Nat.le_of_ble_eq_true rfl) rfl ?_
              refine sw_aload_n O (xx_dt dd_X7_offer 51 rfl) rfl ?_
              refine sw_get (v := .ref 1004) O (xx_dt dd_X7_offer 52 rfl) cl_X7 fl_X7_36 (ly_1000 (g_addM σ (cn x) y z R B gr cnt) h) (by decide) rfl ?_
              refine sw_aload_n O (xx_dt dd_X7_offer 53 rfl) rfl ?_
              refine sw_get (v := .ref 1003) O (xx_dt dd_X7_offer 54 rfl) cl_X7 fl_X7_29 (ly_1000 (g_addM σ (cn x) y z R B gr cnt) h) (by decide) rfl ?_
              refine sw_callVx (as := [.ref 1003]) (st := []) (st2 := []) O (ct_X4_find hl (σ := g_addM σ (cn x) y z R B gr cnt)) ce_X4_find ml_X7_186 iv_X4_find cl_X4 rfl (ly_1004 (g_addM σ (cn x) y z R B gr cnt) h) (xx_dt dd_X7_offer 55 rfl) (by first | decide | omega) rfl rfl (Nat.le_of_ble_eq_true rfl) rfl ?_
              refine sw_iload O (xx_dt dd_X7_offer 56 rfl) rfl ?_
              exact sw_iret O (xx_dt dd_X7_offer 57 rfl) rfl rfl (by rw [hQ]; exact ⟨by unfold o_offer; simp only [if_pos q1, if_neg q2, if_pos q3, if_pos q4, if_neg q5, if_neg q6]; rfl, by unfold g_offer; simp only [if_pos q1, if_neg q2, if_pos q3, if_pos q4, if_neg q5, if_neg q6]⟩)
            · exact sw_throw (k := 0) (n := 0) O ex_ISE th_X7_offer_62 (xx_dt dd_X7_offer 32 rfl) (xx_dt dd_X7_offer 33 rfl) (xx_dt dd_X7_offer 34 rfl) (xx_dt dd_X7_offer 35 rfl) (xx_dt dd_X7_offer 36 rfl) (by decide) (by decide) (by rw [hQ]; exact ⟨by unfold o_offer; simp only [if_pos q1, if_neg q2, if_pos q3, if_pos q4, if_neg q5, if_pos q6]; rfl, by unfold g_offer; simp only [if_pos q1, if_neg q2, if_pos q3, if_pos q4, if_neg q5, if_pos q6]⟩)
        · exact sw_callVt (as := [.int 2]) (st := []) (k := 0) (n := 0) (k' := 1) (n' := 6) O (ct_X7_needStage_no hl (σ := σ) q4) ce_X7_needStage ml_X7_65 iv_X7_needStage cl_X7 rfl (ly_1000 σ h) (xx_dt dd_X7_offer 17 rfl) (by decide) rfl rfl (Nat.le_of_ble_eq_true rfl)  (by rw [hQ]; exact ⟨by unfold o_offer; simp only [if_pos q1, if_neg q2, if_pos q3, if_neg q4]; rfl, by unfold g_offer; simp only [if_pos q1, if_neg q2, if_pos q3, if_neg q4]⟩)
      · exact sw_throw (k := 0) (n := 0) O ex_IAE th_X7_offer_20 (xx_dt dd_X7_offer 10 rfl) (xx_dt dd_X7_offer 11 rfl) (xx_dt dd_X7_offer 12 rfl) (xx_dt dd_X7_offer 13 rfl) (xx_dt dd_X7_offer 14 rfl) (by decide) (by decide) (by rw [hQ]; exact ⟨by unfold o_offer; simp only [if_pos q1, if_neg q2, if_neg q3]; rfl, by unfold g_offer; simp only [if_pos q1, if_neg q2, if_neg q3]⟩)
  · exact sw_callVt (as := [.int x]) (st := []) (k := 0) (n := 0) (k' := 1) (n' := 6) O (ct_X7_needBidder_no hl (σ := σ) (B := B) hB (by omega) q1) ce_X7_needBidder ml_X7_124 iv_X7_needBidder cl_X7 rfl (ly_1000 σ h) (xx_dt dd_X7_offer 2 rfl) (by decide) rfl rfl (Nat.le_of_ble_eq_true rfl)  (by rw [hQ]; exact ⟨by unfold o_offer; simp only [if_neg q1]; rfl, by unfold g_offer; simp only [if_neg q1]⟩)
end
section
/-! ===== names are given ===== -/
theorem min_nat {a b : Nat} (ha : a < 2147483648) (hb : b < 2147483648) : (if nI b < nI a then nI b else nI a) = nI (min a b) := by
  by_cases h : b < a
  · rw [if_pos ((nI_ltI hb ha).mpr h)]
    congr 1
    omega
  · rw [if_neg (fun e => h ((nI_ltI hb ha).mp e))]
    congr 1
    omega
theorem many_nat {c : Int32} (r : Nat) (h0 : 0 ≤ c) : f_many c r = nI (cn (f_many c r)) ∧ cn (f_many c r) ≤ 5 := by
  have h1 : ∃ k, k < 2147483648 ∧ x_many_4 c r c = nI k := by
    unfold x_many_4
    refine xit_inv (fun s : Int32 => ∃ k, k < 2147483648 ∧ s = nI k) (N := r) (fun i s hi hP => ?_) r 0 c (by omega) ?_
    · obtain ⟨k, hk, rfl⟩ := hP
      exact ⟨k / 6, by omega, nI_div (k := 6) hk (by decide) (by decide)⟩
    · obtain ⟨h3, h4⟩ := cn_of h0
      exact ⟨cn c, by have := Int32.toInt_lt c; omega, h3⟩
  obtain ⟨k, hk, e⟩ := h1
  have h2 : f_many c r = nI (k % 6) := by
    unfold f_many
    rw [e]
    exact nI_rem (k := 6) hk (by decide) (by decide)
  have h3 : k % 6 < 6 := Nat.mod_lt _ (by decide)
  rw [h2, cn_nI (by omega)]
  exact ⟨rfl, by omega⟩
def XCD (σ : XS9) : Prop := ∀ i k, i < 6 → k < 6 → 0 ≤ σ (1022 + i) k
theorem XCD.of {σ σ' : XS9} (h : XCD σ) (e : ∀ i9, i9 < 6 → σ' (1022 + i9) = σ (1022 + i9)) : XCD σ' := fun i k hi hk => by rw [e i hi]; exact h i k hi hk
def cbw (σ : XS9) (i r : Nat) : Nat := cn (f_blocksWon σ i r)
theorem cbw_ok {σ : XS9} {i r : Nat} (h : XCD σ) (hi : i < 6) : f_blocksWon σ i r = nI (cbw σ i r) ∧ cbw σ i r ≤ 5 := by
  unfold cbw f_blocksWon
  by_cases q1 : σ 1040 i < 0
  · rw [if_pos q1]; exact ⟨rfl, by decide⟩
  · rw [if_neg q1]
    by_cases q2 : 6 ≤ σ 1040 i
    · rw [if_pos q2]; exact ⟨rfl, by decide⟩
    · rw [if_neg q2]
      have h6 := (n_lt_iff (x := σ 1040 i) (R := 6) (by omega)).mpr ⟨q1, Int32.not_le.mp q2⟩
      exact many_nat r (h i _ hi h6.2)
theorem ct_X2_blocksWonN {l : Launch} {h : XH} (hl : l.stackTraces = false) {σ : XS9} {i r : Nat} (hcd : XCD σ) (hi : i < 6) (hr : r < 5) : XEx l m_X2_blocksWon 1 0 0 [.ref 1003, .int (nI i), .int (nI r)] (setC σ h) (some (.int (nI (cbw σ i r)))) (setC σ h) := by
  rw [← (cbw_ok hcd hi).1]
  exact ct_X2_blocksWon hl hi hr
theorem nI_rem6 {m : Nat} (hm : m < 2147483648) : nI m - nI m / 6 * 6 = nI (m % 6) := nI_rem (k := 6) hm (by decide) (by decide)
def x_giveByTurn_62 (σ : XS9) (r t : Nat) (sp : Nat → Nat) (i20 : Nat) (s20 : XS9 × Nat) (s0 : XS9) : XS9 := xit (fun i62 s62 => u2 s62 (1141 + r) (s20.2 + i62) (nI ((t + i20) % 6))) (min (s20.2 + cbw s20.1 ((t + i20) % 6) r) (sp r) - s20.2) 0 s0
def x_giveByTurn_20 (σ : XS9) (r t : Nat) (sp : Nat → Nat) (s0 : XS9 × Nat) : XS9 × Nat := xit (fun i20 s20 => ((x_giveByTurn_62 σ r t sp i20 s20 s20.1), min (s20.2 + cbw s20.1 ((t + i20) % 6) r) (sp r))) 6 0 s0
theorem fx_giveByTurn_62 {σ : XS9} {r t : Nat} {sp : Nat → Nat} {i20 : Nat} {s20 : XS9 × Nat} {s0 : XS9} {q : Nat} (h : q ≠ 1141 + r) : x_giveByTurn_62 σ r t sp i20 s20 s0 q = s0 q := xit_keep (fun s : XS9 => s q) (fun i s => by (try dsimp only); (repeat' split) <;> first | rfl | simp (disch := omega) only [u2_ne, uR_ne, fr_fill, fr_useWaiver, fr_undoContradictions, fr_lowerEligible, fr_moveHeld, fr_raisePrices, fr_begin, fr_closeRound, fr_moveTaken, fr_findDisturbed, fr_addRegion, fr_addBidder, fr_take, fr_giveBack, fr_keepIfBetter, fr_findWinners, fr_leaveOut, fr_raiseEach, fr_raiseOutside, fr_find]) _ _ _
def g_giveByTurn (σ : XS9) (r t : Nat) (sp : Nat → Nat) : XS9 := (x_giveByTurn_20 σ r t sp (g_fill σ (1141 + r) 5 (-1), 0)).1
theorem ct_X3_giveByTurn {l : Launch} {h : XH} (hl : l.stackTraces = false) {σ : XS9} {sp : Nat → Nat} (hsp : ∀ r, r < 5 → σ 1010 r = nI (sp r) ∧ sp r ≤ 5) (hcd : XCD σ) {r t : Nat} (hr : r < 5) (ht : t < 6) : XEx l m_X3_giveByTurn 2 0 0 [.ref 1005, .ref 1001, .ref 1003, .int (nI r), .int (nI t)] (setC σ h) (none) (setC (g_giveByTurn σ r t sp) h) := by
  refine XMet.of hl rfl rfl (Nat.le_of_ble_eq_true rfl) (fun Y O hh hQ => ?_)
  show SW Y 0 0 (setC σ h) 0 [.ref 1005, .ref 1001, .ref 1003, .int (nI r), .int (nI t), xx_d, xx_d, xx_d, xx_d, xx_d, xx_d] []
  refine sw_aload_n O (xx_dt dd_X3_giveByTurn 0 rfl) rfl ?_
  refine sw_get (v := .ref 1140) O (xx_dt dd_X3_giveByTurn 1 rfl) cl_X3 fl_X3_11 (ly_1005 σ h) (by decide) rfl ?_
  refine sw_iload_n O (xx_dt dd_X3_giveByTurn 2 rfl) rfl ?_
  refine sw_aaload (v := .ref (1141 + r)) O (xx_dt dd_X3_giveByTurn 3 rfl) (by omega) (by omega) (ly_1140 σ h) (pk_in r _ (by omega)) (by rw [nI_clamp (by omega)]; try exact rfl) ?_
  refine sw_astore (ls2 := [.ref 1005, .ref 1001, .ref 1003, .int (nI r), .int (nI t), .ref (1141 + r), xx_d, xx_d, xx_d, xx_d, xx_d]) O (xx_dt dd_X3_giveByTurn 4 rfl) (by decide) rfl ?_
  refine sw_aload O (xx_dt dd_X3_giveByTurn 5 rfl) rfl ?_
  refine sw_iconst (x := (-1)) O (xx_dt dd_X3_giveByTurn 6 rfl) (by decide) ?_
  refine sw_callSx (as := [.ref (1141 + r), .int (-1)]) (st := []) (st2 := []) O (ct_J7_fill_53178 hl (ir_1140 (k := r) (by omega)) (by omega)) ce_J7_fill_53178 ml_X3_16 st_J7_fill_53178 (xx_dt dd_X3_giveByTurn 7 rfl) (by first | decide | omega) rfl rfl (Nat.le_of_ble_eq_true rfl) rfl ?_
  refine sw_iconst (x := 0) O (xx_dt dd_X3_giveByTurn 8 rfl) (by decide) ?_
  refine sw_istore (ls2 := [.ref 1005, .ref 1001, .ref 1003, .int (nI r), .int (nI t), .ref (1141 + r), .int 0, xx_d, xx_d, xx_d, xx_d]) O (xx_dt dd_X3_giveByTurn 9 rfl) (by decide) rfl ?_
  refine sw_iconst (x := 0) O (xx_dt dd_X3_giveByTurn 10 rfl) (by decide) ?_
  refine sw_istore (ls2 := [.ref 1005, .ref 1001, .ref 1003, .int (nI r), .int (nI t), .ref (1141 + r), .int 0, .int 0, xx_d, xx_d, xx_d]) O (xx_dt dd_X3_giveByTurn 11 rfl) (by decide) rfl ?_
  refine sw_for (fun i20 s20 => ((x_giveByTurn_62 σ r t sp i20 s20 s20.1), min (s20.2 + cbw s20.1 ((t + i20) % 6) r) (sp r))) (fun _ s20 => s20.1 1010 = σ 1010 ∧ XCD s20.1 ∧ s20.2 ≤ 5) (hp := fun s20 => setC s20.1 h) (hd := 20) (lc := fun i20 s20 => [.ref 1005, .ref 1001, .ref 1003, .int (nI r), .int (nI t), .ref (1141 + r), .int (nI (s20.2)), .int (nI i20), xx_d, xx_d, xx_d]) (N := 6) (fun i20 s20 hi20 hP20 => ⟨(by (try dsimp only); (repeat' split) <;> (refine ⟨?_, ?_, ?_⟩ <;> (first | with_reducible exact hP20.1 | with_reducible exact hP20.2.1 | with_reducible exact hP20.2.2 | with_reducible exact hP20.2.1.of (fun i9 hi9 => fx_giveByTurn_62 (by omega)) | with_reducible exact Nat.le_trans (Nat.min_le_right _ _) (hsp r hr).2 | with_reducible exact (fx_giveByTurn_62 (by omega)).trans hP20.1 | exact hi20 | exact .inl rfl | exact .inr rfl | (simp (disch := omega) only [u2_ne, uR_ne, fr_fill, fr_useWaiver, fr_undoContradictions, fr_lowerEligible, fr_moveHeld, fr_raisePrices, fr_begin, fr_closeRound, fr_moveTaken, fr_findDisturbed, fr_addRegion, fr_addBidder, fr_take, fr_giveBack, fr_keepIfBetter, fr_findWinners, fr_leaveOut, fr_raiseEach, fr_raiseOutside, fr_find]; first | with_reducible exact hP20.1 | with_reducible exact hP20.2.1 | with_reducible exact hP20.2.2 | with_reducible exact hP20.2.1.of (fun i9 hi9 => fx_giveByTurn_62 (by omega)) | with_reducible exact Nat.le_trans (Nat.min_le_right _ _) (hsp r hr).2 | with_reducible exact (fx_giveByTurn_62 (by omega)).trans hP20.1)))), fun kk20 => ?_⟩) 6 0 (g_fill σ (1141 + r) 5 (-1), 0) (by omega) (⟨(fr_fill (by omega)), (hcd.of (fun i9 hi9 => fr_fill (by omega))), (by show (0 : Nat) ≤ 5; decide)⟩) (fun hP20 => ?_)
  · refine sw_iload O (xx_dt dd_X3_giveByTurn 12 rfl) rfl ?_
    refine sw_bipush (x := 6) O (xx_dt dd_X3_giveByTurn 13 rfl) (by decide) ?_
    refine sw_icmp_ge (tgt := 92) O (xx_dt dd_X3_giveByTurn 14 rfl) (by decide) (fun q1 => ?_) (fun q1 => ?_)
    · exact absurd q1 (nI_ge (b := 6) hi20 (by omega))
    · refine sw_iload O (xx_dt dd_X3_giveByTurn 15 rfl) rfl ?_
      refine sw_iload O (xx_dt dd_X3_giveByTurn 16 rfl) rfl ?_
      refine sw_iadd O (xx_dt dd_X3_giveByTurn 17 rfl) ?_
      have hx31 := True.intro
      rw [nI_plus t i20]
      refine sw_bipush (x := 6) O (xx_dt dd_X3_giveByTurn 18 rfl) (by decide) ?_
      refine sw_irem O (xx_dt dd_X3_giveByTurn 19 rfl) (by first | decide | assumption) ?_
      have hx34 := Nat.mod_lt (t + i20) (show 0 < 6 by decide)
      rw [nI_rem6 (m := t + i20) (by omega)]
      refine sw_istore (ls2 := [.ref 1005, .ref 1001, .ref 1003, .int (nI r), .int (nI t), .ref (1141 + r), .int (nI (s20.2)), .int (nI i20), .int (nI ((t + i20) % 6)), xx_d, xx_d]) O (xx_dt dd_X3_giveByTurn 20 rfl) (by decide) rfl ?_
      refine sw_iload O (xx_dt dd_X3_giveByTurn 21 rfl) rfl ?_
      refine sw_aload_n O (xx_dt dd_X3_giveByTurn 22 rfl) rfl ?_
      refine sw_iload O (xx_dt dd_X3_giveByTurn 23 rfl) rfl ?_
      refine sw_iload_n O (xx_dt dd_X3_giveByTurn 24 rfl) rfl ?_
      refine sw_callVx (as := [.int (nI ((t + i20) % 6)), .int (nI r)]) (st := [.int (nI (s20.2))]) (st2 := [.int (nI (cbw s20.1 ((t + i20) % 6) r)), .int (nI (s20.2))]) O (ct_X2_blocksWonN hl (σ := s20.1) hP20.2.1 (i := (t + i20) % 6) (r := r) (by omega) (by omega)) ce_X2_blocksWon ml_X3_39 iv_X2_blocksWon cl_X2 rfl (ly_1003 s20.1 h) (xx_dt dd_X3_giveByTurn 25 rfl) (by first | decide | omega) rfl rfl (Nat.le_of_ble_eq_true rfl) rfl ?_
      have hbw := (cbw_ok (r := r) hP20.2.1 (show (t + i20) % 6 < 6 by omega)).2
      refine sw_iadd O (xx_dt dd_X3_giveByTurn 26 rfl) ?_
      have hx46 := True.intro
      rw [nI_plus s20.2 (cbw s20.1 ((t + i20) % 6) r)]
      refine sw_aload_n O (xx_dt dd_X3_giveByTurn 27 rfl) rfl ?_
      refine sw_get (v := .ref 1010) O (xx_dt dd_X3_giveByTurn 28 rfl) cl_X6 fl_X3_45 (ly_1001 s20.1 h) (by decide) rfl ?_
      refine sw_iload_n O (xx_dt dd_X3_giveByTurn 29 rfl) rfl ?_
      have hz52 := (hsp r (by omega)).2
      refine sw_iaload (v := .int (nI (sp r))) O (xx_dt dd_X3_giveByTurn 30 rfl) (ly_1010 s20.1 h) (pk_in r _ (by omega)) (by rw [nI_clamp (by omega)]; exact (congrArg Value.int ((congrFun hP20.1 r).trans (hsp r (by omega)).1))) ?_
      refine sw_min O mm_X3_49 (xx_dt dd_X3_giveByTurn 31 rfl) (by omega) (Nat.le_of_ble_eq_true rfl) ?_
      rw [min_nat (a := s20.2 + cbw s20.1 ((t + i20) % 6) r) (b := sp r) (by omega) (by omega)]
      refine sw_istore (ls2 := [.ref 1005, .ref 1001, .ref 1003, .int (nI r), .int (nI t), .ref (1141 + r), .int (nI (s20.2)), .int (nI i20), .int (nI ((t + i20) % 6)), .int (nI (min (s20.2 + cbw s20.1 ((t + i20) % 6) r) (sp r))), xx_d]) O (xx_dt dd_X3_giveByTurn 32 rfl) (by decide) rfl ?_
      refine sw_iload O (xx_dt dd_X3_giveByTurn 33 rfl) rfl ?_
      refine sw_istore (ls2 := [.ref 1005, .ref 1001, .ref 1003, .int (nI r), .int (nI t), .ref (1141 + r), .int (nI (s20.2)), .int (nI i20), .int (nI ((t + i20) % 6)), .int (nI (min (s20.2 + cbw s20.1 ((t + i20) % 6) r) (sp r))), .int (nI (s20.2))]) O (xx_dt dd_X3_giveByTurn 34 rfl) (by decide) rfl ?_
      refine sw_for (fun i62 s62 => u2 s62 (1141 + r) (s20.2 + i62) (nI ((t + i20) % 6))) (fun _ _ => True) (hp := fun s62 => setC s62 h) (hd := 62) (lc := fun i62 s62 => [.ref 1005, .ref 1001, .ref 1003, .int (nI r), .int (nI t), .ref (1141 + r), .int (nI (s20.2)), .int (nI i20), .int (nI ((t + i20) % 6)), .int (nI (min (s20.2 + cbw s20.1 ((t + i20) % 6) r) (sp r))), .int (nI (s20.2 + i62))]) (N := (min (s20.2 + cbw s20.1 ((t + i20) % 6) r) (sp r) - s20.2)) (fun i62 s62 hi62 hP62 => ⟨trivial, fun kk62 => ?_⟩) (min (s20.2 + cbw s20.1 ((t + i20) % 6) r) (sp r) - s20.2) 0 s20.1 (by omega) (trivial) (fun hP62 => ?_)
      · refine sw_iload O (xx_dt dd_X3_giveByTurn 35 rfl) rfl ?_
        refine sw_iload O (xx_dt dd_X3_giveByTurn 36 rfl) rfl ?_
        refine sw_icmp_ge (tgt := 82) O (xx_dt dd_X3_giveByTurn 37 rfl) (by decide) (fun q2 => ?_) (fun q2 => ?_)
        · exact absurd q2 (nI_ge (a := s20.2 + i62) (b := (min (s20.2 + cbw s20.1 ((t + i20) % 6) r) (sp r))) (by omega) (by omega))
        · refine sw_aload O (xx_dt dd_X3_giveByTurn 38 rfl) rfl ?_
          refine sw_iload O (xx_dt dd_X3_giveByTurn 39 rfl) rfl ?_
          refine sw_iload O (xx_dt dd_X3_giveByTurn 40 rfl) rfl ?_
          refine sw_iastore (h2 := setC (u2 s62 (1141 + r) (s20.2 + i62) (nI ((t + i20) % 6))) h) O (xx_dt dd_X3_giveByTurn 41 rfl) (lr_1140 s62 h (k := r) (by omega)) (pk_in (s20.2 + i62) _ (by omega)) (by omega) (by rw [nI_clamp (by omega)]; exact (pr_1140 (by omega))) ?_
          refine sw_iinc (y := nI (s20.2 + i62 + 1)) (ls2 := [.ref 1005, .ref 1001, .ref 1003, .int (nI r), .int (nI t), .ref (1141 + r), .int (nI (s20.2)), .int (nI i20), .int (nI ((t + i20) % 6)), .int (nI (min (s20.2 + cbw s20.1 ((t + i20) % 6) r) (sp r))), .int (nI (s20.2 + i62 + 1))]) O (xx_dt dd_X3_giveByTurn 42 rfl) rfl (nI_1 _) (by decide) rfl ?_
          refine sw_goto (tgt := 62) O (xx_dt dd_X3_giveByTurn 43 rfl) (by decide) ?_
          exact kk62
      · show SW Y _ _ (setC (x_giveByTurn_62 σ r t sp i20 s20 s20.1) h) 62 [.ref 1005, .ref 1001, .ref 1003, .int (nI r), .int (nI t), .ref (1141 + r), .int (nI (s20.2)), .int (nI i20), .int (nI ((t + i20) % 6)), .int (nI (min (s20.2 + cbw s20.1 ((t + i20) % 6) r) (sp r))), .int (nI (s20.2 + (min (s20.2 + cbw s20.1 ((t + i20) % 6) r) (sp r) - s20.2)))] []
        refine sw_iload O (xx_dt dd_X3_giveByTurn 35 rfl) rfl ?_
        refine sw_iload O (xx_dt dd_X3_giveByTurn 36 rfl) rfl ?_
        refine sw_icmp_ge (tgt := 82) O (xx_dt dd_X3_giveByTurn 37 rfl) (by decide) (fun q2 => ?_) (fun q2 => ?_)
        · refine sw_iload O (xx_dt dd_X3_giveByTurn 44 rfl) rfl ?_
          refine sw_istore (ls2 := [.ref 1005, .ref 1001, .ref 1003, .int (nI r), .int (nI t), .ref (1141 + r), .int (nI (min (s20.2 + cbw s20.1 ((t + i20) % 6) r) (sp r))), .int (nI i20), .int (nI ((t + i20) % 6)), .int (nI (min (s20.2 + cbw s20.1 ((t + i20) % 6) r) (sp r))), .int (nI (s20.2 + (min (s20.2 + cbw s20.1 ((t + i20) % 6) r) (sp r) - s20.2)))]) O (xx_dt dd_X3_giveByTurn 45 rfl) (by decide) rfl ?_
          refine sw_iinc (y := nI (i20 + 1)) (ls2 := [.ref 1005, .ref 1001, .ref 1003, .int (nI r), .int (nI t), .ref (1141 + r), .int (nI (min (s20.2 + cbw s20.1 ((t + i20) % 6) r) (sp r))), .int (nI (i20 + 1)), .int (nI ((t + i20) % 6)), .int (nI (min (s20.2 + cbw s20.1 ((t + i20) % 6) r) (sp r))), .int (nI (s20.2 + (min (s20.2 + cbw s20.1 ((t + i20) % 6) r) (sp r) - s20.2)))]) O (xx_dt dd_X3_giveByTurn 46 rfl) rfl (nI_1 _) (by decide) rfl ?_
          refine sw_goto (tgt := 20) O (xx_dt dd_X3_giveByTurn 47 rfl) (by decide) ?_
          refine sw_dum (ls2 := [.ref 1005, .ref 1001, .ref 1003, .int (nI r), .int (nI t), .ref (1141 + r), .int (nI (min (s20.2 + cbw s20.1 ((t + i20) % 6) r) (sp r))), .int (nI (i20 + 1)), xx_d, xx_d, xx_d]) ⟨.inr rfl, .inr rfl, .inr rfl, .inr rfl, .inr rfl, .inr rfl, .inr rfl, .inr rfl, .inl rfl, .inl rfl, .inl rfl, trivial⟩ ?_
          exact kk20
        · exact absurd ((nI_leI (a := (min (s20.2 + cbw s20.1 ((t + i20) % 6) r) (sp r))) (b := s20.2 + (min (s20.2 + cbw s20.1 ((t + i20) % 6) r) (sp r) - s20.2)) (by omega) (by omega)).mpr (by omega)) q2
  · show SW Y _ _ (setC ((x_giveByTurn_20 σ r t sp (g_fill σ (1141 + r) 5 (-1), 0)).1) h) 20 [.ref 1005, .ref 1001, .ref 1003, .int (nI r), .int (nI t), .ref (1141 + r), .int (nI ((x_giveByTurn_20 σ r t sp (g_fill σ (1141 + r) 5 (-1), 0)).2)), .int (nI 6), xx_d, xx_d, xx_d] []
    have hP20 : ((x_giveByTurn_20 σ r t sp (g_fill σ (1141 + r) 5 (-1), 0)).1) 1010 = σ 1010 ∧ XCD (x_giveByTurn_20 σ r t sp (g_fill σ (1141 + r) 5 (-1), 0)).1 ∧ (x_giveByTurn_20 σ r t sp (g_fill σ (1141 + r) 5 (-1), 0)).2 ≤ 5 := hP20
    refine sw_iload O (xx_dt dd_X3_giveByTurn 12 rfl) rfl ?_
    refine sw_bipush (x := 6) O (xx_dt dd_X3_giveByTurn 13 rfl) (by decide) ?_
    refine sw_icmp_ge (tgt := 92) O (xx_dt dd_X3_giveByTurn 14 rfl) (by decide) (fun q1 => ?_) (fun q1 => ?_)
    · exact sw_ret O (xx_dt dd_X3_giveByTurn 48 rfl) rfl (by rw [hQ]; exact ⟨rfl, by unfold g_giveByTurn; rfl⟩)
    · exact absurd (Int32.le_refl _) q1
theorem fr_giveByTurn {σ : XS9} {r t : Nat} {sp : Nat → Nat} {q : Nat} (h : q ≠ 1141 + r) : g_giveByTurn σ r t sp q = σ q := by
  have H0 : ∀ s0, (x_giveByTurn_20 σ r t sp s0).1 q = s0.1 q := fun s0 => xit_keep (fun s : XS9 × Nat => s.1 q) (fun i s => fx_giveByTurn_62 (σ := σ) h) _ _ _
  unfold g_giveByTurn
  exact (H0 _).trans (fr_fill h)
def x_give_25 (σ : XS9) (R : Nat) (sp : Nat → Nat) (i7 : Nat) (s0 : XS9 × Nat × Int32) : XS9 × Nat × Int32 := xit (fun i25 s25 => (if s25.2.2 ≤ (f_clashesOf (g_giveByTurn s25.1 i7 i25 sp) i7) then (g_giveByTurn s25.1 i7 i25 sp, s25.2.1, s25.2.2) else (g_giveByTurn s25.1 i7 i25 sp, i25, f_clashesOf (g_giveByTurn s25.1 i7 i25 sp) i7))) 6 0 s0
def x_give_7 (σ : XS9) (R : Nat) (sp : Nat → Nat) (s0 : XS9) : XS9 := xit (fun i7 s7 => u2 (g_giveByTurn ((x_give_25 σ R sp i7 (s7, 0, 25)).1) i7 ((x_give_25 σ R sp i7 (s7, 0, 25)).2.1) sp) 1005 1 ((((x_give_25 σ R sp i7 (s7, 0, 25)).1) 1005 1) + ((x_give_25 σ R sp i7 (s7, 0, 25)).2.2))) R 0 s0
theorem fx_give_25 {σ : XS9} {R : Nat} {sp : Nat → Nat} {i7 : Nat} {s0 : XS9 × Nat × Int32} {q : Nat} (h : q ≠ 1141 + i7) : (x_give_25 σ R sp i7 s0).1 q = s0.1 q := xit_keep (fun s : XS9 × Nat × Int32 => s.1 q) (fun i s => by (try dsimp only); split <;> (try dsimp only) <;> exact fr_giveByTurn h) _ _ _
def g_give (σ : XS9) (R : Nat) (sp : Nat → Nat) : XS9 := (x_give_7 σ R sp (u2 σ 1005 1 0))
theorem ct_X3_give {l : Launch} {h : XH} (hl : l.stackTraces = false) {σ : XS9} {R : Nat} (hR : σ 1001 4 = nI R) (hR5 : R ≤ 5) {sp : Nat → Nat} (hsp : ∀ r, r < 5 → σ 1010 r = nI (sp r) ∧ sp r ≤ 5) (hcd : XCD σ) : XEx l m_X3_give 3 0 0 [.ref 1005, .ref 1001, .ref 1003] (setC σ h) (none) (setC (g_give σ R sp) h) := by
  refine XMet.of hl rfl rfl (Nat.le_of_ble_eq_true rfl) (fun Y O hh hQ => ?_)
  show SW Y 0 0 (setC σ h) 0 [.ref 1005, .ref 1001, .ref 1003, xx_d, xx_d, xx_d, xx_d, xx_d] []
  refine sw_aload_n O (xx_dt dd_X3_give 0 rfl) rfl ?_
  refine sw_iconst (x := 0) O (xx_dt dd_X3_give 1 rfl) (by decide) ?_
  refine sw_put (h2 := setC (u2 σ 1005 1 0) h) O (xx_dt dd_X3_give 2 rfl) cl_X3 fl_X3_22 (ly_1005 σ h) (by decide) (by decide) rfl (fun _ => ⟨rfl, rfl⟩) pu_1005_1 ?_
  refine sw_iconst (x := 0) O (xx_dt dd_X3_give 3 rfl) (by decide) ?_
  refine sw_istore_n (ls2 := [.ref 1005, .ref 1001, .ref 1003, .int 0, xx_d, xx_d, xx_d, xx_d]) O (xx_dt dd_X3_give 4 rfl) (by decide) rfl ?_
  refine sw_for (fun i7 s7 => u2 (g_giveByTurn ((x_give_25 σ R sp i7 (s7, 0, 25)).1) i7 ((x_give_25 σ R sp i7 (s7, 0, 25)).2.1) sp) 1005 1 ((((x_give_25 σ R sp i7 (s7, 0, 25)).1) 1005 1) + ((x_give_25 σ R sp i7 (s7, 0, 25)).2.2))) (fun _ s7 => s7 1001 4 = nI R ∧ s7 1010 = σ 1010 ∧ XCD s7) (hp := fun s7 => setC s7 h) (hd := 7) (lc := fun i7 s7 => [.ref 1005, .ref 1001, .ref 1003, .int (nI i7), xx_d, xx_d, xx_d, xx_d]) (N := R) (fun i7 s7 hi7 hP7 => ⟨(by (try dsimp only); (repeat' split) <;> (refine ⟨?_, ?_, ?_⟩ <;> (first | with_reducible exact hP7.1 | with_reducible exact hP7.2.1 | with_reducible exact hP7.2.2 | with_reducible exact hP7.2.2.of (fun i9 hi9 => (u2_ne (by omega)).trans ((fr_giveByTurn (by omega)).trans (fx_give_25 (by omega)))) | with_reducible exact (u2_ne (by omega)).trans ((fr_giveByTurn (by omega)).trans ((fx_give_25 (by omega)).trans hP7.2.1)) | with_reducible exact (congrFun ((u2_ne (by omega)).trans ((fr_giveByTurn (by omega)).trans (fx_give_25 (by omega)))) 4).trans hP7.1 | exact hi7 | exact .inl rfl | exact .inr rfl | (simp (disch := omega) only [u2_ne, uR_ne, fr_fill, fr_useWaiver, fr_undoContradictions, fr_lowerEligible, fr_moveHeld, fr_raisePrices, fr_begin, fr_closeRound, fr_moveTaken, fr_findDisturbed, fr_addRegion, fr_addBidder, fr_take, fr_giveBack, fr_keepIfBetter, fr_findWinners, fr_leaveOut, fr_raiseEach, fr_raiseOutside, fr_find, fr_giveByTurn]; first | with_reducible exact hP7.1 | with_reducible exact hP7.2.1 | with_reducible exact hP7.2.2 | with_reducible exact hP7.2.2.of (fun i9 hi9 => (u2_ne (by omega)).trans ((fr_giveByTurn (by omega)).trans (fx_give_25 (by omega)))) | with_reducible exact (u2_ne (by omega)).trans ((fr_giveByTurn (by omega)).trans ((fx_give_25 (by omega)).trans hP7.2.1)) | with_reducible exact (congrFun ((u2_ne (by omega)).trans ((fr_giveByTurn (by omega)).trans (fx_give_25 (by omega)))) 4).trans hP7.1)))), fun kk7 => ?_⟩) R 0 (u2 σ 1005 1 0) (by omega) (⟨hR, rfl, (hcd.of (fun i9 hi9 => u2_ne (by omega)))⟩) (fun hP7 => ?_)
  · refine sw_iload_n O (xx_dt dd_X3_give 5 rfl) rfl ?_
    refine sw_aload_n O (xx_dt dd_X3_give 6 rfl) rfl ?_
    refine sw_get (v := .int (nI R)) O (xx_dt dd_X3_give 7 rfl) cl_X6 fl_X3_26 (ly_1001 s7 h) (by decide) (congrArg Value.int hP7.1) ?_
    refine sw_icmp_ge (tgt := 96) O (xx_dt dd_X3_give 8 rfl) (by decide) (fun q1 => ?_) (fun q1 => ?_)
    · exact absurd q1 (nI_ge (b := R) hi7 (by omega))
    · refine sw_iconst (x := 0) O (xx_dt dd_X3_give 9 rfl) (by decide) ?_
      refine sw_istore (ls2 := [.ref 1005, .ref 1001, .ref 1003, .int (nI i7), .int 0, xx_d, xx_d, xx_d]) O (xx_dt dd_X3_give 10 rfl) (by decide) rfl ?_
      refine sw_bipush (x := 25) O (xx_dt dd_X3_give 11 rfl) (by decide) ?_
      refine sw_istore (ls2 := [.ref 1005, .ref 1001, .ref 1003, .int (nI i7), .int 0, .int 25, xx_d, xx_d]) O (xx_dt dd_X3_give 12 rfl) (by decide) rfl ?_
      refine sw_iconst (x := 0) O (xx_dt dd_X3_give 13 rfl) (by decide) ?_
      refine sw_istore (ls2 := [.ref 1005, .ref 1001, .ref 1003, .int (nI i7), .int 0, .int 25, .int 0, xx_d]) O (xx_dt dd_X3_give 14 rfl) (by decide) rfl ?_
      refine sw_for (fun i25 s25 => (if s25.2.2 ≤ (f_clashesOf (g_giveByTurn s25.1 i7 i25 sp) i7) then (g_giveByTurn s25.1 i7 i25 sp, s25.2.1, s25.2.2) else (g_giveByTurn s25.1 i7 i25 sp, i25, f_clashesOf (g_giveByTurn s25.1 i7 i25 sp) i7))) (fun _ s25 => s25.1 1001 4 = nI R ∧ s25.1 1010 = σ 1010 ∧ XCD s25.1 ∧ s25.2.1 < 6) (hp := fun s25 => setC s25.1 h) (hd := 25) (lc := fun i25 s25 => [.ref 1005, .ref 1001, .ref 1003, .int (nI i7), .int (nI (s25.2.1)), .int s25.2.2, .int (nI i25), xx_d]) (N := 6) (fun i25 s25 hi25 hP25 => ⟨(by (try dsimp only); (repeat' split) <;> (refine ⟨?_, ?_, ?_, ?_⟩ <;> (first | with_reducible exact hP25.1 | with_reducible exact hP25.2.1 | with_reducible exact hP25.2.2.1 | with_reducible exact hP25.2.2.2 | with_reducible exact hP25.2.2.1.of (fun i9 hi9 => fr_giveByTurn (by omega)) | with_reducible exact (fr_giveByTurn (by omega)).trans hP25.2.1 | with_reducible exact (congrFun (fr_giveByTurn (by omega)) 4).trans hP25.1 | with_reducible exact hi25 | exact hi25 | exact .inl rfl | exact .inr rfl | (simp (disch := omega) only [u2_ne, uR_ne, fr_fill, fr_useWaiver, fr_undoContradictions, fr_lowerEligible, fr_moveHeld, fr_raisePrices, fr_begin, fr_closeRound, fr_moveTaken, fr_findDisturbed, fr_addRegion, fr_addBidder, fr_take, fr_giveBack, fr_keepIfBetter, fr_findWinners, fr_leaveOut, fr_raiseEach, fr_raiseOutside, fr_find, fr_giveByTurn]; first | with_reducible exact hP25.1 | with_reducible exact hP25.2.1 | with_reducible exact hP25.2.2.1 | with_reducible exact hP25.2.2.2 | with_reducible exact hP25.2.2.1.of (fun i9 hi9 => fr_giveByTurn (by omega)) | with_reducible exact (fr_giveByTurn (by omega)).trans hP25.2.1 | with_reducible exact (congrFun (fr_giveByTurn (by omega)) 4).trans hP25.1 | with_reducible exact hi25)))), fun kk25 => ?_⟩) 6 0 (s7, 0, 25) (by omega) (⟨hP7.1, hP7.2.1, hP7.2.2, (by show (0 : Nat) < 6; decide)⟩) (fun hP25 => ?_)
      · refine sw_iload O (xx_dt dd_X3_give 15 rfl) rfl ?_
        refine sw_bipush (x := 6) O (xx_dt dd_X3_give 16 rfl) (by decide) ?_
        refine sw_icmp_ge (tgt := 70) O (xx_dt dd_X3_give 17 rfl) (by decide) (fun q2 => ?_) (fun q2 => ?_)
        · exact absurd q2 (nI_ge (b := 6) hi25 (by omega))
        · refine sw_aload_n O (xx_dt dd_X3_give 18 rfl) rfl ?_
          refine sw_aload_n O (xx_dt dd_X3_give 19 rfl) rfl ?_
          refine sw_aload_n O (xx_dt dd_X3_give 20 rfl) rfl ?_
          refine sw_iload_n O (xx_dt dd_X3_give 21 rfl) rfl ?_
          refine sw_iload O (xx_dt dd_X3_give 22 rfl) rfl ?_
          refine sw_callVx (as := [.ref 1001, .ref 1003, .int (nI i7), .int (nI i25)]) (st := []) (st2 := []) O (ct_X3_giveByTurn hl (σ := s25.1) (sp := sp) (fun j9 hj9 => by rw [show s25.1 1010 = σ 1010 from hP25.2.1]; exact hsp j9 hj9) hP25.2.2.1 (r := i7) (t := i25) (by omega) (by omega)) ce_X3_giveByTurn ml_X3_31 iv_X3_giveByTurn cl_X3 rfl (ly_1005 s25.1 h) (xx_dt dd_X3_give 23 rfl) (by first | decide | omega) rfl rfl (Nat.le_of_ble_eq_true rfl) rfl ?_
          refine sw_aload_n O (xx_dt dd_X3_give 24 rfl) rfl ?_
          refine sw_aload_n O (xx_dt dd_X3_give 25 rfl) rfl ?_
          refine sw_iload_n O (xx_dt dd_X3_give 26 rfl) rfl ?_
          refine sw_callVx (as := [.ref 1001, .int (nI i7)]) (st := []) (st2 := [.int (f_clashesOf (g_giveByTurn s25.1 i7 i25 sp) i7)]) O (ct_X3_clashesOf hl (σ := g_giveByTurn s25.1 i7 i25 sp) (r := i7) (by omega)) ce_X3_clashesOf ml_X3_35 iv_X3_clashesOf cl_X3 rfl (ly_1005 (g_giveByTurn s25.1 i7 i25 sp) h) (xx_dt dd_X3_give 27 rfl) (by first | decide | omega) rfl rfl (Nat.le_of_ble_eq_true rfl) rfl ?_
          refine sw_istore (ls2 := [.ref 1005, .ref 1001, .ref 1003, .int (nI i7), .int (nI (s25.2.1)), .int s25.2.2, .int (nI i25), .int (f_clashesOf (g_giveByTurn s25.1 i7 i25 sp) i7)]) O (xx_dt dd_X3_give 28 rfl) (by decide) rfl ?_
          refine sw_iload O (xx_dt dd_X3_give 29 rfl) rfl ?_
          refine sw_iload O (xx_dt dd_X3_give 30 rfl) rfl ?_
          refine sw_icmp_ge (tgt := 64) O (xx_dt dd_X3_give 31 rfl) (by decide) (fun q3 => ?_) (fun q3 => ?_)
          · refine sw_iinc (y := nI (i25 + 1)) (ls2 := [.ref 1005, .ref 1001, .ref 1003, .int (nI i7), .int (nI (s25.2.1)), .int s25.2.2, .int (nI (i25 + 1)), .int (f_clashesOf (g_giveByTurn s25.1 i7 i25 sp) i7)]) O (xx_dt dd_X3_give 36 rfl) rfl (nI_1 _) (by decide) rfl ?_
            refine sw_goto (tgt := 25) O (xx_dt dd_X3_give 37 rfl) (by decide) ?_
            refine sw_dum (ls2 := [.ref 1005, .ref 1001, .ref 1003, .int (nI i7), .int (nI (s25.2.1)), .int s25.2.2, .int (nI (i25 + 1)), xx_d]) ⟨.inr rfl, .inr rfl, .inr rfl, .inr rfl, .inr rfl, .inr rfl, .inr rfl, .inl rfl, trivial⟩ ?_
            simp only [if_pos q3] at kk25
            exact kk25
          · refine sw_iload O (xx_dt dd_X3_give 32 rfl) rfl ?_
            refine sw_istore (ls2 := [.ref 1005, .ref 1001, .ref 1003, .int (nI i7), .int (nI (s25.2.1)), .int (f_clashesOf (g_giveByTurn s25.1 i7 i25 sp) i7), .int (nI i25), .int (f_clashesOf (g_giveByTurn s25.1 i7 i25 sp) i7)]) O (xx_dt dd_X3_give 33 rfl) (by decide) rfl ?_
            refine sw_iload O (xx_dt dd_X3_give 34 rfl) rfl ?_
            refine sw_istore (ls2 := [.ref 1005, .ref 1001, .ref 1003, .int (nI i7), .int (nI i25), .int (f_clashesOf (g_giveByTurn s25.1 i7 i25 sp) i7), .int (nI i25), .int (f_clashesOf (g_giveByTurn s25.1 i7 i25 sp) i7)]) O (xx_dt dd_X3_give 35 rfl) (by decide) rfl ?_
            refine sw_iinc (y := nI (i25 + 1)) (ls2 := [.ref 1005, .ref 1001, .ref 1003, .int (nI i7), .int (nI i25), .int (f_clashesOf (g_giveByTurn s25.1 i7 i25 sp) i7), .int (nI (i25 + 1)), .int (f_clashesOf (g_giveByTurn s25.1 i7 i25 sp) i7)]) O (xx_dt dd_X3_give 36 rfl) rfl (nI_1 _) (by decide) rfl ?_
            refine sw_goto (tgt := 25) O (xx_dt dd_X3_give 37 rfl) (by decide) ?_
            refine sw_dum (ls2 := [.ref 1005, .ref 1001, .ref 1003, .int (nI i7), .int (nI i25), .int (f_clashesOf (g_giveByTurn s25.1 i7 i25 sp) i7), .int (nI (i25 + 1)), xx_d]) ⟨.inr rfl, .inr rfl, .inr rfl, .inr rfl, .inr rfl, .inr rfl, .inr rfl, .inl rfl, trivial⟩ ?_
            simp only [if_neg q3] at kk25
            exact kk25
      · show SW Y _ _ (setC ((x_give_25 σ R sp i7 (s7, 0, 25)).1) h) 25 [.ref 1005, .ref 1001, .ref 1003, .int (nI i7), .int (nI ((x_give_25 σ R sp i7 (s7, 0, 25)).2.1)), .int ((x_give_25 σ R sp i7 (s7, 0, 25)).2.2), .int (nI 6), xx_d] []
        have hP25 : ((x_give_25 σ R sp i7 (s7, 0, 25)).1) 1001 4 = nI R ∧ ((x_give_25 σ R sp i7 (s7, 0, 25)).1) 1010 = σ 1010 ∧ XCD (x_give_25 σ R sp i7 (s7, 0, 25)).1 ∧ (x_give_25 σ R sp i7 (s7, 0, 25)).2.1 < 6 := hP25
        refine sw_iload O (xx_dt dd_X3_give 15 rfl) rfl ?_
        refine sw_bipush (x := 6) O (xx_dt dd_X3_give 16 rfl) (by decide) ?_
        refine sw_icmp_ge (tgt := 70) O (xx_dt dd_X3_give 17 rfl) (by decide) (fun q2 => ?_) (fun q2 => ?_)
        · refine sw_aload_n O (xx_dt dd_X3_give 38 rfl) rfl ?_
          refine sw_aload_n O (xx_dt dd_X3_give 39 rfl) rfl ?_
          refine sw_aload_n O (xx_dt dd_X3_give 40 rfl) rfl ?_
          refine sw_iload_n O (xx_dt dd_X3_give 41 rfl) rfl ?_
          refine sw_iload O (xx_dt dd_X3_give 42 rfl) rfl ?_
          refine sw_callVx (as := [.ref 1001, .ref 1003, .int (nI i7), .int (nI ((x_give_25 σ R sp i7 (s7, 0, 25)).2.1))]) (st := []) (st2 := []) O (ct_X3_giveByTurn hl (σ := (x_give_25 σ R sp i7 (s7, 0, 25)).1) (sp := sp) (fun j9 hj9 => by rw [show ((x_give_25 σ R sp i7 (s7, 0, 25)).1) 1010 = σ 1010 from hP25.2.1]; exact hsp j9 hj9) hP25.2.2.1 (r := i7) (t := (x_give_25 σ R sp i7 (s7, 0, 25)).2.1) (by omega) (by omega)) ce_X3_giveByTurn ml_X3_31 iv_X3_giveByTurn cl_X3 rfl (ly_1005 ((x_give_25 σ R sp i7 (s7, 0, 25)).1) h) (xx_dt dd_X3_give 43 rfl) (by first | decide | omega) rfl rfl (Nat.le_of_ble_eq_true rfl) rfl ?_
          refine sw_aload_n O (xx_dt dd_X3_give 44 rfl) rfl ?_
          refine sw_dup O (xx_dt dd_X3_give 45 rfl) rfl ?_
          refine sw_get (v := .int (((x_give_25 σ R sp i7 (s7, 0, 25)).1) 1005 1)) O (xx_dt dd_X3_give 46 rfl) cl_X3 fl_X3_22 (ly_1005 (g_giveByTurn ((x_give_25 σ R sp i7 (s7, 0, 25)).1) i7 ((x_give_25 σ R sp i7 (s7, 0, 25)).2.1) sp) h) (by decide) (congrArg Value.int (congrFun (fr_giveByTurn (by omega)) 1)) ?_
          refine sw_iload O (xx_dt dd_X3_give 47 rfl) rfl ?_
          refine sw_iadd O (xx_dt dd_X3_give 48 rfl) ?_
          refine sw_put (h2 := setC (u2 (g_giveByTurn ((x_give_25 σ R sp i7 (s7, 0, 25)).1) i7 ((x_give_25 σ R sp i7 (s7, 0, 25)).2.1) sp) 1005 1 ((((x_give_25 σ R sp i7 (s7, 0, 25)).1) 1005 1) + ((x_give_25 σ R sp i7 (s7, 0, 25)).2.2))) h) O (xx_dt dd_X3_give 49 rfl) cl_X3 fl_X3_22 (ly_1005 (g_giveByTurn ((x_give_25 σ R sp i7 (s7, 0, 25)).1) i7 ((x_give_25 σ R sp i7 (s7, 0, 25)).2.1) sp) h) (by decide) (by decide) rfl (fun _ => ⟨rfl, rfl⟩) pu_1005_1 ?_
          refine sw_iinc (y := nI (i7 + 1)) (ls2 := [.ref 1005, .ref 1001, .ref 1003, .int (nI (i7 + 1)), .int (nI ((x_give_25 σ R sp i7 (s7, 0, 25)).2.1)), .int ((x_give_25 σ R sp i7 (s7, 0, 25)).2.2), .int (nI 6), xx_d]) O (xx_dt dd_X3_give 50 rfl) rfl (nI_1 _) (by decide) rfl ?_
          refine sw_goto (tgt := 7) O (xx_dt dd_X3_give 51 rfl) (by decide) ?_
          refine sw_dum (ls2 := [.ref 1005, .ref 1001, .ref 1003, .int (nI (i7 + 1)), xx_d, xx_d, xx_d, xx_d]) ⟨.inr rfl, .inr rfl, .inr rfl, .inr rfl, .inl rfl, .inl rfl, .inl rfl, .inr rfl, trivial⟩ ?_
          exact kk7
        · exact absurd (Int32.le_refl _) q2
  · show SW Y _ _ (setC (x_give_7 σ R sp (u2 σ 1005 1 0)) h) 7 [.ref 1005, .ref 1001, .ref 1003, .int (nI R), xx_d, xx_d, xx_d, xx_d] []
    have hP7 : (x_give_7 σ R sp (u2 σ 1005 1 0)) 1001 4 = nI R ∧ (x_give_7 σ R sp (u2 σ 1005 1 0)) 1010 = σ 1010 ∧ XCD (x_give_7 σ R sp (u2 σ 1005 1 0)) := hP7
    refine sw_iload_n O (xx_dt dd_X3_give 5 rfl) rfl ?_
    refine sw_aload_n O (xx_dt dd_X3_give 6 rfl) rfl ?_
    refine sw_get (v := .int (nI R)) O (xx_dt dd_X3_give 7 rfl) cl_X6 fl_X3_26 (ly_1001 (x_give_7 σ R sp (u2 σ 1005 1 0)) h) (by decide) (congrArg Value.int hP7.1) ?_
    refine sw_icmp_ge (tgt := 96) O (xx_dt dd_X3_give 8 rfl) (by decide) (fun q1 => ?_) (fun q1 => ?_)
    · exact sw_ret O (xx_dt dd_X3_give 52 rfl) rfl (by rw [hQ]; exact ⟨rfl, by unfold g_give; rfl⟩)
    · exact absurd (Int32.le_refl _) q1
theorem fr_give {σ : XS9} {R : Nat} {sp : Nat → Nat} (hR5 : R ≤ 5) {q : Nat} (h : q ≠ 1005 ∧ (q < 1141 ∨ 1145 < q)) : g_give σ R sp q = σ q := by
  have H0 : ∀ s0, x_give_7 σ R sp s0 q = s0 q := fun s0 => xit_inv (fun s : XS9 => s q = s0 q) (N := R) (fun i s hi hP => (u2_ne h.1).trans ((fr_giveByTurn (by omega)).trans ((fx_give_25 (by omega)).trans hP))) _ _ _ (by omega) rfl
  unfold g_give
  exact (H0 _).trans (u2_ne h.1)
def x_agreeWith_16 (σ : XS9) (R B : Nat) (i2 : Nat) (s0 : Int32) : Int32 ⊕ Int32 := xitR (fun i16 s16 => (if (f_heldBy σ (nI i16) i2) = (f_blocksWon σ i16 i2) then .inl (s16 + (f_heldBy σ (nI i16) i2)) else .inr 0)) B 0 s0
def x_agreeWith_2 (σ : XS9) (R B : Nat) (s0 : Unit) : Unit ⊕ Int32 := xitR (fun i2 s2 => (match (x_agreeWith_16 σ R B i2 0) with | .inl s16 => (if s16 ≤ (σ 1010 i2) then .inl () else .inr 0) | .inr r16 => .inr r16)) R 0 s0
def f_agreeWith (σ : XS9) (R B : Nat) : Int32 := (match (x_agreeWith_2 σ R B ()) with | .inl s2 => 1 | .inr r2 => r2)
theorem ct_X3_agreeWith {l : Launch} {h : XH} (hl : l.stackTraces = false) {σ : XS9} {R : Nat} (hR : σ 1001 4 = nI R) (hR5 : R ≤ 5) {B : Nat} (hB : σ 1001 9 = nI B) (hB6 : B ≤ 6)  : XEx l m_X3_agreeWith 2 0 0 [.ref 1005, .ref 1001, .ref 1003] (setC σ h) (some (.int (f_agreeWith σ R B))) (setC σ h) := by
  refine XMet.of hl rfl rfl (Nat.le_of_ble_eq_true rfl) (fun Y O hh hQ => ?_)
  show SW Y 0 0 (setC σ h) 0 [.ref 1005, .ref 1001, .ref 1003, xx_d, xx_d, xx_d, xx_d] []
  refine sw_iconst (x := 0) O (xx_dt dd_X3_agreeWith 0 rfl) (by decide) ?_
  refine sw_istore_n (ls2 := [.ref 1005, .ref 1001, .ref 1003, .int 0, xx_d, xx_d, xx_d]) O (xx_dt dd_X3_agreeWith 1 rfl) (by decide) rfl ?_
  refine sw_forR (R := Int32) (fun i2 s2 => (match (x_agreeWith_16 σ R B i2 0) with | .inl s16 => (if s16 ≤ (σ 1010 i2) then .inl () else .inr 0) | .inr r16 => .inr r16)) (fun _ _ => True) (FR := fun r9 => f_agreeWith σ R B = r9) (hp := fun _ => setC σ h) (hd := 2) (lc := fun i2 s2 => [.ref 1005, .ref 1001, .ref 1003, .int (nI i2), xx_d, xx_d, xx_d]) (N := R) (fun i2 s2 hi2 hP2 => ⟨fun _ _ => trivial, fun kk2 kr2 => ?_⟩) R 0 () (by omega) (trivial) (fun sN2 eN2 hP2 => ?_) (fun r2 eN2 => ?_)
  · refine sw_iload_n O (xx_dt dd_X3_agreeWith 2 rfl) rfl ?_
    refine sw_aload_n O (xx_dt dd_X3_agreeWith 3 rfl) rfl ?_
    refine sw_get (v := .int (nI R)) O (xx_dt dd_X3_agreeWith 4 rfl) cl_X6 fl_X3_26 (ly_1001 σ h) (by decide) (congrArg Value.int hR) ?_
    refine sw_icmp_ge (tgt := 80) O (xx_dt dd_X3_agreeWith 5 rfl) (by decide) (fun q1 => ?_) (fun q1 => ?_)
    · exact absurd q1 (nI_ge (b := R) hi2 (by omega))
    · refine sw_iconst (x := 0) O (xx_dt dd_X3_agreeWith 6 rfl) (by decide) ?_
      refine sw_istore (ls2 := [.ref 1005, .ref 1001, .ref 1003, .int (nI i2), .int 0, xx_d, xx_d]) O (xx_dt dd_X3_agreeWith 7 rfl) (by decide) rfl ?_
      refine sw_iconst (x := 0) O (xx_dt dd_X3_agreeWith 8 rfl) (by decide) ?_
      refine sw_istore (ls2 := [.ref 1005, .ref 1001, .ref 1003, .int (nI i2), .int 0, .int 0, xx_d]) O (xx_dt dd_X3_agreeWith 9 rfl) (by decide) rfl ?_
      refine sw_forR (R := Int32) (fun i16 s16 => (if (f_heldBy σ (nI i16) i2) = (f_blocksWon σ i16 i2) then .inl (s16 + (f_heldBy σ (nI i16) i2)) else .inr 0)) (fun _ _ => True) (FR := fun r9 => f_agreeWith σ R B = r9) (hp := fun _ => setC σ h) (hd := 16) (lc := fun i16 s16 => [.ref 1005, .ref 1001, .ref 1003, .int (nI i2), .int s16, .int (nI i16), xx_d]) (N := B) (fun i16 s16 hi16 hP16 => ⟨fun _ _ => trivial, fun kk16 kr16 => ?_⟩) B 0 0 (by omega) (trivial) (fun sN16 eN16 hP16 => ?_) (fun r16 eN16 => ?_)
      · refine sw_iload O (xx_dt dd_X3_agreeWith 10 rfl) rfl ?_
        refine sw_aload_n O (xx_dt dd_X3_agreeWith 11 rfl) rfl ?_
        refine sw_get (v := .int (nI B)) O (xx_dt dd_X3_agreeWith 12 rfl) cl_X6 fl_X3_71 (ly_1001 σ h) (by decide) (congrArg Value.int hB) ?_
        refine sw_icmp_ge (tgt := 61) O (xx_dt dd_X3_agreeWith 13 rfl) (by decide) (fun q2 => ?_) (fun q2 => ?_)
        · exact absurd q2 (nI_ge (b := B) hi16 (by omega))
        · refine sw_aload_n O (xx_dt dd_X3_agreeWith 14 rfl) rfl ?_
          refine sw_iload O (xx_dt dd_X3_agreeWith 15 rfl) rfl ?_
          refine sw_iload_n O (xx_dt dd_X3_agreeWith 16 rfl) rfl ?_
          refine sw_callVx (as := [.int (nI i16), .int (nI i2)]) (st := []) (st2 := [.int (f_heldBy σ (nI i16) i2)]) O (ct_X3_heldBy hl (σ := σ) (x := nI i16) (r := i2) (by omega)) ce_X3_heldBy ml_X3_74 iv_X3_heldBy cl_X3 rfl (ly_1005 σ h) (xx_dt dd_X3_agreeWith 17 rfl) (by first | decide | omega) rfl rfl (Nat.le_of_ble_eq_true rfl) rfl ?_
          refine sw_istore (ls2 := [.ref 1005, .ref 1001, .ref 1003, .int (nI i2), .int s16, .int (nI i16), .int (f_heldBy σ (nI i16) i2)]) O (xx_dt dd_X3_agreeWith 18 rfl) (by decide) rfl ?_
          refine sw_iload O (xx_dt dd_X3_agreeWith 19 rfl) rfl ?_
          refine sw_aload_n O (xx_dt dd_X3_agreeWith 20 rfl) rfl ?_
          refine sw_iload O (xx_dt dd_X3_agreeWith 21 rfl) rfl ?_
          refine sw_iload_n O (xx_dt dd_X3_agreeWith 22 rfl) rfl ?_
          refine sw_callVx (as := [.int (nI i16), .int (nI i2)]) (st := [.int (f_heldBy σ (nI i16) i2)]) (st2 := [.int (f_blocksWon σ i16 i2), .int (f_heldBy σ (nI i16) i2)]) O (ct_X2_blocksWon hl (σ := σ) (i := i16) (r := i2) (by omega) (by omega)) ce_X2_blocksWon ml_X3_39 iv_X2_blocksWon cl_X2 rfl (ly_1003 σ h) (xx_dt dd_X3_agreeWith 23 rfl) (by first | decide | omega) rfl rfl (Nat.le_of_ble_eq_true rfl) rfl ?_
          refine sw_icmp_eq (tgt := 48) O (xx_dt dd_X3_agreeWith 24 rfl) (by decide) (fun q3 => ?_) (fun q3 => ?_)
          · refine sw_iload O (xx_dt dd_X3_agreeWith 27 rfl) rfl ?_
            refine sw_iload O (xx_dt dd_X3_agreeWith 28 rfl) rfl ?_
            refine sw_iadd O (xx_dt dd_X3_agreeWith 29 rfl) ?_
            refine sw_istore (ls2 := [.ref 1005, .ref 1001, .ref 1003, .int (nI i2), .int (s16 + (f_heldBy σ (nI i16) i2)), .int (nI i16), .int (f_heldBy σ (nI i16) i2)]) O (xx_dt dd_X3_agreeWith 30 rfl) (by decide) rfl ?_
            refine sw_iinc (y := nI (i16 + 1)) (ls2 := [.ref 1005, .ref 1001, .ref 1003, .int (nI i2), .int (s16 + (f_heldBy σ (nI i16) i2)), .int (nI (i16 + 1)), .int (f_heldBy σ (nI i16) i2)]) O (xx_dt dd_X3_agreeWith 31 rfl) rfl (nI_1 _) (by decide) rfl ?_
            refine sw_goto (tgt := 16) O (xx_dt dd_X3_agreeWith 32 rfl) (by decide) ?_
            refine sw_dum (ls2 := [.ref 1005, .ref 1001, .ref 1003, .int (nI i2), .int (s16 + (f_heldBy σ (nI i16) i2)), .int (nI (i16 + 1)), xx_d]) ⟨.inr rfl, .inr rfl, .inr rfl, .inr rfl, .inr rfl, .inr rfl, .inl rfl, trivial⟩ ?_
            exact kk16 (s16 + (f_heldBy σ (nI i16) i2)) (by simp only [if_pos q3])
          · refine sw_iconst (x := 0) O (xx_dt dd_X3_agreeWith 25 rfl) (by decide) ?_
            exact sw_iret O (xx_dt dd_X3_agreeWith 26 rfl) rfl rfl (by rw [hQ, kr16 0 (by simp only [if_neg q3])]; exact ⟨rfl, rfl⟩)
      · show SW Y _ _ (setC σ h) 16 [.ref 1005, .ref 1001, .ref 1003, .int (nI i2), .int sN16, .int (nI B), xx_d] []
        refine sw_iload O (xx_dt dd_X3_agreeWith 10 rfl) rfl ?_
        refine sw_aload_n O (xx_dt dd_X3_agreeWith 11 rfl) rfl ?_
        refine sw_get (v := .int (nI B)) O (xx_dt dd_X3_agreeWith 12 rfl) cl_X6 fl_X3_71 (ly_1001 σ h) (by decide) (congrArg Value.int hB) ?_
        refine sw_icmp_ge (tgt := 61) O (xx_dt dd_X3_agreeWith 13 rfl) (by decide) (fun q2 => ?_) (fun q2 => ?_)
        · refine sw_iload O (xx_dt dd_X3_agreeWith 33 rfl) rfl ?_
          refine sw_aload_n O (xx_dt dd_X3_agreeWith 34 rfl) rfl ?_
          refine sw_get (v := .ref 1010) O (xx_dt dd_X3_agreeWith 35 rfl) cl_X6 fl_X3_45 (ly_1001 σ h) (by decide) rfl ?_
          refine sw_iload_n O (xx_dt dd_X3_agreeWith 36 rfl) rfl ?_
          refine sw_iaload (v := .int (σ 1010 i2)) O (xx_dt dd_X3_agreeWith 37 rfl) (ly_1010 σ h) (pk_in i2 _ (by omega)) (by rw [nI_clamp (by omega)]; try exact rfl) ?_
          refine sw_icmp_le (tgt := 74) O (xx_dt dd_X3_agreeWith 38 rfl) (by decide) (fun q4 => ?_) (fun q4 => ?_)
          · refine sw_iinc (y := nI (i2 + 1)) (ls2 := [.ref 1005, .ref 1001, .ref 1003, .int (nI (i2 + 1)), .int sN16, .int (nI B), xx_d]) O (xx_dt dd_X3_agreeWith 41 rfl) rfl (nI_1 _) (by decide) rfl ?_
            refine sw_goto (tgt := 2) O (xx_dt dd_X3_agreeWith 42 rfl) (by decide) ?_
            refine sw_dum (ls2 := [.ref 1005, .ref 1001, .ref 1003, .int (nI (i2 + 1)), xx_d, xx_d, xx_d]) ⟨.inr rfl, .inr rfl, .inr rfl, .inr rfl, .inl rfl, .inl rfl, .inr rfl, trivial⟩ ?_
            exact kk2 () (by simp only [if_pos q4, x_agreeWith_16, eN16])
          · refine sw_iconst (x := 0) O (xx_dt dd_X3_agreeWith 39 rfl) (by decide) ?_
            exact sw_iret O (xx_dt dd_X3_agreeWith 40 rfl) rfl rfl (by rw [hQ, kr2 0 (by simp only [if_neg q4, x_agreeWith_16, eN16])]; exact ⟨rfl, rfl⟩)
        · exact absurd (Int32.le_refl _) q2
      · exact kr2 r16 (by simp only [x_agreeWith_16, eN16])
  · show SW Y _ _ (setC σ h) 2 [.ref 1005, .ref 1001, .ref 1003, .int (nI R), xx_d, xx_d, xx_d] []
    refine sw_iload_n O (xx_dt dd_X3_agreeWith 2 rfl) rfl ?_
    refine sw_aload_n O (xx_dt dd_X3_agreeWith 3 rfl) rfl ?_
    refine sw_get (v := .int (nI R)) O (xx_dt dd_X3_agreeWith 4 rfl) cl_X6 fl_X3_26 (ly_1001 σ h) (by decide) (congrArg Value.int hR) ?_
    refine sw_icmp_ge (tgt := 80) O (xx_dt dd_X3_agreeWith 5 rfl) (by decide) (fun q1 => ?_) (fun q1 => ?_)
    · refine sw_iconst (x := 1) O (xx_dt dd_X3_agreeWith 43 rfl) (by decide) ?_
      exact sw_iret O (xx_dt dd_X3_agreeWith 44 rfl) rfl rfl (by rw [hQ]; exact ⟨by unfold f_agreeWith; simp only [x_agreeWith_2, eN2], rfl⟩)
    · exact absurd (Int32.le_refl _) q1
  · unfold f_agreeWith; simp only [x_agreeWith_2, eN2]
end
