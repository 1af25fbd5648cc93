/-! ===== the class's digest: the whole ===== -/
theorem lyK_in {H : XH} {b i : Nat} {s s' : Nat → Int32} : ∀ c, lyK b i s = some c → ∃ c', lyK b i s' = some c' ∧ c'.2.1 = c.2.1 ∧ ∀ j, xx_in H (c'.2.2 j) → xx_in H (c.2.2 j) := by
  intro c e
  unfold lyK at e ⊢
  by_cases q0 : 100 ≤ i
  · rw [if_pos q0] at e ⊢
    by_cases w0 : i = 100
    · rw [if_pos w0] at e ⊢
      cases e
      exact ⟨_, rfl, rfl, fun j h => h⟩
    rw [if_neg w0] at e ⊢
    by_cases w1 : i ≤ 160
    · rw [if_pos w1] at e ⊢
      cases e
      exact ⟨_, rfl, rfl, fun j _ => trivial⟩
    rw [if_neg w1] at e ⊢
    by_cases w2 : i = 200
    · rw [if_pos w2] at e ⊢
      cases e
      exact ⟨_, rfl, rfl, fun j h => h⟩
    rw [if_neg w2] at e ⊢
    by_cases w3 : 200 < i ∧ i ≤ 260
    · rw [if_pos w3] at e ⊢
      cases e
      exact ⟨_, rfl, rfl, fun j _ => trivial⟩
    rw [if_neg w3] at e ⊢
    by_cases w4 : i = 300
    · rw [if_pos w4] at e ⊢
      cases e
      exact ⟨_, rfl, rfl, fun j h => h⟩
    rw [if_neg w4] at e ⊢
    by_cases w5 : 300 < i ∧ i ≤ 360
    · rw [if_pos w5] at e ⊢
      cases e
      exact ⟨_, rfl, rfl, fun j _ => trivial⟩
    rw [if_neg w5] at e ⊢
    cases e
  · rw [if_neg q0] at e ⊢
    split at e <;> first | (cases e; done) | (cases e; exact ⟨_, rfl, rfl, fun j _ => trivial⟩) | (cases e; refine ⟨_, rfl, rfl, fun j => ?_⟩; (try dsimp only); split <;> first | exact id | exact fun _ => trivial)
theorem lyC_in {H : XH} {r : Nat} {s s' : Nat → Int32} : ∀ c, lyC r s = some c → ∃ c', lyC r s' = some c' ∧ c'.2.1 = c.2.1 ∧ ∀ j, xx_in H (c'.2.2 j) → xx_in H (c.2.2 j) := by
  intro c e
  unfold lyC at e ⊢
  by_cases q1 : 3000 ≤ r
  · rw [if_pos q1] at e ⊢
    exact lyK_in c e
  rw [if_neg q1] at e ⊢
  by_cases q2 : 2000 ≤ r
  · rw [if_pos q2] at e ⊢
    exact lyK_in c e
  rw [if_neg q2] at e ⊢
  by_cases w0 : 1021 < r ∧ r ≤ 1027
  · rw [if_pos w0] at e ⊢
    cases e
    exact ⟨_, rfl, rfl, fun j _ => trivial⟩
  rw [if_neg w0] at e ⊢
  by_cases w1 : 1030 < r ∧ r ≤ 1036
  · rw [if_pos w1] at e ⊢
    cases e
    exact ⟨_, rfl, rfl, fun j _ => trivial⟩
  rw [if_neg w1] at e ⊢
  by_cases w2 : 1050 < r ∧ r ≤ 1114
  · rw [if_pos w2] at e ⊢
    cases e
    exact ⟨_, rfl, rfl, fun j _ => trivial⟩
  rw [if_neg w2] at e ⊢
  by_cases w3 : 1120 < r ∧ r ≤ 1124
  · rw [if_pos w3] at e ⊢
    cases e
    exact ⟨_, rfl, rfl, fun j _ => trivial⟩
  rw [if_neg w3] at e ⊢
  by_cases w4 : 1130 < r ∧ r ≤ 1133
  · rw [if_pos w4] at e ⊢
    cases e
    exact ⟨_, rfl, rfl, fun j _ => trivial⟩
  rw [if_neg w4] at e ⊢
  by_cases w5 : 1140 < r ∧ r ≤ 1145
  · rw [if_pos w5] at e ⊢
    cases e
    exact ⟨_, rfl, rfl, fun j _ => trivial⟩
  rw [if_neg w5] at e ⊢
  split at e <;> first | (cases e; done) | (cases e; exact ⟨_, rfl, rfl, fun j h => h⟩) | (cases e; exact ⟨_, rfl, rfl, fun j _ => trivial⟩) | (cases e; refine ⟨_, rfl, rfl, fun j => ?_⟩; (try dsimp only); split <;> first | exact id | exact fun _ => trivial)
theorem setC_dom {σ σ' : XS9} {h : XH} {r : Nat} (hr : (setC σ h r).isSome = true) : (setC σ' h r).isSome = true := by
  unfold setC at *
  split
  · rename_i e
    rw [if_pos e] at hr
    cases e2 : lyC r (σ r) with
    | none => rw [e2] at hr; cases hr
    | some c =>
      obtain ⟨c', e3, -⟩ := lyC_in (H := fun _ => none) (s' := σ' r) c e2
      rw [e3]
      rfl
  · rename_i e
    rw [if_neg e] at hr
    exact hr
theorem setC_cls {σ σ' : XS9} {h : XH} (hcl : xx_cls (setC σ h)) : xx_cls (setC σ' h) := by
  have mono : ∀ v, xx_in (setC σ h) v → xx_in (setC σ' h) v := fun v hv => xx_in_of (fun a ha => setC_dom ha) hv
  intro r c j hc hj
  by_cases e : 1000 ≤ r ∧ r < 4000
  · unfold setC at hc
    rw [if_pos e] at hc
    obtain ⟨c', e1, e2, e3⟩ := lyC_in (H := setC σ h) (s' := σ r) c hc
    have := hcl r c' j (by unfold setC; rw [if_pos e]; exact e1) (by rw [e2]; exact hj)
    exact mono _ (e3 j this)
  · have : setC σ h r = some c := by
      unfold setC at hc ⊢
      rw [if_neg e] at hc ⊢
      exact hc
    exact mono _ (hcl r c j this hj)
theorem hB_sub {σ : XS9} {h : XH} {c : Nat} {b : Int32} {G : Nat → Value} (h0 : h 4000 = none) (h1 : h 4001 = none) : xx_sub (setC σ h) (setC σ (hB h c b G)) := by
  intro q d hq
  unfold setC at hq ⊢
  split at hq
  · rename_i e
    rw [if_pos e]
    exact hq
  · rename_i e
    rw [if_neg e]
    unfold hB xx_up
    by_cases a1 : q = 4001
    · rw [a1, h1] at hq
      cases hq
    · rw [if_neg a1]
      by_cases a0 : q = 4000
      · rw [a0, h0] at hq
        cases hq
      · rw [if_neg a0]
        exact hq
abbrev hX9 (h : XH) (c : Nat) (b : Int32) (G : Nat → Value) : XH := hB h c b G
abbrev XG9 : Type := Int64 × Nat × Int32 × (Nat → Value)
def s_dgR (σ : XS9) (C : Nat) (sp : Nat → Nat) (i : Nat) (s : XG9) : XG9 := (f_withRegion σ s.1 i C sp, 2 * sp i - 1, (if s.2.1 = 0 then s.2.2.1 else 1), gD (σ (1141 + i)) s.2.2.2 (sp i))
def d_dg0 (σ : XS9) (K B R C w : Nat) (cnt : Nat → Nat) : Int64 := xit (fun i s => f_mixed s (f_saleFact σ K B R C w cnt i).toInt64) 17 0 58282
def d_dgR (σ : XS9) (K B R C w : Nat) (cnt sp : Nat → Nat) : XG9 := xit (s_dgR σ C sp) R 0 (d_dg0 σ K B R C w cnt, 0, 0, fun _ => .int 0)
def d_dgB (σ : XS9) (B w : Nat) (cnt : Nat → Nat) (a : Int64) : Int64 := xit (fun i s => f_withBidder σ s i w cnt) B 0 a
def d_dg1 (σ : XS9) (K B R C w : Nat) (cnt sp : Nat → Nat) : Int64 := f_withLastRound σ (d_dgB σ B w cnt (d_dgR σ K B R C w cnt sp).1) R B K
def g_dgS (σ : XS9) (C : Nat) (rg : Nat → Nat) : XS9 := if 0 < C then g_cheapest (g_cheapest σ 1 C rg) 2 C rg else σ
def d_dgS (σ : XS9) (C : Nat) (rg : Nat → Nat) (a : Int64) : Int64 := if 0 < C then f_mixed (f_mixed a (f_cheapest σ 1 C rg).toInt64) (f_cheapest (g_cheapest σ 1 C rg) 2 C rg).toInt64 else a
def f_digest (σ : XS9) (K B R C w : Nat) (cnt sp rg : Nat → Nat) : Int64 := f_mixed (d_dgS σ C rg (d_dg1 σ K B R C w cnt sp)) (if f_isSound (g_dgS σ C rg) R B w K = 0 then 0 else 1)
def g_digest (σ : XS9) (K B R C w : Nat) (rg : Nat → Nat) : XS9 := g_isSound (g_dgS σ C rg) R B w K
theorem ct_X7_digest {l : Launch} {h : XH} (hl : l.stackTraces = false) {σ : XS9} {K : Nat} (hK : σ 2000 9 = nI K) (hK60 : K ≤ 60) {B : Nat} (hB : σ 1001 9 = nI B) (hB6 : B ≤ 6) {R : Nat} (hR : σ 1001 4 = nI R) (hR5 : R ≤ 5) {C : Nat} (hC : σ 1006 1 = nI C) (hC10 : C ≤ 10) {w : Nat} (hw : σ 1000 9 = nI w) (hw3 : w < 3) {cnt : Nat → Nat} (hct : ∀ i, i < 6 → σ 1020 i = nI (cnt i) ∧ cnt i ≤ 6) (ham : ∀ i k, i < 6 → k < 6 → 0 ≤ σ (1031 + i) k) {sp : Nat → Nat} (hsp : ∀ r, r < 5 → σ 1010 r = nI (sp r) ∧ sp r ≤ 5) (hho : ∀ r, r < R → ∀ k, k < sp r → σ (1141 + r) k = -1 ∨ ∃ x, x < 10 ∧ σ (1141 + r) k = nI x) {rg : Nat → Nat} (hrg : ∀ i, i < C → σ 1151 i = nI (rg i) ∧ rg i < 5) (hdg : xx_dig h) (h0 : h 4000 = none) (h1 : h 4001 = none)  : XEx l m_X7_digest 14 2 20 [.ref 1000] (setC σ h) (some (.long (f_digest σ K B R C w cnt sp rg))) (setC (g_digest σ K B R C w rg) h) := by
  refine XMet.of hl rfl rfl (Nat.le_of_ble_eq_true rfl) (fun Y O hh hQ => ?_)
  refine sw_cls (fun hcl => ?_)
  show SW Y 2 20 (setC σ h) 0 [.ref 1000, xx_d, xx_d, xx_d, xx_d] []
  refine sw_ldc2 O ct_X7_346 (xx_dt dd_X7_digest 0 rfl) ?_
  refine sw_lstore_n (ls2 := [.ref 1000, .long 58282, xx_d, xx_d, xx_d]) O (xx_dt dd_X7_digest 1 rfl) (by decide) rfl ?_
  refine sw_iconst (x := 0) O (xx_dt dd_X7_digest 2 rfl) (by decide) ?_
  refine sw_istore_n (ls2 := [.ref 1000, .long 58282, xx_d, .int 0, xx_d]) O (xx_dt dd_X7_digest 3 rfl) (by decide) rfl ?_
  refine sw_for (fun i s => f_mixed s (f_saleFact σ K B R C w cnt i).toInt64) (fun _ _ => True) (hp := fun _ => setC σ h) (hd := 6) (lc := fun i s => [.ref 1000, .long s, xx_d, .int (nI i), xx_d]) (N := 17) (fun i6 s6 hi6 hP6 => ⟨trivial, fun kk6 => ?_⟩) 17 0 58282 (by omega) trivial (fun hP6 => ?_)
  · refine sw_iload_n O (xx_dt dd_X7_digest 4 rfl) rfl ?_
    refine sw_bipush (x := 17) O (xx_dt dd_X7_digest 5 rfl) (by decide) ?_
    refine sw_icmp_ge (tgt := 29) O (xx_dt dd_X7_digest 6 rfl) (by decide) (fun q => absurd q (nI_ge (b := 17) hi6 (by omega))) (fun q => ?_)
    refine sw_lload_n O (xx_dt dd_X7_digest 7 rfl) rfl ?_
    refine sw_aload_n O (xx_dt dd_X7_digest 8 rfl) rfl ?_
    refine sw_iload_n O (xx_dt dd_X7_digest 9 rfl) rfl ?_
    refine sw_callVx (k := 2) (n := 20) (k' := 0) (n' := 0) (as := [.int (nI i6)]) (st := [.long s6]) (st2 := [.int (f_saleFact σ K B R C w cnt i6), .long s6]) O (ct_X7_saleFact hl hK hK60 hB hB6 hR hR5 hC hC10 hw hw3 hct ham (v := i6) (by omega)) ce_X7_saleFact ml_X7_304 iv_X7_saleFact cl_X7 rfl (ly_1000 σ h) (xx_dt dd_X7_digest 10 rfl) (by decide) rfl rfl (Nat.le_of_ble_eq_true rfl) rfl ?_
    refine sw_i2l O (xx_dt dd_X7_digest 11 rfl) ?_
    refine sw_callSx (k := 2) (n := 20) (k' := 0) (n' := 0) (as := [.long s6, .long (Int32.toInt64 (f_saleFact σ K B R C w cnt i6))]) (st := []) (st2 := [.long (f_mixed s6 (Int32.toInt64 (f_saleFact σ K B R C w cnt i6)))]) O (ct_X7_mixed hl) ce_X7_mixed ml_X7_348 st_X7_mixed (xx_dt dd_X7_digest 12 rfl) (by decide) rfl rfl (Nat.le_of_ble_eq_true rfl) rfl ?_
    refine sw_lstore_n (ls2 := [.ref 1000, .long (f_mixed s6 (Int32.toInt64 (f_saleFact σ K B R C w cnt i6))), xx_d, .int (nI i6), xx_d]) O (xx_dt dd_X7_digest 13 rfl) (by decide) rfl ?_
    refine sw_iinc (y := nI (i6 + 1)) (ls2 := [.ref 1000, .long (f_mixed s6 (Int32.toInt64 (f_saleFact σ K B R C w cnt i6))), xx_d, .int (nI (i6 + 1)), xx_d]) O (xx_dt dd_X7_digest 14 rfl) rfl (nI_1 _) (by decide) rfl ?_
    refine sw_goto (tgt := 6) O (xx_dt dd_X7_digest 15 rfl) (by decide) ?_
    exact kk6
  show SW Y 2 20 (setC σ h) 6 [.ref 1000, .long (d_dg0 σ K B R C w cnt), xx_d, .int (nI 17), xx_d] []
  refine sw_iload_n O (xx_dt dd_X7_digest 4 rfl) rfl ?_
  refine sw_bipush (x := 17) O (xx_dt dd_X7_digest 5 rfl) (by decide) ?_
  refine sw_icmp_ge (tgt := 29) O (xx_dt dd_X7_digest 6 rfl) (by decide) (fun q => ?_) (fun q => absurd (Int32.le_refl _) q)
  refine sw_new (k := 1) (n := 16) (r := 4000) O (xx_dt dd_X7_digest 16 rfl) cl_J4 nw_X7_293 (show setC σ h 4000 = none from (setC_out (by omega)).trans h0) (by omega) ?_
  rw [xx_blk_up]
  refine sw_dup O (xx_dt dd_X7_digest 17 rfl) rfl ?_
  refine sw_callIx (k := 0) (n := 0) (k' := 1) (n' := 16) (as := []) (st := [.ref 4000]) (st2 := [.ref 4000]) O (sb_init hl (h := xx_up (setC σ h) 4000 (1, 4, fun j => defaultValue (tyJ4 j))) (r := 4000) (v := 4001) (xx_up_eq _ _ _) (by omega) ((xx_up_ne (by omega)).trans (show setC σ h 4001 = none from (setC_out (by omega)).trans h1)) (by omega)) ce_J4_init_da8c8 ml_X7_295 ii_J4_init_da8c8 (xx_dt dd_X7_digest 18 rfl) (by decide) rfl rfl (Nat.le_of_ble_eq_true rfl) rfl ?_
  rw [hB_new]
  refine sw_astore_n (ls2 := [.ref 1000, .long (d_dg0 σ K B R C w cnt), xx_d, .ref 4000, xx_d]) O (xx_dt dd_X7_digest 19 rfl) (by decide) rfl ?_
  refine sw_iconst (x := 0) O (xx_dt dd_X7_digest 20 rfl) (by decide) ?_
  refine sw_istore (ls2 := [.ref 1000, .long (d_dg0 σ K B R C w cnt), xx_d, .ref 4000, .int 0]) O (xx_dt dd_X7_digest 21 rfl) (by decide) rfl ?_
  refine sw_for (S := XG9) (s_dgR σ C sp) (fun _ s => s.2.1 ≤ 16) (hp := fun s => setC σ (hX9 h s.2.1 s.2.2.1 s.2.2.2)) (hd := 40) (lc := fun i s => [.ref 1000, .long s.1, xx_d, .ref 4000, .int (nI i)]) (N := R) (fun i6 s6 hi6 hP6 => ⟨?_, fun kk6 => ?_⟩) R 0 (d_dg0 σ K B R C w cnt, 0, 0, fun _ => .int 0) (by omega) (Nat.zero_le _) (fun hP40 => ?_)
  · have := (hsp i6 (by omega)).2
    show 2 * sp i6 - 1 ≤ 16
    omega
  · refine sw_iload O (xx_dt dd_X7_digest 22 rfl) rfl ?_
    refine sw_aload_n O (xx_dt dd_X7_digest 23 rfl) rfl ?_
    refine sw_get (v := .ref 1001) O (xx_dt dd_X7_digest 24 rfl) cl_X7 fl_X7_12 (ly_1000 σ (hX9 h s6.2.1 s6.2.2.1 s6.2.2.2)) (by decide) rfl ?_
    refine sw_get (v := .int (nI R)) O (xx_dt dd_X7_digest 25 rfl) cl_X6 fl_X7_69 (ly_1001 σ (hX9 h s6.2.1 s6.2.2.1 s6.2.2.2)) (by decide) (congrArg Value.int hR) ?_
    refine sw_icmp_ge (tgt := 67) O (xx_dt dd_X7_digest 26 rfl) (by decide) (fun q => absurd q (nI_ge (b := R) hi6 (by omega))) (fun q => ?_)
    refine sw_aload_n O (xx_dt dd_X7_digest 27 rfl) rfl ?_
    refine sw_lload_n O (xx_dt dd_X7_digest 28 rfl) rfl ?_
    refine sw_iload O (xx_dt dd_X7_digest 29 rfl) rfl ?_
    refine sw_aload_n O (xx_dt dd_X7_digest 30 rfl) rfl ?_
    refine sw_callVx (k := 0) (n := 0) (k' := 0) (n' := 0) (as := [.long s6.1, .int (nI i6), .ref 4000]) (st := []) (st2 := [.long (f_withRegion σ s6.1 i6 C sp)]) O (ct_X7_withRegion hl hR hR5 hC hC10 hsp hho hdg hP6 hi6) ce_X7_withRegion ml_X7_352 iv_X7_withRegion cl_X7 rfl (ly_1000 σ _) (xx_dt dd_X7_digest 31 rfl) (by decide) rfl rfl (Nat.le_of_ble_eq_true rfl) rfl ?_
    refine sw_lstore_n (ls2 := [.ref 1000, .long (f_withRegion σ s6.1 i6 C sp), xx_d, .ref 4000, .int (nI i6)]) O (xx_dt dd_X7_digest 32 rfl) (by decide) rfl ?_
    refine sw_iinc (y := nI (i6 + 1)) (ls2 := [.ref 1000, .long (f_withRegion σ s6.1 i6 C sp), xx_d, .ref 4000, .int (nI (i6 + 1))]) O (xx_dt dd_X7_digest 33 rfl) rfl (nI_1 _) (by decide) rfl ?_
    refine sw_goto (tgt := 40) O (xx_dt dd_X7_digest 34 rfl) (by decide) ?_
    exact kk6
  show SW Y 0 0 (setC σ (hX9 h (d_dgR σ K B R C w cnt sp).2.1 (d_dgR σ K B R C w cnt sp).2.2.1 (d_dgR σ K B R C w cnt sp).2.2.2)) 40 [.ref 1000, .long (d_dgR σ K B R C w cnt sp).1, xx_d, .ref 4000, .int (nI R)] []
  refine sw_iload O (xx_dt dd_X7_digest 22 rfl) rfl ?_
  refine sw_aload_n O (xx_dt dd_X7_digest 23 rfl) rfl ?_
  refine sw_get (v := .ref 1001) O (xx_dt dd_X7_digest 24 rfl) cl_X7 fl_X7_12 (ly_1000 σ (hX9 h (d_dgR σ K B R C w cnt sp).2.1 (d_dgR σ K B R C w cnt sp).2.2.1 (d_dgR σ K B R C w cnt sp).2.2.2)) (by decide) rfl ?_
  refine sw_get (v := .int (nI R)) O (xx_dt dd_X7_digest 25 rfl) cl_X6 fl_X7_69 (ly_1001 σ (hX9 h (d_dgR σ K B R C w cnt sp).2.1 (d_dgR σ K B R C w cnt sp).2.2.1 (d_dgR σ K B R C w cnt sp).2.2.2)) (by decide) (congrArg Value.int hR) ?_
  refine sw_icmp_ge (tgt := 67) O (xx_dt dd_X7_digest 26 rfl) (by decide) (fun q => ?_) (fun q => absurd (Int32.le_refl _) q)
  refine sw_iconst (x := 0) O (xx_dt dd_X7_digest 35 rfl) (by decide) ?_
  refine sw_istore (ls2 := [.ref 1000, .long ((d_dgR σ K B R C w cnt sp).1), xx_d, .ref 4000, .int 0]) O (xx_dt dd_X7_digest 36 rfl) (by decide) rfl ?_
  refine sw_for (fun i s => f_withBidder σ s i w cnt) (fun _ _ => True) (hp := fun _ => setC σ (hX9 h (d_dgR σ K B R C w cnt sp).2.1 (d_dgR σ K B R C w cnt sp).2.2.1 (d_dgR σ K B R C w cnt sp).2.2.2)) (hd := 70) (lc := fun i s => [.ref 1000, .long s, xx_d, .ref 4000, .int (nI i)]) (N := B) (fun i6 s6 hi6 hP6 => ⟨trivial, fun kk6 => ?_⟩) B 0 ((d_dgR σ K B R C w cnt sp).1) (by omega) trivial (fun hP6 => ?_)
  · refine sw_iload O (xx_dt dd_X7_digest 37 rfl) rfl ?_
    refine sw_aload_n O (xx_dt dd_X7_digest 38 rfl) rfl ?_
    refine sw_get (v := .ref 1001) O (xx_dt dd_X7_digest 39 rfl) cl_X7 fl_X7_12 (ly_1000 σ (hX9 h (d_dgR σ K B R C w cnt sp).2.1 (d_dgR σ K B R C w cnt sp).2.2.1 (d_dgR σ K B R C w cnt sp).2.2.2)) (by decide) rfl ?_
    refine sw_get (v := .int (nI B)) O (xx_dt dd_X7_digest 40 rfl) cl_X6 fl_X7_100 (ly_1001 σ (hX9 h (d_dgR σ K B R C w cnt sp).2.1 (d_dgR σ K B R C w cnt sp).2.2.1 (d_dgR σ K B R C w cnt sp).2.2.2)) (by decide) (congrArg Value.int hB) ?_
    refine sw_icmp_ge (tgt := 96) O (xx_dt dd_X7_digest 41 rfl) (by decide) (fun q => absurd q (nI_ge (b := B) hi6 (by omega))) (fun q => ?_)
    refine sw_aload_n O (xx_dt dd_X7_digest 42 rfl) rfl ?_
    refine sw_lload_n O (xx_dt dd_X7_digest 43 rfl) rfl ?_
    refine sw_iload O (xx_dt dd_X7_digest 44 rfl) rfl ?_
    refine sw_callVx (k := 0) (n := 0) (k' := 0) (n' := 0) (as := [.long s6, .int (nI i6)]) (st := []) (st2 := [.long (f_withBidder σ s6 i6 w cnt)]) O (ct_X7_withBidder hl hw hw3 hct (by omega)) ce_X7_withBidder ml_X7_356 iv_X7_withBidder cl_X7 rfl (ly_1000 σ _) (xx_dt dd_X7_digest 45 rfl) (by decide) rfl rfl (Nat.le_of_ble_eq_true rfl) rfl ?_
    refine sw_lstore_n (ls2 := [.ref 1000, .long (f_withBidder σ s6 i6 w cnt), xx_d, .ref 4000, .int (nI i6)]) O (xx_dt dd_X7_digest 46 rfl) (by decide) rfl ?_
    refine sw_iinc (y := nI (i6 + 1)) (ls2 := [.ref 1000, .long (f_withBidder σ s6 i6 w cnt), xx_d, .ref 4000, .int (nI (i6 + 1))]) O (xx_dt dd_X7_digest 47 rfl) rfl (nI_1 _) (by decide) rfl ?_
    refine sw_goto (tgt := 70) O (xx_dt dd_X7_digest 48 rfl) (by decide) ?_
    exact kk6
  show SW Y 0 0 (setC σ (hX9 h (d_dgR σ K B R C w cnt sp).2.1 (d_dgR σ K B R C w cnt sp).2.2.1 (d_dgR σ K B R C w cnt sp).2.2.2)) 70 [.ref 1000, .long (d_dgB σ B w cnt (d_dgR σ K B R C w cnt sp).1), xx_d, .ref 4000, .int (nI B)] []
  refine sw_iload O (xx_dt dd_X7_digest 37 rfl) rfl ?_
  refine sw_aload_n O (xx_dt dd_X7_digest 38 rfl) rfl ?_
  refine sw_get (v := .ref 1001) O (xx_dt dd_X7_digest 39 rfl) cl_X7 fl_X7_12 (ly_1000 σ (hX9 h (d_dgR σ K B R C w cnt sp).2.1 (d_dgR σ K B R C w cnt sp).2.2.1 (d_dgR σ K B R C w cnt sp).2.2.2)) (by decide) rfl ?_
  refine sw_get (v := .int (nI B)) O (xx_dt dd_X7_digest 40 rfl) cl_X6 fl_X7_100 (ly_1001 σ (hX9 h (d_dgR σ K B R C w cnt sp).2.1 (d_dgR σ K B R C w cnt sp).2.2.1 (d_dgR σ K B R C w cnt sp).2.2.2)) (by decide) (congrArg Value.int hB) ?_
  refine sw_icmp_ge (tgt := 96) O (xx_dt dd_X7_digest 41 rfl) (by decide) (fun q => ?_) (fun q => absurd (Int32.le_refl _) q)
  refine sw_aload_n O (xx_dt dd_X7_digest 49 rfl) rfl ?_
  refine sw_lload_n O (xx_dt dd_X7_digest 50 rfl) rfl ?_
  refine sw_callVx (k := 0) (n := 0) (k' := 0) (n' := 0) (as := [.long (d_dgB σ B w cnt (d_dgR σ K B R C w cnt sp).1)]) (st := []) (st2 := [.long (d_dg1 σ K B R C w cnt sp)]) O (ct_X7_withLastRound hl hR hR5 hB hB6 hK hK60) ce_X7_withLastRound ml_X7_360 iv_X7_withLastRound cl_X7 rfl (ly_1000 σ _) (xx_dt dd_X7_digest 51 rfl) (by decide) rfl rfl (Nat.le_of_ble_eq_true rfl) rfl ?_
  refine sw_lstore_n (ls2 := [.ref 1000, .long (d_dg1 σ K B R C w cnt sp), xx_d, .ref 4000, .int (nI B)]) O (xx_dt dd_X7_digest 52 rfl) (by decide) rfl ?_
  refine sw_aload_n O (xx_dt dd_X7_digest 53 rfl) rfl ?_
  refine sw_get (v := .ref 1006) O (xx_dt dd_X7_digest 54 rfl) cl_X7 fl_X7_50 (ly_1000 σ (hX9 h (d_dgR σ K B R C w cnt sp).2.1 (d_dgR σ K B R C w cnt sp).2.2.1 (d_dgR σ K B R C w cnt sp).2.2.2)) (by decide) rfl ?_
  refine sw_get (v := .int (nI C)) O (xx_dt dd_X7_digest 55 rfl) cl_X5 fl_X7_215 (ly_1006 σ (hX9 h (d_dgR σ K B R C w cnt sp).2.1 (d_dgR σ K B R C w cnt sp).2.2.1 (d_dgR σ K B R C w cnt sp).2.2.2)) (by decide) (congrArg Value.int hC) ?_
  refine sw_if_le (tgt := 148) O (xx_dt dd_X7_digest 56 rfl) (by decide) (fun q => ?_) (fun q => ?_)
  · have h9 : ¬ 0 < C := fun e => by
      obtain ⟨c, rfl⟩ : ∃ c, C = c + 1 := ⟨C - 1, by omega⟩
      exact absurd ((nI_leI (a := c + 1) (b := 0) (by omega) (by omega)).mp q) (by omega)
    have eg : (0 < C) = False := eq_false h9
    have eg := eg
    refine sw_lload_n O (xx_dt dd_X7_digest 77 rfl) rfl ?_
    refine sw_aload_n O (xx_dt dd_X7_digest 78 rfl) rfl ?_
    refine sw_callVx (k := 0) (n := 0) (k' := 0) (n' := 0) (as := []) (st := [.long (d_dg1 σ K B R C w cnt sp)]) (st2 := [.int (f_isSound σ R B w K), .long (d_dg1 σ K B R C w cnt sp)]) O (ct_X7_isSound hl hR hR5 hB hB6 hw hw3 hK hK60) ce_X7_isSound ml_X7_364 iv_X7_isSound cl_X7 rfl (ly_1000 _ _) (xx_dt dd_X7_digest 79 rfl) (by decide) rfl rfl (Nat.le_of_ble_eq_true rfl) rfl ?_
    refine sw_if_eq (tgt := 160) O (xx_dt dd_X7_digest 80 rfl) (by decide) (fun q2 => ?_) (fun q2 => ?_)
    · refine sw_lconst O (xx_dt dd_X7_digest 83 rfl) ?_
      refine sw_callSx (k := 0) (n := 0) (k' := 0) (n' := 0) (as := [.long (d_dg1 σ K B R C w cnt sp), .long 0]) (st := []) (st2 := [.long (f_mixed (d_dg1 σ K B R C w cnt sp) 0)]) O (ct_X7_mixed hl) ce_X7_mixed ml_X7_348 st_X7_mixed (xx_dt dd_X7_digest 84 rfl) (by decide) rfl rfl (Nat.le_of_ble_eq_true rfl) rfl ?_
      exact sw_lretD (h' := setC (g_digest σ K B R C w rg) h) O (xx_dt dd_X7_digest 85 rfl) rfl (by unfold g_digest; simp only [g_dgS, if_neg h9]; exact hB_sub h0 h1) (setC_cls hcl) (by rw [hh]; exact fun r hr => setC_dom hr) (by rw [hQ]; exact ⟨by unfold f_digest; simp only [d_dgS, g_dgS, if_neg h9, if_pos q2], rfl⟩)
    · refine sw_lconst O (xx_dt dd_X7_digest 81 rfl) ?_
      refine sw_goto (tgt := 161) O (xx_dt dd_X7_digest 82 rfl) (by decide) ?_
      refine sw_callSx (k := 0) (n := 0) (k' := 0) (n' := 0) (as := [.long (d_dg1 σ K B R C w cnt sp), .long 1]) (st := []) (st2 := [.long (f_mixed (d_dg1 σ K B R C w cnt sp) 1)]) O (ct_X7_mixed hl) ce_X7_mixed ml_X7_348 st_X7_mixed (xx_dt dd_X7_digest 84 rfl) (by decide) rfl rfl (Nat.le_of_ble_eq_true rfl) rfl ?_
      exact sw_lretD (h' := setC (g_digest σ K B R C w rg) h) O (xx_dt dd_X7_digest 85 rfl) rfl (by unfold g_digest; simp only [g_dgS, if_neg h9]; exact hB_sub h0 h1) (setC_cls hcl) (by rw [hh]; exact fun r hr => setC_dom hr) (by rw [hQ]; exact ⟨by unfold f_digest; simp only [d_dgS, g_dgS, if_neg h9, if_neg q2], rfl⟩)
  · have h9 : 0 < C := by
      rcases Nat.eq_zero_or_pos C with e | e
      · rw [e] at q
        exact absurd (Int32.le_refl _) q
      · exact e
    have F1 : ∀ {q : Nat}, q ≠ 1152 ∧ q ≠ 1153 → g_cheapest σ 1 C rg q = σ q := fun h => fr_cheapest h
    refine sw_lload_n O (xx_dt dd_X7_digest 57 rfl) rfl ?_
    refine sw_aload_n O (xx_dt dd_X7_digest 58 rfl) rfl ?_
    refine sw_get (v := .ref 1006) O (xx_dt dd_X7_digest 59 rfl) cl_X7 fl_X7_50 (ly_1000 σ (hX9 h (d_dgR σ K B R C w cnt sp).2.1 (d_dgR σ K B R C w cnt sp).2.2.1 (d_dgR σ K B R C w cnt sp).2.2.2)) (by decide) rfl ?_
    refine sw_aload_n O (xx_dt dd_X7_digest 60 rfl) rfl ?_
    refine sw_get (v := .ref 1001) O (xx_dt dd_X7_digest 61 rfl) cl_X7 fl_X7_12 (ly_1000 σ (hX9 h (d_dgR σ K B R C w cnt sp).2.1 (d_dgR σ K B R C w cnt sp).2.2.1 (d_dgR σ K B R C w cnt sp).2.2.2)) (by decide) rfl ?_
    refine sw_iconst (x := 1) O (xx_dt dd_X7_digest 62 rfl) (by decide) ?_
    refine sw_callVx (k := 0) (n := 0) (k' := 0) (n' := 0) (as := [.ref 1001, .int (nI 1)]) (st := [.long (d_dg1 σ K B R C w cnt sp)]) (st2 := [.int (f_cheapest σ 1 C rg), .long (d_dg1 σ K B R C w cnt sp)]) O (ct_X5_cheapest hl hC hC10 hrg (ch := 1) (by omega)) ce_X5_cheapest ml_X7_239 iv_X5_cheapest cl_X5 rfl (ly_1006 _ _) (xx_dt dd_X7_digest 63 rfl) (by decide) rfl rfl (Nat.le_of_ble_eq_true rfl) rfl ?_
    refine sw_i2l O (xx_dt dd_X7_digest 64 rfl) ?_
    refine sw_callSx (k := 0) (n := 0) (k' := 0) (n' := 0) (as := [.long (d_dg1 σ K B R C w cnt sp), .long (Int32.toInt64 (f_cheapest σ 1 C rg))]) (st := []) (st2 := [.long (f_mixed (d_dg1 σ K B R C w cnt sp) (Int32.toInt64 (f_cheapest σ 1 C rg)))]) O (ct_X7_mixed hl) ce_X7_mixed ml_X7_348 st_X7_mixed (xx_dt dd_X7_digest 65 rfl) (by decide) rfl rfl (Nat.le_of_ble_eq_true rfl) rfl ?_
    refine sw_lstore_n (ls2 := [.ref 1000, .long (f_mixed (d_dg1 σ K B R C w cnt sp) (Int32.toInt64 (f_cheapest σ 1 C rg))), xx_d, .ref 4000, .int (nI B)]) O (xx_dt dd_X7_digest 66 rfl) (by decide) rfl ?_
    refine sw_lload_n O (xx_dt dd_X7_digest 67 rfl) rfl ?_
    refine sw_aload_n O (xx_dt dd_X7_digest 68 rfl) rfl ?_
    refine sw_get (v := .ref 1006) O (xx_dt dd_X7_digest 69 rfl) cl_X7 fl_X7_50 (ly_1000 (g_cheapest σ 1 C rg) (hX9 h (d_dgR σ K B R C w cnt sp).2.1 (d_dgR σ K B R C w cnt sp).2.2.1 (d_dgR σ K B R C w cnt sp).2.2.2)) (by decide) rfl ?_
    refine sw_aload_n O (xx_dt dd_X7_digest 70 rfl) rfl ?_
    refine sw_get (v := .ref 1001) O (xx_dt dd_X7_digest 71 rfl) cl_X7 fl_X7_12 (ly_1000 (g_cheapest σ 1 C rg) (hX9 h (d_dgR σ K B R C w cnt sp).2.1 (d_dgR σ K B R C w cnt sp).2.2.1 (d_dgR σ K B R C w cnt sp).2.2.2)) (by decide) rfl ?_
    refine sw_iconst (x := 2) O (xx_dt dd_X7_digest 72 rfl) (by decide) ?_
    refine sw_callVx (k := 0) (n := 0) (k' := 0) (n' := 0) (as := [.ref 1001, .int (nI 2)]) (st := [.long (f_mixed (d_dg1 σ K B R C w cnt sp) (Int32.toInt64 (f_cheapest σ 1 C rg)))]) (st2 := [.int (f_cheapest (g_cheapest σ 1 C rg) 2 C rg), .long (f_mixed (d_dg1 σ K B R C w cnt sp) (Int32.toInt64 (f_cheapest σ 1 C rg)))]) O (ct_X5_cheapest hl ((congrFun (F1 (by omega)) 1).trans hC) hC10 (fun i hi => by rw [F1 (by omega)]; exact hrg i hi) (ch := 2) (by omega)) ce_X5_cheapest ml_X7_239 iv_X5_cheapest cl_X5 rfl (ly_1006 _ _) (xx_dt dd_X7_digest 73 rfl) (by decide) rfl rfl (Nat.le_of_ble_eq_true rfl) rfl ?_
    refine sw_i2l O (xx_dt dd_X7_digest 74 rfl) ?_
    refine sw_callSx (k := 0) (n := 0) (k' := 0) (n' := 0) (as := [.long (f_mixed (d_dg1 σ K B R C w cnt sp) (Int32.toInt64 (f_cheapest σ 1 C rg))), .long (Int32.toInt64 (f_cheapest (g_cheapest σ 1 C rg) 2 C rg))]) (st := []) (st2 := [.long (f_mixed (f_mixed (d_dg1 σ K B R C w cnt sp) (Int32.toInt64 (f_cheapest σ 1 C rg))) (Int32.toInt64 (f_cheapest (g_cheapest σ 1 C rg) 2 C rg)))]) O (ct_X7_mixed hl) ce_X7_mixed ml_X7_348 st_X7_mixed (xx_dt dd_X7_digest 75 rfl) (by decide) rfl rfl (Nat.le_of_ble_eq_true rfl) rfl ?_
    refine sw_lstore_n (ls2 := [.ref 1000, .long (f_mixed (f_mixed (d_dg1 σ K B R C w cnt sp) (Int32.toInt64 (f_cheapest σ 1 C rg))) (Int32.toInt64 (f_cheapest (g_cheapest σ 1 C rg) 2 C rg))), xx_d, .ref 4000, .int (nI B)]) O (xx_dt dd_X7_digest 76 rfl) (by decide) rfl ?_
    have F2 : ∀ {q : Nat}, q ≠ 1152 ∧ q ≠ 1153 → (g_cheapest (g_cheapest σ 1 C rg) 2 C rg) q = σ q := fun {q : Nat} (h : q ≠ 1152 ∧ q ≠ 1153) => (fr_cheapest h).trans (fr_cheapest h)
    refine sw_lload_n O (xx_dt dd_X7_digest 77 rfl) rfl ?_
    refine sw_aload_n O (xx_dt dd_X7_digest 78 rfl) rfl ?_
    refine sw_callVx (k := 0) (n := 0) (k' := 0) (n' := 0) (as := []) (st := [.long (f_mixed (f_mixed (d_dg1 σ K B R C w cnt sp) (Int32.toInt64 (f_cheapest σ 1 C rg))) (Int32.toInt64 (f_cheapest (g_cheapest σ 1 C rg) 2 C rg)))]) (st2 := [.int (f_isSound (g_cheapest (g_cheapest σ 1 C rg) 2 C rg) R B w K), .long (f_mixed (f_mixed (d_dg1 σ K B R C w cnt sp) (Int32.toInt64 (f_cheapest σ 1 C rg))) (Int32.toInt64 (f_cheapest (g_cheapest σ 1 C rg) 2 C rg)))]) O (ct_X7_isSound hl ((congrFun (F2 (q := 1001) (by omega)) 4).trans hR) hR5 ((congrFun (F2 (q := 1001) (by omega)) 9).trans hB) hB6 ((congrFun (F2 (q := 1000) (by omega)) 9).trans hw) hw3 ((congrFun (F2 (q := 2000) (by omega)) 9).trans hK) hK60) ce_X7_isSound ml_X7_364 iv_X7_isSound cl_X7 rfl (ly_1000 _ _) (xx_dt dd_X7_digest 79 rfl) (by decide) rfl rfl (Nat.le_of_ble_eq_true rfl) rfl ?_
    refine sw_if_eq (tgt := 160) O (xx_dt dd_X7_digest 80 rfl) (by decide) (fun q2 => ?_) (fun q2 => ?_)
    · refine sw_lconst O (xx_dt dd_X7_digest 83 rfl) ?_
      refine sw_callSx (k := 0) (n := 0) (k' := 0) (n' := 0) (as := [.long (f_mixed (f_mixed (d_dg1 σ K B R C w cnt sp) (Int32.toInt64 (f_cheapest σ 1 C rg))) (Int32.toInt64 (f_cheapest (g_cheapest σ 1 C rg) 2 C rg))), .long 0]) (st := []) (st2 := [.long (f_mixed (f_mixed (f_mixed (d_dg1 σ K B R C w cnt sp) (Int32.toInt64 (f_cheapest σ 1 C rg))) (Int32.toInt64 (f_cheapest (g_cheapest σ 1 C rg) 2 C rg))) 0)]) O (ct_X7_mixed hl) ce_X7_mixed ml_X7_348 st_X7_mixed (xx_dt dd_X7_digest 84 rfl) (by decide) rfl rfl (Nat.le_of_ble_eq_true rfl) rfl ?_
      exact sw_lretD (h' := setC (g_digest σ K B R C w rg) h) O (xx_dt dd_X7_digest 85 rfl) rfl (by unfold g_digest; simp only [g_dgS, if_pos h9]; exact hB_sub h0 h1) (setC_cls hcl) (by rw [hh]; exact fun r hr => setC_dom hr) (by rw [hQ]; exact ⟨by unfold f_digest; simp only [d_dgS, g_dgS, if_pos h9, if_pos q2], rfl⟩)
    · refine sw_lconst O (xx_dt dd_X7_digest 81 rfl) ?_
      refine sw_goto (tgt := 161) O (xx_dt dd_X7_digest 82 rfl) (by decide) ?_
      refine sw_callSx (k := 0) (n := 0) (k' := 0) (n' := 0) (as := [.long (f_mixed (f_mixed (d_dg1 σ K B R C w cnt sp) (Int32.toInt64 (f_cheapest σ 1 C rg))) (Int32.toInt64 (f_cheapest (g_cheapest σ 1 C rg) 2 C rg))), .long 1]) (st := []) (st2 := [.long (f_mixed (f_mixed (f_mixed (d_dg1 σ K B R C w cnt sp) (Int32.toInt64 (f_cheapest σ 1 C rg))) (Int32.toInt64 (f_cheapest (g_cheapest σ 1 C rg) 2 C rg))) 1)]) O (ct_X7_mixed hl) ce_X7_mixed ml_X7_348 st_X7_mixed (xx_dt dd_X7_digest 84 rfl) (by decide) rfl rfl (Nat.le_of_ble_eq_true rfl) rfl ?_
      exact sw_lretD (h' := setC (g_digest σ K B R C w rg) h) O (xx_dt dd_X7_digest 85 rfl) rfl (by unfold g_digest; simp only [g_dgS, if_pos h9]; exact hB_sub h0 h1) (setC_cls hcl) (by rw [hh]; exact fun r hr => setC_dom hr) (by rw [hQ]; exact ⟨by unfold f_digest; simp only [d_dgS, g_dgS, if_pos h9, if_neg q2], rfl⟩)
