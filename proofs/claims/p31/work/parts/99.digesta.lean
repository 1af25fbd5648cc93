/-! ===== the reference: chart; digest, first part ===== -/
theorem ct_X14_chart {l : Launch} {h : XH} (hl : l.stackTraces = false) {z : Int64} {σ : XS9} (hbs : xx_bs h) (htl : xx_tl h) (hf4 : ∀ q, 20100 ≤ q → q < 20108 → h q = none) {R : Nat} (hR : σ 5001 900 = nI R) (hR5 : R ≤ 5) {B : Nat} (hB : σ 5002 900 = nI B) (hB6 : B ≤ 6) {pk : Nat → Nat} (hpk : ∀ j, j < B → σ (5030 + j) 900 = nI (2 * pk j) ∧ pk j ≤ 6) (hkp : σ 5000 1 = 3 → ∀ j, j < B → σ 5005 j = -1 ∨ ∃ n, n < pk j ∧ σ 5005 j = nI n) {tn : Nat → Nat} (htn : ∀ r, r < 5 → σ 5007 r = nI (tn r) ∧ tn r < 6) {sp : Nat → Nat} (hsp : ∀ r, r < R → σ (5010 + r) 0 = nI (sp r) ∧ sp r ≤ 5) {x : Int32} (hho : ∀ i s, i < R → s < sp i → f_MholderNow (u2 σ 5000 0 0) i (nI s) B tn = -1 ∨ n_lt (f_MholderNow (u2 σ 5000 0 0) i (nI s) B tn) 6) : XEx l m_X14_chart 9 24 158 [.ref 5000, .int x] (setM z σ h) (some (.ref (if n_lt x R then 20102 else 6))) (if n_lt x R then setM z (u2 σ 5000 0 0) (hTM h (2 * sp (cn x) - 1) (gD (fun s => f_MholderNow (u2 σ 5000 0 0) (cn x) (nI s) B tn) (fun _ => Value.int 0) (sp (cn x)))) else setM z (u2 σ 5000 0 1) h) := by
  refine XMet.of hl rfl rfl (Nat.le_of_ble_eq_true rfl) (fun Y O hh hQ => ?_)
  show SW Y 24 158 (setM z σ h) 0 [.ref 5000, .int x] []
  refine sw_aload_n O (xx_dt dd_X14_chart 0 rfl) rfl ?_
  refine sw_aload_n O (xx_dt dd_X14_chart 1 rfl) rfl ?_
  refine sw_iload_n O (xx_dt dd_X14_chart 2 rfl) rfl ?_
  refine sw_callVx (as := [.int x]) (st := [.ref 5000]) (st2 := [.int (bZ (n_lt x R)), .ref 5000]) O (ct_X14_isRegion hl (z := z) (σ := σ) hbs (R := R) hR (by omega) (x := x)) ce_X14_isRegion ml_X14_91 iv_X14_isRegion cl_X14 rfl (lm_mod (σ := σ)) (xx_dt dd_X14_chart 3 rfl) (by decide) rfl rfl (Nat.le_of_ble_eq_true rfl) rfl ?_
  refine sw_if_eqB (tgt := 13) O (xx_dt dd_X14_chart 4 rfl) (by decide) (fun q => ?_) (fun q => ?_)
  · refine sw_iconst (x := 1) O (xx_dt dd_X14_chart 7 rfl) (by decide) ?_
    refine sw_put (h2 := setM z (u2 σ 5000 0 1) h) O (xx_dt dd_X14_chart 8 rfl) cl_X14 fl_X14_46 (lm_mod (σ := σ)) (by decide) (by omega) rfl (fun _ => ⟨rfl, rfl⟩) (pm_mod (σ := σ) (by omega)) ?_
    refine sw_aload_n O (xx_dt dd_X14_chart 9 rfl) rfl ?_
    refine sw_get (v := .int 1) O (xx_dt dd_X14_chart 10 rfl) cl_X14 fl_X14_46 (lm_mod (σ := u2 σ 5000 0 1)) (by decide) rfl ?_
    refine sw_if_ne (tgt := 32) O (xx_dt dd_X14_chart 11 rfl) (by decide) (fun _ => ?_) (fun q9 => absurd q9 (by decide))
    obtain ⟨c6, hc6⟩ := tx_c htl.1.2.1
    refine sw_ldcT (a := 6) O (xx_dt dd_X14_chart 16 rfl) (.tail _ (.head _)) ((setM_out (by omega)).trans hc6) (by omega) ?_
    exact sw_aret O (xx_dt dd_X14_chart 17 rfl) rfl (.inl ⟨_, rfl⟩) (by rw [hQ]; exact ⟨by rw [if_neg q], by rw [if_neg q]⟩)
  · have hc9 := q
    refine sw_lsE (ls2 := [.ref 5000, .int (nI ((cn x)))]) (by rw [← hc9.1]) ?_
    have hd9 := hc9.2
    refine sw_iconst (x := 0) O (xx_dt dd_X14_chart 5 rfl) (by decide) ?_
    refine sw_goto (tgt := 14) O (xx_dt dd_X14_chart 6 rfl) (by decide) ?_
    refine sw_put (h2 := setM z (u2 σ 5000 0 0) h) O (xx_dt dd_X14_chart 8 rfl) cl_X14 fl_X14_46 (lm_mod (σ := σ)) (by decide) (by omega) rfl (fun _ => ⟨rfl, rfl⟩) (pm_mod (σ := σ) (by omega)) ?_
    refine sw_aload_n O (xx_dt dd_X14_chart 9 rfl) rfl ?_
    refine sw_get (v := .int 0) O (xx_dt dd_X14_chart 10 rfl) cl_X14 fl_X14_46 (lm_mod (σ := u2 σ 5000 0 0)) (by decide) rfl ?_
    refine sw_if_ne (tgt := 32) O (xx_dt dd_X14_chart 11 rfl) (by decide) (fun q9 => absurd rfl q9) (fun _ => ?_)
    refine sw_aload_n O (xx_dt dd_X14_chart 12 rfl) rfl ?_
    refine sw_iload_n O (xx_dt dd_X14_chart 13 rfl) rfl ?_
    refine sw_callVx (k := 0) (n := 0) (k' := 24) (n' := 158) (as := [.int (nI (cn x))]) (st := []) (st2 := [.ref 20102]) O (ct_X14_chartNow hl (z := z) (σ := u2 σ 5000 0 0) hbs htl hf4 (R := R) hR (by omega) (B := B) hB (by omega) (pk := pk) (fun j9 hj9 => by rw [show (u2 σ 5000 0 0) (5030 + j9) 900 = σ (5030 + j9) 900 from (congrFun (u2_ne (by omega)) 900)]; exact hpk j9 hj9) hkp (tn := tn) htn (sp := sp) (fun j9 hj9 => by rw [show (u2 σ 5000 0 0) (5010 + j9) 0 = σ (5010 + j9) 0 from (congrFun (u2_ne (by omega)) 0)]; exact hsp j9 hj9) (rg := cn x) (by omega) (fun s9 h9 => hho (cn x) s9 (by omega) h9)) ce_X14_chartNow ml_X14_352 iv_X14_chartNow cl_X14 rfl (lm_mod (σ := u2 σ 5000 0 0)) (xx_dt dd_X14_chart 14 rfl) (by decide) rfl rfl (Nat.le_of_ble_eq_true rfl) rfl ?_
    refine sw_goto (tgt := 35) O (xx_dt dd_X14_chart 15 rfl) (by decide) ?_
    exact sw_aret O (xx_dt dd_X14_chart 17 rfl) rfl (.inl ⟨_, rfl⟩) (by rw [hQ]; exact ⟨by rw [if_pos q], by rw [if_pos q]⟩)
theorem hTM_tx {z : Int64} {σ : XS9} {h : XH} {s : Nat} {f : Nat → Int32} {G : Nat → Value} (hf : ∀ k, k < s → f k = -1 ∨ ∃ x, x < 10 ∧ f k = nI x) (hs : s ≤ 5) : xx_tx (setM z σ (hTM h (2 * s - 1) (gD f G s))) 20102 20103 (2 * s - 1) (fun j => if j < 2 * s - 1 then gD f G s j else .int 0) := by
  rw [← hTM_e]
  refine ⟨⟨_, (xx_up_ne (by omega)).trans (xx_up_eq _ _ _), rfl, rfl⟩, xx_up_eq _ _ _, fun j hj => ?_, by omega⟩
  show ∃ x : Int32, (if j < 2 * s - 1 then gD f G s j else Value.int 0) = .int x ∧ _
  rw [if_pos hj]
  exact gD_int hf j hj
theorem hTM_drop {z : Int64} {σ : XS9} {h : XH} {c : Nat} {G : Nat → Value} (h4 : ∀ q, 20100 ≤ q → q < 20108 → h q = none) : xx_sub (setM z σ h) (setM z σ (hTM h c G)) := by
  intro q d hq
  rw [← hTM_e]
  have n4 : 20100 ≤ q → q < 20108 → False := fun a1 a2 => by
    rw [setM_out (by omega), h4 q a1 a2] at hq
    cases hq
  rw [xx_up_ne (fun e => n4 (by omega) (by omega)), xx_up_ne (fun e => n4 (by omega) (by omega))]
  exact hq
theorem in_cho {z : Int64} {σ : XS9} {h : XH} (hc : σ 9000 20 = nI 1) : xx_in (setM z σ h) (.ref 9000) := by
  show (setM z σ h 9000).isSome = true
  rw [lm_9000 (fl1 hc)]
  rfl
theorem xx_cls_z {z y : Int64} {σ : XS9} {h : XH} (hcl : xx_cls (setM z σ h)) : xx_cls (setM y σ h) := by
  intro q d j hq hj
  have dom : ∀ r, (setM z σ h r).isSome = true → (setM y σ h r).isSome = true := fun r hr => by
    by_cases a : r = 5000
    · rw [a, lm_mod]; rfl
    · unfold setM at hr ⊢
      rw [lyQ_z (z := y) (y := z) a]
      exact hr
  by_cases a : q = 5000
  · subst a
    rw [lm_mod] at hq
    cases hq
    have t := hcl 5000 _ j (lm_mod (z := z) (σ := σ) (h := h)) hj
    revert t
    match j, hj with
    | 0, _ | 1, _ | 2, _ | 3, _ | 4, _ | 5, _ | 6, _ | 7, _ | 16, _ => exact fun _ => trivial
    | 8, _ | 9, _ | 10, _ | 11, _ | 13, _ | 14, _ | 15, _ => exact fun t => dom _ t
    | 12, _ =>
      show xx_in (setM z σ h) (if σ 7000 25 = 0 then .null else .ref 7000) → xx_in (setM y σ h) (if σ 7000 25 = 0 then .null else .ref 7000)
      by_cases e : σ 7000 25 = 0
      · rw [if_pos e]; exact fun _ => trivial
      · rw [if_neg e]; exact fun t => dom _ t
    | k + 17, h9 => exact absurd (show k + 17 < 17 from h9) (by omega)
  · have e : setM z σ h q = setM y σ h q := by unfold setM; rw [lyQ_z (z := y) (y := z) a]
    have t := hcl q d j (e.trans hq) hj
    revert t
    cases d.2.2 j with
    | ref r => exact fun t => dom r t
    | _ => exact fun _ => trivial
def x_dig_23 (σ : XS9) (R B K C : Nat) (pk : Nat → Nat) (g : Nat) (tn sp : Nat → Nat) (y0 : Int64) : Int64 := xit (fun i23 y23 => (y23 * 31) + (Int32.toInt64 (f_MsaleNow σ R B K C pk g tn sp i23))) 17 0 y0
def x_dig_61 (σ : XS9) (R B K C : Nat) (pk : Nat → Nat) (g : Nat) (tn sp : Nat → Nat) (i48 : Nat) (y0 : Int64) : Int64 := xit (fun i61 y61 => (y61 * 31) + (Int32.toInt64 (f_MofRegionNow σ i48 R B C g i61))) 9 0 y0
def x_dig_99 (σ : XS9) (R B K C : Nat) (pk : Nat → Nat) (g : Nat) (tn sp : Nat → Nat) (i48 : Nat) (y0 : Int64) : Int64 := xit (fun i99 y99 => (y99 * 31) + (Int32.toInt64 (f_MholderNow σ i48 (nI i99) B tn))) (sp i48) 0 y0
def x_dig_48 (σ : XS9) (R B K C : Nat) (pk : Nat → Nat) (g : Nat) (tn sp : Nat → Nat) (y0 : Int64) : Int64 := xit (fun i48 y48 => x_dig_99 σ R B K C pk g tn sp i48 ((x_dig_61 σ R B K C pk g tn sp i48 y48 * 31) + (Int32.toInt64 (nI (2 * sp i48 - 1))))) R 0 y0
def x_digA (σ : XS9) (R B K C : Nat) (pk : Nat → Nat) (g : Nat) (tn sp : Nat → Nat) (y0 : Int64) : Int64 := x_dig_48 σ R B K C pk g tn sp (x_dig_23 σ R B K C pk g tn sp y0)
theorem dgA {Y : XY} {l : Launch} {h : XH} (O : xx_O Y m_X14_digest l 22) (hl : l.stackTraces = false) {z : Int64} {σ : XS9} (hbs : xx_bs h) (htl : xx_tl h) (hf4 : ∀ q, 20100 ≤ q → q < 20108 → h q = none) {R : Nat} (hR : σ 5001 900 = nI R) (hR5 : R ≤ 5) {B : Nat} (hB : σ 5002 900 = nI B) (hB6 : B ≤ 6) {K : Nat} (hK : σ 5003 900 = nI K) (hK60 : K ≤ 60) {C : Nat} (hS : σ 5004 900 = nI (2 * C)) (hC10 : C ≤ 10) {pk : Nat → Nat} (hpk : ∀ j, j < B → σ (5030 + j) 900 = nI (2 * pk j) ∧ pk j ≤ 6) (hfl : σ 7000 25 = nI 0 ∨ (σ 7000 25 = nI 1 ∧ σ 7000 20 = nI 1)) {g : Nat} (hg : σ 7000 23 = nI g) (hg1 : g < 200) {w : Nat} (hw : σ 7000 24 = nI w) (hw1 : w < 200) (hkp : σ 5000 1 = 3 → ∀ j, j < B → σ 5005 j = -1 ∨ ∃ n, n < pk j ∧ σ 5005 j = nI n) {tn : Nat → Nat} (htn : ∀ r, r < 5 → σ 5007 r = nI (tn r) ∧ tn r < 6) {sp : Nat → Nat} (hsp : ∀ r, r < R → σ (5010 + r) 0 = nI (sp r) ∧ sp r ≤ 5) (hc : σ 9000 20 = nI 1) (hho : ∀ i s, i < R → s < sp i → f_MholderNow σ i (nI s) B tn = -1 ∨ n_lt (f_MholderNow σ i (nI s) B tn) 6) (hcl : ∀ y, xx_cls (setM y σ h)) (hdom : ∀ y r, (xy_h Y r).isSome = true → (setM y σ h r).isSome = true) {k n : Nat} (kk : SW Y k n (setM (x_digA σ R B K C pk g tn sp z) σ h) 140 [.ref 5000, .ref 9000, xx_d, xx_d, xx_d, xx_d] []) : SW Y (k + 120) (n + 790) (setM z σ h) 21 [.ref 5000, .ref 9000, xx_d, xx_d, xx_d, xx_d] [] := by
  obtain ⟨kT, ekT⟩ : ∃ q, q = k + 120 := ⟨_, rfl⟩
  obtain ⟨nT, enT⟩ : ∃ q, q = n + 790 := ⟨_, rfl⟩
  refine xx_wid (k' := kT) (n' := nT) (by omega) (by omega) ?_
  refine sw_iconst (x := 0) O (xx_dt dd_X14_digest 11 rfl) (by decide) ?_
  refine sw_istore_n (ls2 := [.ref 5000, .ref 9000, .int 0, xx_d, xx_d, xx_d]) O (xx_dt dd_X14_digest 12 rfl) (by decide) rfl ?_
  refine sw_for (S := Int64) (fun i23 y23 => (y23 * 31) + (Int32.toInt64 (f_MsaleNow σ R B K C pk g tn sp i23))) (fun _ _ => True) (hp := fun y => setM y σ h) (hd := 23) (lc := fun i23 _ => [.ref 5000, .ref 9000, .int (nI i23), xx_d, xx_d, xx_d]) (N := 17) (fun i23 y23 hi23 _ => ⟨trivial, fun kk23 => ?_⟩) 17 0 z (by omega) trivial (fun _ => ?_)
  · refine sw_iload_n O (xx_dt dd_X14_digest 13 rfl) rfl ?_
    refine sw_bipush (x := 17) O (xx_dt dd_X14_digest 14 rfl) (by decide) ?_
    refine sw_icmp_ge (tgt := 46) O (xx_dt dd_X14_digest 15 rfl) (by decide) (fun q => absurd q (nI_ge (b := 17) hi23 (by omega))) (fun _ => ?_)
    refine sw_aload_n O (xx_dt dd_X14_digest 16 rfl) rfl ?_
    refine sw_aload_n O (xx_dt dd_X14_digest 17 rfl) rfl ?_
    refine sw_iload_n O (xx_dt dd_X14_digest 18 rfl) rfl ?_
    refine sw_aload_n O (xx_dt dd_X14_digest 19 rfl) rfl ?_
    refine sw_callVx (as := [.int (nI i23), .ref 9000]) (st := [.ref 5000]) (st2 := [.int (f_MsaleNow σ R B K C pk g tn sp i23), .ref 5000]) O (ct_X14_saleNow hl (z := y23) (σ := σ) hbs (R := R) hR (by omega) (B := B) hB (by omega) (K := K) hK (by omega) (C := C) hS (by omega) (pk := pk) hpk hfl (g := g) hg (by omega) (w := w) hw (by omega) hkp (tn := tn) htn (sp := sp) hsp hc (v := i23) (by omega)) ce_X14_saleNow ml_X14_374 iv_X14_saleNow cl_X14 rfl (lm_mod (σ := σ)) (xx_dt dd_X14_digest 20 rfl) (by decide) rfl rfl (Nat.le_of_ble_eq_true rfl) rfl ?_
    refine sw_i2l O (xx_dt dd_X14_digest 21 rfl) ?_
    refine sw_callVx (as := [.long (Int32.toInt64 (f_MsaleNow σ R B K C pk g tn sp i23))]) (st := []) (st2 := []) O (ct_X14_add hl (z := y23) (σ := σ) (v := Int32.toInt64 (f_MsaleNow σ R B K C pk g tn sp i23))) ce_X14_add ml_X14_415 iv_X14_add cl_X14 rfl (lm_mod (σ := σ)) (xx_dt dd_X14_digest 22 rfl) (by decide) rfl rfl (Nat.le_of_ble_eq_true rfl) rfl ?_
    refine sw_iinc (y := nI (i23 + 1)) (ls2 := [.ref 5000, .ref 9000, .int (nI (i23 + 1)), xx_d, xx_d, xx_d]) O (xx_dt dd_X14_digest 23 rfl) rfl (nI_1 _) (by decide) rfl ?_
    refine sw_goto (tgt := 23) O (xx_dt dd_X14_digest 24 rfl) (by decide) ?_
    exact kk23
  · show SW Y _ _ (setM (x_dig_23 σ R B K C pk g tn sp z) σ h) 23 [.ref 5000, .ref 9000, .int (nI 17), xx_d, xx_d, xx_d] []
    refine sw_iload_n O (xx_dt dd_X14_digest 13 rfl) rfl ?_
    refine sw_bipush (x := 17) O (xx_dt dd_X14_digest 14 rfl) (by decide) ?_
    refine sw_icmp_ge (tgt := 46) O (xx_dt dd_X14_digest 15 rfl) (by decide) (fun _ => ?_) (fun q => absurd (Int32.le_refl _) q)
    refine sw_iconst (x := 0) O (xx_dt dd_X14_digest 25 rfl) (by decide) ?_
    refine sw_istore_n (ls2 := [.ref 5000, .ref 9000, .int 0, xx_d, xx_d, xx_d]) O (xx_dt dd_X14_digest 26 rfl) (by decide) rfl ?_
    refine xx_wid (k' := k + 24 * (R - 0)) (n' := n + 158 * (R - 0)) (by omega) (by omega) ?_
    refine sw_forV (S := Int64) (kf := fun i9 => k + 24 * (R - i9)) (nf := fun i9 => n + 158 * (R - i9)) (fun i48 y48 => x_dig_99 σ R B K C pk g tn sp i48 ((x_dig_61 σ R B K C pk g tn sp i48 y48 * 31) + (Int32.toInt64 (nI (2 * sp i48 - 1))))) (fun _ _ => True) (hp := fun y => setM y σ h) (hd := 48) (lc := fun i48 _ => [.ref 5000, .ref 9000, .int (nI i48), xx_d, xx_d, xx_d]) (N := R) (fun i48 y48 hi48 _ => ⟨trivial, fun kk48 => ?_⟩) R 0 (x_dig_23 σ R B K C pk g tn sp z) (by omega) trivial (fun _ => ?_)
    · obtain ⟨kA, ekA⟩ : ∃ q, q = k + 24 * (R - (i48 + 1)) := ⟨_, rfl⟩
      obtain ⟨nA, enA⟩ : ∃ q, q = n + 158 * (R - (i48 + 1)) := ⟨_, rfl⟩
      obtain ⟨kB, ekB⟩ : ∃ q, q = kA + 24 := ⟨_, rfl⟩
      obtain ⟨nB, enB⟩ : ∃ q, q = nA + 158 := ⟨_, rfl⟩
      refine xx_wid (k' := kB) (n' := nB) (by show _ ≤ k + 24 * (R - i48); omega) (by show _ ≤ n + 158 * (R - i48); omega) ?_
      refine sw_iload_n O (xx_dt dd_X14_digest 27 rfl) rfl ?_
      refine sw_aload_n O (xx_dt dd_X14_digest 28 rfl) rfl ?_
      refine sw_get (v := .ref 5001) O (xx_dt dd_X14_digest 29 rfl) cl_X14 fl_X14_23 (lm_mod (σ := σ)) (by decide) rfl ?_
      refine sw_callVL (ci := 6) (as := []) (st := [.int (nI i48)]) (st2 := [.int (nI R), .int (nI i48)]) O (ct_AL_size hl (lm_5001 (σ := σ) (R := R) hR (by omega))) ce_Jx4a65c_size_8abf5 ml_X14_57 iv_Jx4a65c_size_8abf5 cl_Jx4a65c rfl (lm_5001 (σ := σ) (R := R) hR (by omega)) (xx_dt dd_X14_digest 30 rfl) (by decide) rfl rfl (Nat.le_of_ble_eq_true rfl) rfl ?_
      refine sw_icmp_ge (tgt := 140) O (xx_dt dd_X14_digest 31 rfl) (by decide) (fun q => absurd q (nI_ge (b := R) hi48 (by omega))) (fun _ => ?_)
      refine sw_iconst (x := 0) O (xx_dt dd_X14_digest 32 rfl) (by decide) ?_
      refine sw_istore_n (ls2 := [.ref 5000, .ref 9000, .int (nI i48), .int 0, xx_d, xx_d]) O (xx_dt dd_X14_digest 33 rfl) (by decide) rfl ?_
      refine sw_for (S := Int64) (fun i61 y61 => (y61 * 31) + (Int32.toInt64 (f_MofRegionNow σ i48 R B C g i61))) (fun _ _ => True) (hp := fun y => setM y σ h) (hd := 61) (lc := fun i61 _ => [.ref 5000, .ref 9000, .int (nI i48), .int (nI i61), xx_d, xx_d]) (N := 9) (fun i61 y61 hi61 _ => ⟨trivial, fun kk61 => ?_⟩) 9 0 y48 (by omega) trivial (fun _ => ?_)
      · refine sw_iload_n O (xx_dt dd_X14_digest 34 rfl) rfl ?_
        refine sw_bipush (x := 9) O (xx_dt dd_X14_digest 35 rfl) (by decide) ?_
        refine sw_icmp_ge (tgt := 84) O (xx_dt dd_X14_digest 36 rfl) (by decide) (fun q => absurd q (nI_ge (b := 9) hi61 (by omega))) (fun _ => ?_)
        refine sw_aload_n O (xx_dt dd_X14_digest 37 rfl) rfl ?_
        refine sw_aload_n O (xx_dt dd_X14_digest 38 rfl) rfl ?_
        refine sw_iload_n O (xx_dt dd_X14_digest 39 rfl) rfl ?_
        refine sw_iload_n O (xx_dt dd_X14_digest 40 rfl) rfl ?_
        refine sw_callVx (as := [.int (nI i48), .int (nI i61)]) (st := [.ref 5000]) (st2 := [.int (f_MofRegionNow σ i48 R B C g i61), .ref 5000]) O (ct_X14_ofRegionNow hl (z := y61) (σ := σ) hbs (R := R) hR (by omega) (B := B) hB (by omega) (C := C) hS (by omega) (r := i48) (by omega) hfl (g := g) hg (by omega) (w := w) hw (by omega) (v := i61) (by omega)) ce_X14_ofRegionNow ml_X14_299 iv_X14_ofRegionNow cl_X14 rfl (lm_mod (σ := σ)) (xx_dt dd_X14_digest 41 rfl) (by decide) rfl rfl (Nat.le_of_ble_eq_true rfl) rfl ?_
        refine sw_i2l O (xx_dt dd_X14_digest 42 rfl) ?_
        refine sw_callVx (as := [.long (Int32.toInt64 (f_MofRegionNow σ i48 R B C g i61))]) (st := []) (st2 := []) O (ct_X14_add hl (z := y61) (σ := σ) (v := Int32.toInt64 (f_MofRegionNow σ i48 R B C g i61))) ce_X14_add ml_X14_415 iv_X14_add cl_X14 rfl (lm_mod (σ := σ)) (xx_dt dd_X14_digest 43 rfl) (by decide) rfl rfl (Nat.le_of_ble_eq_true rfl) rfl ?_
        refine sw_iinc (y := nI (i61 + 1)) (ls2 := [.ref 5000, .ref 9000, .int (nI i48), .int (nI (i61 + 1)), xx_d, xx_d]) O (xx_dt dd_X14_digest 44 rfl) rfl (nI_1 _) (by decide) rfl ?_
        refine sw_goto (tgt := 61) O (xx_dt dd_X14_digest 45 rfl) (by decide) ?_
        exact kk61
      · show SW Y _ _ (setM (x_dig_61 σ R B K C pk g tn sp i48 y48) σ h) 61 [.ref 5000, .ref 9000, .int (nI i48), .int (nI 9), xx_d, xx_d] []
        refine sw_iload_n O (xx_dt dd_X14_digest 34 rfl) rfl ?_
        refine sw_bipush (x := 9) O (xx_dt dd_X14_digest 35 rfl) (by decide) ?_
        refine sw_icmp_ge (tgt := 84) O (xx_dt dd_X14_digest 36 rfl) (by decide) (fun _ => ?_) (fun q => absurd (Int32.le_refl _) q)
        refine sw_aload_n O (xx_dt dd_X14_digest 46 rfl) rfl ?_
        refine sw_aload_n O (xx_dt dd_X14_digest 47 rfl) rfl ?_
        refine sw_iload_n O (xx_dt dd_X14_digest 48 rfl) rfl ?_
        refine xx_wid (k' := kA + 24) (n' := nA + 158) (by omega) (by omega) ?_
        refine sw_callVx (k := kA) (n := nA) (k' := 24) (n' := 158) (as := [.int (nI i48)]) (st := [.ref 5000]) (st2 := [.ref 20102, .ref 5000]) O (ct_X14_chartNow hl (z := x_dig_61 σ R B K C pk g tn sp i48 y48) (σ := σ) hbs htl hf4 hR hR5 hB hB6 (pk := pk) hpk hkp (tn := tn) htn (sp := sp) hsp (rg := i48) (by omega) (fun s9 h9 => hho i48 s9 (by omega) h9)) ce_X14_chartNow ml_X14_352 iv_X14_chartNow cl_X14 rfl (lm_mod (σ := σ)) (xx_dt dd_X14_digest 49 rfl) (by decide) rfl rfl (Nat.le_of_ble_eq_true rfl) rfl ?_
        have hs5 := (hsp i48 (by omega)).2
        have htx := hTM_tx (z := x_dig_61 σ R B K C pk g tn sp i48 y48) (σ := σ) (h := h) (s := sp i48) (G := fun _ => Value.int 0) (fun k hk => (hho i48 k (by omega) hk).imp id (fun e => ⟨_, by have := e.2; omega, e.1⟩)) hs5
        refine sw_callVx (as := []) (st := [.ref 5000]) (st2 := [.int (nI (2 * sp i48 - 1)), .ref 5000]) O (tx_length hl htx) ce_J0_length_8abf5 ml_X14_418 iv_J0_length_8abf5 cl_J0 rfl (htx.1.choose_spec.1) (xx_dt dd_X14_digest 50 rfl) (by decide) rfl rfl (Nat.le_of_ble_eq_true rfl) rfl ?_
        refine sw_drop (h2 := setM (x_dig_61 σ R B K C pk g tn sp i48 y48) σ h) (hTM_drop hf4) (hcl _) (hdom _) (by intro v9 hv9; simp only [List.mem_cons, List.not_mem_nil, or_false] at hv9; rcases hv9 with rfl | rfl | rfl | rfl | rfl | rfl <;> first | exact in_mod | exact in_cho hc | trivial) (by intro v9 hv9; simp only [List.mem_cons, List.not_mem_nil, or_false] at hv9; rcases hv9 with rfl | rfl <;> first | exact in_mod | trivial) ?_
        refine sw_i2l O (xx_dt dd_X14_digest 51 rfl) ?_
        refine sw_callVx (as := [.long (Int32.toInt64 (nI (2 * sp i48 - 1)))]) (st := []) (st2 := []) O (ct_X14_add hl (z := x_dig_61 σ R B K C pk g tn sp i48 y48) (σ := σ) (v := Int32.toInt64 (nI (2 * sp i48 - 1)))) ce_X14_add ml_X14_415 iv_X14_add cl_X14 rfl (lm_mod (σ := σ)) (xx_dt dd_X14_digest 52 rfl) (by decide) rfl rfl (Nat.le_of_ble_eq_true rfl) rfl ?_
        refine sw_iconst (x := 0) O (xx_dt dd_X14_digest 53 rfl) (by decide) ?_
        refine sw_istore_n (ls2 := [.ref 5000, .ref 9000, .int (nI i48), .int 0, xx_d, xx_d]) O (xx_dt dd_X14_digest 54 rfl) (by decide) rfl ?_
        refine sw_for (S := Int64) (fun i99 y99 => (y99 * 31) + (Int32.toInt64 (f_MholderNow σ i48 (nI i99) B tn))) (fun _ _ => True) (hp := fun y => setM y σ h) (hd := 99) (lc := fun i99 _ => [.ref 5000, .ref 9000, .int (nI i48), .int (nI i99), xx_d, xx_d]) (N := (sp i48)) (fun i99 y99 hi99 _ => ⟨trivial, fun kk99 => ?_⟩) (sp i48) 0 ((x_dig_61 σ R B K C pk g tn sp i48 y48 * 31) + (Int32.toInt64 (nI (2 * sp i48 - 1)))) (by omega) trivial (fun _ => ?_)
        · refine sw_iload_n O (xx_dt dd_X14_digest 55 rfl) rfl ?_
          refine sw_aload_n O (xx_dt dd_X14_digest 56 rfl) rfl ?_
          refine sw_get (v := .ref 5001) O (xx_dt dd_X14_digest 57 rfl) cl_X14 fl_X14_23 (lm_mod (σ := σ)) (by decide) rfl ?_
          refine sw_iload_n O (xx_dt dd_X14_digest 58 rfl) rfl ?_
          refine sw_callVL (ci := 6) (as := [.int (nI i48)]) (st := [.int (nI i99)]) (st2 := [.ref (5010 + i48), .int (nI i99)]) O (ct_get hl hbs (lm_5001 (σ := σ) (R := R) hR (by omega)) (by omega) (i := i48) (x := 5010 + i48) (by omega) (by omega) rfl) ce_Jx4a65c_get_915e3 ml_X14_61 iv_Jx4a65c_get_915e3 cl_Jx4a65c rfl (lm_5001 (σ := σ) (R := R) hR (by omega)) (xx_dt dd_X14_digest 59 rfl) (by decide) rfl rfl (Nat.le_of_ble_eq_true rfl) rfl ?_
          refine sw_castO O (xx_dt dd_X14_digest 60 rfl) cl_X12 (lm_reg (σ := σ) (R := R) hR (by omega) (j := i48) (by omega)) cw_X14_65 ?_
          have hz111 := (hsp i48 (by omega)).2
          refine sw_get (v := .int (nI (sp i48))) O (xx_dt dd_X14_digest 61 rfl) cl_X12 fl_X14_81 (lm_reg (σ := σ) (R := R) hR (by omega) (j := i48) (by omega)) (by decide) (congrArg Value.int (hsp i48 (by omega)).1) ?_
          refine sw_icmp_ge (tgt := 134) O (xx_dt dd_X14_digest 62 rfl) (by decide) (fun q => absurd q (nI_ge (b := (sp i48)) hi99 (by omega))) (fun _ => ?_)
          refine sw_aload_n O (xx_dt dd_X14_digest 63 rfl) rfl ?_
          refine sw_aload_n O (xx_dt dd_X14_digest 64 rfl) rfl ?_
          refine sw_iload_n O (xx_dt dd_X14_digest 65 rfl) rfl ?_
          refine sw_iload_n O (xx_dt dd_X14_digest 66 rfl) rfl ?_
          refine sw_callVx (as := [.int (nI i48), .int (nI i99)]) (st := [.ref 5000]) (st2 := [.int (f_MholderNow σ i48 (nI i99) B tn), .ref 5000]) O (ct_X14_holderNow hl (z := y99) (σ := σ) hbs (R := R) hR (by omega) (B := B) hB (by omega) (pk := pk) hpk hkp (tn := tn) htn (r := i48) (y := nI i99) (by omega)) ce_X14_holderNow ml_X14_329 iv_X14_holderNow cl_X14 rfl (lm_mod (σ := σ)) (xx_dt dd_X14_digest 67 rfl) (by decide) rfl rfl (Nat.le_of_ble_eq_true rfl) rfl ?_
          refine sw_i2l O (xx_dt dd_X14_digest 68 rfl) ?_
          refine sw_callVx (as := [.long (Int32.toInt64 (f_MholderNow σ i48 (nI i99) B tn))]) (st := []) (st2 := []) O (ct_X14_add hl (z := y99) (σ := σ) (v := Int32.toInt64 (f_MholderNow σ i48 (nI i99) B tn))) ce_X14_add ml_X14_415 iv_X14_add cl_X14 rfl (lm_mod (σ := σ)) (xx_dt dd_X14_digest 69 rfl) (by decide) rfl rfl (Nat.le_of_ble_eq_true rfl) rfl ?_
          refine sw_iinc (y := nI (i99 + 1)) (ls2 := [.ref 5000, .ref 9000, .int (nI i48), .int (nI (i99 + 1)), xx_d, xx_d]) O (xx_dt dd_X14_digest 70 rfl) rfl (nI_1 _) (by decide) rfl ?_
          refine sw_goto (tgt := 99) O (xx_dt dd_X14_digest 71 rfl) (by decide) ?_
          exact kk99
        · show SW Y _ _ (setM (x_dig_99 σ R B K C pk g tn sp i48 ((x_dig_61 σ R B K C pk g tn sp i48 y48 * 31) + (Int32.toInt64 (nI (2 * sp i48 - 1))))) σ h) 99 [.ref 5000, .ref 9000, .int (nI i48), .int (nI ((sp i48))), xx_d, xx_d] []
          refine sw_iload_n O (xx_dt dd_X14_digest 55 rfl) rfl ?_
          refine sw_aload_n O (xx_dt dd_X14_digest 56 rfl) rfl ?_
          refine sw_get (v := .ref 5001) O (xx_dt dd_X14_digest 57 rfl) cl_X14 fl_X14_23 (lm_mod (σ := σ)) (by decide) rfl ?_
          refine sw_iload_n O (xx_dt dd_X14_digest 58 rfl) rfl ?_
          refine sw_callVL (ci := 6) (as := [.int (nI i48)]) (st := [.int (nI ((sp i48)))]) (st2 := [.ref (5010 + i48), .int (nI ((sp i48)))]) O (ct_get hl hbs (lm_5001 (σ := σ) (R := R) hR (by omega)) (by omega) (i := i48) (x := 5010 + i48) (by omega) (by omega) rfl) ce_Jx4a65c_get_915e3 ml_X14_61 iv_Jx4a65c_get_915e3 cl_Jx4a65c rfl (lm_5001 (σ := σ) (R := R) hR (by omega)) (xx_dt dd_X14_digest 59 rfl) (by decide) rfl rfl (Nat.le_of_ble_eq_true rfl) rfl ?_
          refine sw_castO O (xx_dt dd_X14_digest 60 rfl) cl_X12 (lm_reg (σ := σ) (R := R) hR (by omega) (j := i48) (by omega)) cw_X14_65 ?_
          have hz111 := (hsp i48 (by omega)).2
          refine sw_get (v := .int (nI (sp i48))) O (xx_dt dd_X14_digest 61 rfl) cl_X12 fl_X14_81 (lm_reg (σ := σ) (R := R) hR (by omega) (j := i48) (by omega)) (by decide) (congrArg Value.int (hsp i48 (by omega)).1) ?_
          refine sw_icmp_ge (tgt := 134) O (xx_dt dd_X14_digest 62 rfl) (by decide) (fun _ => ?_) (fun q => absurd (Int32.le_refl _) q)
          refine sw_iinc (y := nI (i48 + 1)) (ls2 := [.ref 5000, .ref 9000, .int (nI (i48 + 1)), .int (nI ((sp i48))), xx_d, xx_d]) O (xx_dt dd_X14_digest 72 rfl) rfl (nI_1 _) (by decide) rfl ?_
          refine sw_goto (tgt := 48) O (xx_dt dd_X14_digest 73 rfl) (by decide) ?_
          refine sw_dum (ls2 := [.ref 5000, .ref 9000, .int (nI (i48 + 1)), xx_d, xx_d, xx_d]) ⟨.inr rfl, .inr rfl, .inr rfl, .inl rfl, .inr rfl, .inr rfl, trivial⟩ ?_
          refine xx_wid (k' := k + 24 * (R - (i48 + 1))) (n' := n + 158 * (R - (i48 + 1))) (by omega) (by omega) ?_
          exact kk48
    · show SW Y _ _ (setM (x_dig_48 σ R B K C pk g tn sp (x_dig_23 σ R B K C pk g tn sp z)) σ h) 48 [.ref 5000, .ref 9000, .int (nI R), xx_d, xx_d, xx_d] []
      refine xx_wid (k' := k) (n' := n) (by show _ ≤ k + 24 * (R - R); omega) (by show _ ≤ n + 158 * (R - R); omega) ?_
      refine sw_iload_n O (xx_dt dd_X14_digest 27 rfl) rfl ?_
      refine sw_aload_n O (xx_dt dd_X14_digest 28 rfl) rfl ?_
      refine sw_get (v := .ref 5001) O (xx_dt dd_X14_digest 29 rfl) cl_X14 fl_X14_23 (lm_mod (σ := σ)) (by decide) rfl ?_
      refine sw_callVL (ci := 6) (as := []) (st := [.int (nI R)]) (st2 := [.int (nI R), .int (nI R)]) O (ct_AL_size hl (lm_5001 (σ := σ) (R := R) hR (by omega))) ce_Jx4a65c_size_8abf5 ml_X14_57 iv_Jx4a65c_size_8abf5 cl_Jx4a65c rfl (lm_5001 (σ := σ) (R := R) hR (by omega)) (xx_dt dd_X14_digest 30 rfl) (by decide) rfl rfl (Nat.le_of_ble_eq_true rfl) rfl ?_
      refine sw_icmp_ge (tgt := 140) O (xx_dt dd_X14_digest 31 rfl) (by decide) (fun _ => ?_) (fun q => absurd (Int32.le_refl _) q)
      refine sw_dum (ls2 := [.ref 5000, .ref 9000, xx_d, xx_d, xx_d, xx_d]) ⟨.inr rfl, .inr rfl, .inl rfl, .inr rfl, .inr rfl, .inr rfl, trivial⟩ ?_
      exact kk
