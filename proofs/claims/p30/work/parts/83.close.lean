/-! ===== the reference: close ===== -/
theorem sw_forBV {Y : XY} {kf nf : Nat → Nat} {S : Type} (step : Nat → S → S ⊕ S) (P : Nat → S → Prop) (PX : S → Prop) {hd ex : Nat} {hp : S → XH} {lc : Nat → S → List Value} {lx : S → List Value} {N : Nat}
    (hstep : ∀ i s, i < N → P i s → ((∀ s', step i s = .inl s' → P (i + 1) s') ∧ ∀ s', step i s = .inr s' → PX s') ∧ ((∀ s', step i s = .inl s' → SW Y (kf (i + 1)) (nf (i + 1)) (hp s') hd (lc (i + 1) s') []) → (∀ s', step i s = .inr s' → SW Y 0 0 (hp s') ex (lx s') []) → SW Y (kf i) (nf i) (hp s) hd (lc i s) []))
    (hexit : ∀ s, P N s → PX s ∧ (SW Y 0 0 (hp s) ex (lx s) [] → SW Y (kf N) (nf N) (hp s) hd (lc N s) [])) :
    ∀ (f i : Nat) (s : S), i + f = N → P i s → (PX (xitB step f i s) → SW Y 0 0 (hp (xitB step f i s)) ex (lx (xitB step f i s)) []) → SW Y (kf i) (nf i) (hp s) hd (lc i s) []
  | 0, i, s, e, hP, kk => by
    obtain rfl : i = N := by omega
    exact (hexit s hP).2 (kk (hexit s hP).1)
  | f + 1, i, s, e, hP, kk => by
    obtain ⟨⟨h1, h2⟩, h3⟩ := hstep i s (by omega) hP
    unfold xitB at kk
    refine h3 (fun s' e' => ?_) (fun s' e' => ?_)
    · rw [e'] at kk
      exact sw_forBV step P PX hstep hexit f (i + 1) s' (by omega) (h1 s' e') kk
    · rw [e'] at kk
      exact kk (h2 s' e')
/-- what a close asks of the memory -/
def CI (σ : XS9) (R B K g w n : Nat) (pk : Nat → Nat) : Prop := (σ 5001 900 = nI R ∧ R ≤ 5) ∧ (σ 5002 900 = nI B ∧ B ≤ 6) ∧ (σ 5003 900 = nI K ∧ K < 60) ∧ (σ 7000 20 = nI 1 ∧ σ 7000 25 = nI 1) ∧ (σ 7000 23 = nI g ∧ g < 199) ∧ (σ 7000 24 = nI w ∧ w < 199) ∧ (σ 7000 21 = nI n ∧ n < 60 ∧ σ 7000 22 = nI n) ∧ (∀ j, j < B → σ (5030 + j) 900 = nI (2 * pk j) ∧ pk j ≤ 5) ∧ (∀ i r, i < B → r < R → 0 ≤ (f_of (x_Kclose_2 σ 7000 R B g w n σ (7000 + 500 + g) i) r).toInt) ∧ ∀ j, j < 6 → σ (7000 + 700 + w) j = 0 ∨ σ (7000 + 700 + w) j = 1
def CIn (σ : XS9) : Prop := CI σ (cn (σ 5001 900)) (cn (σ 5002 900)) (cn (σ 5003 900)) (cn (σ 7000 23)) (cn (σ 7000 24)) (cn (σ 7000 21)) (fun j => cn (σ (5030 + j) 900) / 2)
def g_clo (σ : XS9) : XS9 := g_McloseOne σ (cn (σ 5001 900)) (cn (σ 5002 900)) (cn (σ 5003 900)) (cn (σ 7000 23)) (cn (σ 7000 24)) (cn (σ 7000 21)) (fun j => cn (σ (5030 + j) 900) / 2)
theorem ct_closeC {l : Launch} {h : XH} (hl : l.stackTraces = false) {z : Int64} {σ : XS9} (hbs : xx_bs h) (hfr : ∀ r, 5000 ≤ r → r < 20010 → h r = none) (hc : CIn σ) : XEx l m_X14_closeOne 12 36 723 [.ref 5000] (setM z σ h) none (setM z (g_clo σ) h) := by
  obtain ⟨⟨a1, a2⟩, ⟨a3, a4⟩, ⟨a5, a6⟩, ⟨a7, a8⟩, ⟨a9, b1⟩, ⟨b2, b3⟩, ⟨b4, b5, b6⟩, b7, b8, b9⟩ := hc
  exact ct_X14_closeOne hl hbs hfr a1 a2 a3 a4 a5 a6 a7 a8 a9 b1 b2 b3 b4 b5 b6 b7 b8 b9
def itC (σ : XS9) : Nat → XS9
  | 0 => σ
  | m + 1 => g_clo (itC σ m)
theorem ci_at {σ s : XS9} {x i : Nat} (hI : ∀ m, m < x → (∀ j, j ≤ m → (itC σ j) 5000 1 = 1) → CIn (itC σ m)) (hi : i < x) (hP : s = itC σ i ∧ ∀ j, j < i → (itC σ j) 5000 1 = 1) (hs : s 5000 1 = 1) : CIn s := by
  obtain ⟨rfl, h2⟩ := hP
  refine hI i hi (fun j hj => ?_)
  rcases Nat.lt_or_ge j i with h | h
  · exact h2 j h
  · obtain rfl : j = i := by omega
    exact hs
def x_Mclose_37 (σ : XS9) (x : Int32) (s0 : XS9) : XS9 := xitB (fun i37 s37 => (if (s37 5000 1) = 1 then .inl (g_clo s37) else .inr s37)) (cn x) 0 s0
def f_Mclose (σ : XS9) (x : Int32) : Int32 := (if n_bt x 1 9 then (if (σ 5000 1) = 1 then (x_Mclose_37 σ x (u2 σ 5000 0 0)) 5000 1 else 0) else 0)
def g_Mclose (σ : XS9) (x : Int32) : XS9 := (if n_bt x 1 9 then (if (σ 5000 1) = 1 then (x_Mclose_37 σ x (u2 σ 5000 0 0)) else u2 (u2 σ 5000 0 0) 5000 0 2) else u2 (u2 σ 5000 0 0) 5000 0 1)
theorem ct_X14_close {l : Launch} {h : XH} (hl : l.stackTraces = false) {z : Int64} {σ : XS9} (hbs : xx_bs h) (hfr : ∀ r, 5000 ≤ r → r < 20010 → h r = none) {x : Int32} (hI : ∀ m, m < cn x → (∀ j, j ≤ m → (itC (u2 σ 5000 0 0) j) 5000 1 = 1) → CIn (itC (u2 σ 5000 0 0) m))  : XEx l m_X14_close 13 324 6507 [.ref 5000, .int x] (setM z σ h) (some (.int (f_Mclose σ x))) (setM z (g_Mclose σ x) h) := by
  refine XMet.of hl rfl rfl (Nat.le_of_ble_eq_true rfl) (fun Y O hh hQ => ?_)
  show SW Y 324 6507 (setM z σ h) 0 [.ref 5000, .int x, xx_d] []
  refine sw_aload_n O (xx_dt dd_X14_close 0 rfl) rfl ?_
  refine sw_iconst (x := 0) O (xx_dt dd_X14_close 1 rfl) (by decide) ?_
  refine sw_put (h2 := setM z (u2 σ 5000 0 0) h) O (xx_dt dd_X14_close 2 rfl) cl_X14 fl_X14_46 (lm_mod (σ := σ)) (by decide) (by omega) rfl (fun _ => ⟨rfl, rfl⟩) (pm_mod (σ := σ) (by omega)) ?_
  refine sw_iload_n O (xx_dt dd_X14_close 3 rfl) rfl ?_
  refine sw_iconst (x := 1) O (xx_dt dd_X14_close 4 rfl) (by decide) ?_
  refine sw_bipush (x := 9) O (xx_dt dd_X14_close 5 rfl) (by decide) ?_
  refine sw_callSx (as := [.int x, .int 1, .int 9]) (st := []) (st2 := [.int (bZ (n_bt x 1 9))]) O (ct_X14_is hl) ce_X14_is ml_X14_70 st_X14_is (xx_dt dd_X14_close 6 rfl) (by decide) rfl rfl (Nat.le_of_ble_eq_true rfl) rfl ?_
  refine sw_if_neB (tgt := 21) O (xx_dt dd_X14_close 7 rfl) (by decide) (fun q1 => ?_) (fun q1 => ?_)
  · have hc12 := (bt_nat 9 q1 (by decide) rfl (by decide))
    refine sw_lsE (ls2 := [.ref 5000, .int (nI (cn x)), xx_d]) (by rw [← hc12.1]) ?_
    have hd12 := hc12.2
    refine sw_aload_n O (xx_dt dd_X14_close 12 rfl) rfl ?_
    refine sw_get (v := .int (σ 5000 1)) O (xx_dt dd_X14_close 13 rfl) cl_X14 fl_X14_77 (lm_mod (σ := u2 σ 5000 0 0)) (by decide) rfl ?_
    refine sw_iconst (x := 1) O (xx_dt dd_X14_close 14 rfl) (by decide) ?_
    refine sw_icmp_eq (tgt := 35) O (xx_dt dd_X14_close 15 rfl) (by decide) (fun q2 => ?_) (fun q2 => ?_)
    · refine sw_iconst (x := 0) O (xx_dt dd_X14_close 20 rfl) (by decide) ?_
      refine sw_istore_n (ls2 := [.ref 5000, .int (nI (cn x)), .int 0]) O (xx_dt dd_X14_close 21 rfl) (by decide) rfl ?_
      refine xx_wid (k' := 0 + 36 * ((cn x) - 0)) (n' := 0 + 723 * ((cn x) - 0)) (by omega) (by omega) ?_
      refine sw_forBV (S := XS9) (kf := fun i9 => 0 + 36 * ((cn x) - i9)) (nf := fun i9 => 0 + 723 * ((cn x) - i9)) (fun i37 s37 => (if (s37 5000 1) = 1 then .inl (g_clo s37) else .inr s37)) (fun i (s : XS9) => s = itC (u2 σ 5000 0 0) i ∧ ∀ j, j < i → (itC (u2 σ 5000 0 0) j) 5000 1 = 1) (fun _ => True) (hp := fun s37 => setM z s37 h) (hd := 37) (lc := fun i37 s37 => [.ref 5000, .int (nI (cn x)), .int (nI i37)]) (ex := 60) (lx := fun s37 => [.ref 5000, .int (nI (cn x)), xx_d]) (N := (cn x)) (fun i37 s37 hi37 hP37 => ⟨⟨(by intro s' e'; revert e'; (try dsimp only); (repeat' split) <;> intro e' <;> first | (cases e'; done) | (have e9 := Sum.inl.inj e'; subst e9; exact ⟨by rw [hP37.1]; rfl, fun j hj => by rcases Nat.lt_or_ge j i37 with h9 | h9; exact hP37.2 j h9; have e8 : j = i37 := (by omega); subst e8; rw [← hP37.1]; assumption⟩)), fun _ _ => trivial⟩, fun kk37 kb37 => ?_⟩) (fun s37 hP37 => ⟨trivial, fun kx37 => ?_⟩) (cn x) 0 (u2 σ 5000 0 0) (by omega) (⟨rfl, fun j hj => absurd hj (by omega)⟩) (fun hP37 => ?_)
      · obtain ⟨kA, ekA⟩ : ∃ k, k = 0 + 36 * ((cn x) - (i37 + 1)) := ⟨_, rfl⟩
        obtain ⟨nA, enA⟩ : ∃ k, k = 0 + 723 * ((cn x) - (i37 + 1)) := ⟨_, rfl⟩
        obtain ⟨kB, ekB⟩ : ∃ k, k = kA + 36 := ⟨_, rfl⟩
        obtain ⟨nB, enB⟩ : ∃ k, k = nA + 723 := ⟨_, rfl⟩
        refine xx_wid (k' := kB) (n' := nB) (by show _ ≤ 0 + 36 * ((cn x) - i37); omega) (by show _ ≤ 0 + 723 * ((cn x) - i37); omega) ?_
        refine sw_iload_n O (xx_dt dd_X14_close 22 rfl) rfl ?_
        refine sw_iload_n O (xx_dt dd_X14_close 23 rfl) rfl ?_
        refine sw_icmp_ge (tgt := 60) O (xx_dt dd_X14_close 24 rfl) (by decide) (fun q3 => ?_) (fun q3 => ?_)
        · exact absurd q3 (nI_ge (b := (cn x)) hi37 (by omega))
        · refine sw_aload_n O (xx_dt dd_X14_close 25 rfl) rfl ?_
          refine sw_get (v := .int (s37 5000 1)) O (xx_dt dd_X14_close 26 rfl) cl_X14 fl_X14_77 (lm_mod (σ := s37)) (by decide) rfl ?_
          refine sw_iconst (x := 1) O (xx_dt dd_X14_close 27 rfl) (by decide) ?_
          refine sw_icmp_ne (tgt := 60) O (xx_dt dd_X14_close 28 rfl) (by decide) (fun q4 => ?_) (fun q4 => ?_)
          · refine sw_dum (ls2 := [.ref 5000, .int (nI (cn x)), xx_d]) ⟨.inr rfl, .inr rfl, .inl rfl, trivial⟩ ?_
            refine xx_wid (k' := 0) (n' := 0) (by omega) (by omega) ?_
            exact kb37 s37 (by simp only [if_neg q4])
          · refine sw_aload_n O (xx_dt dd_X14_close 29 rfl) rfl ?_
            refine xx_wid (k' := kA + 36) (n' := nA + 723) (by omega) (by omega) ?_
            refine sw_callVx (as := []) (st := []) (st2 := []) O (ct_closeC hl (z := z) (σ := s37) hbs hfr (ci_at hI hi37 hP37 (by assumption))) ce_X14_closeOne ml_X14_169 iv_X14_closeOne cl_X14 rfl (lm_mod (σ := s37)) (xx_dt dd_X14_close 30 rfl) (by decide) rfl rfl (Nat.le_of_ble_eq_true rfl) rfl ?_
            refine sw_iinc (y := nI (i37 + 1)) (ls2 := [.ref 5000, .int (nI (cn x)), .int (nI (i37 + 1))]) O (xx_dt dd_X14_close 31 rfl) rfl (nI_1 _) (by decide) rfl ?_
            refine sw_goto (tgt := 37) O (xx_dt dd_X14_close 32 rfl) (by decide) ?_
            refine xx_wid (k' := 0 + 36 * ((cn x) - (i37 + 1))) (n' := 0 + 723 * ((cn x) - (i37 + 1))) (by omega) (by omega) ?_
            exact kk37 (g_clo s37) (by simp only [if_pos q4])
      · show SW Y _ _ (setM z s37 h) 37 [.ref 5000, .int (nI (cn x)), .int (nI ((cn x)))] []
        refine xx_wid (k' := 0) (n' := 0) (by show _ ≤ 0 + 36 * ((cn x) - (cn x)); omega) (by show _ ≤ 0 + 723 * ((cn x) - (cn x)); omega) ?_
        have hZ37 := hP37
        refine sw_iload_n O (xx_dt dd_X14_close 22 rfl) rfl ?_
        refine sw_iload_n O (xx_dt dd_X14_close 23 rfl) rfl ?_
        refine sw_icmp_ge (tgt := 60) O (xx_dt dd_X14_close 24 rfl) (by decide) (fun q3 => ?_) (fun q3 => ?_)
        · refine sw_dum (ls2 := [.ref 5000, .int (nI (cn x)), xx_d]) ⟨.inr rfl, .inr rfl, .inl rfl, trivial⟩ ?_
          refine xx_wid (k' := 0) (n' := 0) (by omega) (by omega) ?_
          exact kx37
        · exact absurd (Int32.le_refl _) q3
      · show SW Y _ _ (setM z (x_Mclose_37 σ x (u2 σ 5000 0 0)) h) 60 [.ref 5000, .int (nI (cn x)), xx_d] []
        refine sw_aload_n O (xx_dt dd_X14_close 33 rfl) rfl ?_
        refine sw_get (v := .int ((x_Mclose_37 σ x (u2 σ 5000 0 0)) 5000 1)) O (xx_dt dd_X14_close 34 rfl) cl_X14 fl_X14_77 (lm_mod (σ := (x_Mclose_37 σ x (u2 σ 5000 0 0)))) (by decide) rfl ?_
        exact sw_iret O (xx_dt dd_X14_close 35 rfl) rfl rfl (by rw [hQ]; exact ⟨by unfold f_Mclose; simp only [if_pos q1, if_pos q2], by unfold g_Mclose; simp only [if_pos q1, if_pos q2]⟩)
    · refine sw_aload_n O (xx_dt dd_X14_close 16 rfl) rfl ?_
      refine sw_iconst (x := 2) O (xx_dt dd_X14_close 17 rfl) (by decide) ?_
      refine sw_callVx (as := [.int 2]) (st := []) (st2 := [.int 0]) O (ct_X14_refuse hl (z := z) (σ := u2 σ 5000 0 0) hbs (x := 2)) ce_X14_refuse ml_X14_74 iv_X14_refuse cl_X14 rfl (lm_mod (σ := u2 σ 5000 0 0)) (xx_dt dd_X14_close 18 rfl) (by decide) rfl rfl (Nat.le_of_ble_eq_true rfl) rfl ?_
      exact sw_iret O (xx_dt dd_X14_close 19 rfl) rfl rfl (by rw [hQ]; exact ⟨by unfold f_Mclose; simp only [if_pos q1, if_neg q2], by unfold g_Mclose; simp only [if_pos q1, if_neg q2]⟩)
  · refine sw_aload_n O (xx_dt dd_X14_close 8 rfl) rfl ?_
    refine sw_iconst (x := 1) O (xx_dt dd_X14_close 9 rfl) (by decide) ?_
    refine sw_callVx (as := [.int 1]) (st := []) (st2 := [.int 0]) O (ct_X14_refuse hl (z := z) (σ := u2 σ 5000 0 0) hbs (x := 1)) ce_X14_refuse ml_X14_74 iv_X14_refuse cl_X14 rfl (lm_mod (σ := u2 σ 5000 0 0)) (xx_dt dd_X14_close 10 rfl) (by decide) rfl rfl (Nat.le_of_ble_eq_true rfl) rfl ?_
    exact sw_iret O (xx_dt dd_X14_close 11 rfl) rfl rfl (by rw [hQ]; exact ⟨by unfold f_Mclose; simp only [if_neg q1], by unfold g_Mclose; simp only [if_neg q1]⟩)
