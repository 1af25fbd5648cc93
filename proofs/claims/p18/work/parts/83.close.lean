section
/-! ===== the reference: close ===== -/
theorem sw_forBV {Y : XY} {kf nf : Nat → Nat} {S : Type} (step : Nat → S → S ⊕ S) (P : Nat → S → Prop) (PX : S → Prop) {hd ex : Nat} {hp : S → XH} {lc : Nat → S → List Value} {lx : S → List Value} {N : Nat}
    (hstep : ∀ i s, i < N → P i s → ((∀ s', step i s = .inl s' → P (i + 1) s') ∧ ∀ s', step i s = .inr s' → PX s') ∧ ((∀ s', step i s = .inl s' → SW Y (kf (i + 1)) (nf (i + 1)) (hp s') hd (lc (i + 1) s') []) → (∀ s', step i s = .inr s' → SW Y 0 0 (hp s') ex (lx s') []) → SW Y (kf i) (nf i) (hp s) hd (lc i s) []))
    (hexit : ∀ s, P N s → PX s ∧ (SW Y 0 0 (hp s) ex (lx s) [] → SW Y (kf N) (nf N) (hp s) hd (lc N s) [])) :
    ∀ (f i : Nat) (s : S), i + f = N → P i s → (PX (xitB step f i s) → SW Y 0 0 (hp (xitB step f i s)) ex (lx (xitB step f i s)) []) → SW Y (kf i) (nf i) (hp s) hd (lc i s) []
  | 0, i, s, e, hP, kk => by
    obtain rfl : i = N := by omega
    exact (hexit s hP).2 (kk (hexit s hP).1)
  | f + 1, i, s, e, hP, kk => by
    obtain ⟨⟨h1, h2⟩, h3⟩ := hstep i s (by omega) hP
    unfold xitB at kk
    refine h3 (fun s' e' => ?_) (fun s' e' => ?_)
    · rw [e'] at kk
      exact sw_forBV step P PX hstep hexit f (i + 1) s' (by omega) (h1 s' e') kk
    · rw [e'] at kk
      exact kk (h2 s' e')
/-- what a close asks of the memory -/
def CI (σ : XS9) (R B K g w n : Nat) (pk : Nat → Nat) : Prop := (σ 5001 900 = nI R ∧ R ≤ 5) ∧ (σ 5002 900 = nI B ∧ B ≤ 6) ∧ (σ 5003 900 = nI K ∧ K < 60) ∧ (σ 7000 20 = nI 1 ∧ σ 7000 25 = nI 1) ∧ (σ 7000 23 = nI g ∧ g < 199) ∧ (σ 7000 24 = nI w ∧ w < 199) ∧ (σ 7000 21 = nI n ∧ n < 60 ∧ σ 7000 22 = nI n) ∧ (∀ j, j < B → σ (5030 + j) 900 = nI (2 * pk j) ∧ pk j ≤ 5) ∧ (∀ i r, i < B → r < R → 0 ≤ (f_of (x_Kclose_2 σ 7000 R B g w n σ (7000 + 500 + g) i) r).toInt) ∧ ∀ j, j < 6 → σ (7000 + 700 + w) j = 0 ∨ σ (7000 + 700 + w) j = 1
def CIn (σ : XS9) : Prop := CI σ (cn (σ 5001 900)) (cn (σ 5002 900)) (cn (σ 5003 900)) (cn (σ 7000 23)) (cn (σ 7000 24)) (cn (σ 7000 21)) (fun j => cn (σ (5030 + j) 900) / 2)
def g_clo (σ : XS9) : XS9 := g_McloseOne σ (cn (σ 5001 900)) (cn (σ 5002 900)) (cn (σ 5003 900)) (cn (σ 7000 23)) (cn (σ 7000 24)) (cn (σ 7000 21)) (fun j => cn (σ (5030 + j) 900) / 2)
theorem ct_closeC {l : Launch} {h : XH} (hl : l.stackTraces = false) {z : Int64} {σ : XS9} (hbs : xx_bs h) (hfr : ∀ r, 5000 ≤ r → r < 20010 → h r = none) (hc : CIn σ) : XEx l m_X14_closeOne 12 36 723 [.ref 5000] (setM z σ h) none (setM z (g_clo σ) h) := by
  obtain ⟨⟨a1, a2⟩, ⟨a3, a4⟩, ⟨a5, a6⟩, ⟨a7, a8⟩, ⟨a9, b1⟩, ⟨b2, b3⟩, ⟨b4, b5, b6⟩, b7, b8, b9⟩ := hc
  exact ct_X14_closeOne hl hbs hfr a1 a2 a3 a4 a5 a6 a7 a8 a9 b1 b2 b3 b4 b5 b6 b7 b8 b9
def itC (σ : XS9) : Nat → XS9
  | 0 => σ
  | m + 1 => g_clo (itC σ m)
theorem ci_at {σ s : XS9} {x i : Nat} (hI : ∀ m, m < x → (∀ j, j ≤ m → (itC σ j) 5000 1 = 1) → CIn (itC σ m)) (hi : i < x) (hP : s = itC σ i ∧ ∀ j, j < i → (itC σ j) 5000 1 = 1) (hs : s 5000 1 = 1) : CIn s := by
  obtain ⟨rfl, h2⟩ := hP
  refine hI i hi (fun j hj => ?_)
  rcases Nat.lt_or_ge j i with h | h
  · exact h2 j h
  · obtain rfl : j = i := by omega
    exact hs
def x_Mclose_37 (σ : XS9) (x : Int32) (s0 : XS9) : XS9 := xitB (fun i37 s37 => (if (s37 5000 1) = 1 then .inl (g_clo s37) else .inr s37)) (cn x) 0 s0
def f_Mclose (σ : XS9) (x : Int32) : Int32 := (if n_bt x 1 9 then (if (σ 5000 1) = 1 then (x_Mclose_37 σ x (u2 σ 5000 0 0)) 5000 1 else 0) else 0)
def g_Mclose (σ : XS9) (x : Int32) : XS9 := (if n_bt x 1 9 then (if (σ 5000 1) = 1 then (x_Mclose_37 σ x (u2 σ 5000 0 0)) else u2 (u2 σ 5000 0 0) 5000 0 2) else u2 (u2 σ 5000 0 0) 5000 0 1)
theorem ct_X14_close {l : Launch} {h : XH} (hl : l.stackTraces = false) {z : Int64} {σ : XS9} (hbs : xx_bs h) (hfr : ∀ r, 5000 ≤ r → r < 20010 → h r = none) {x : Int32} (hI : ∀ m, m < cn x → (∀ j, j ≤ m → (itC (u2 σ 5000 0 0) j) 5000 1 = 1) → CIn (itC (u2 σ 5000 0 0) m))  : XEx l m_X14_close 13 324 6507 [.ref 5000, .int x] (setM z σ h) (some (.int (f_Mclose σ x))) (setM z (g_Mclose σ x) h) := by
  refine XMet.of hl rfl rfl (Nat.le_of_ble_eq_true rfl) (fun Y O hh hQ => ?_)
  show SW Y 324 6507 (setM z σ h) 0 [.ref 5000, .int x, xx_d] []
  refine sw_aload_n O (xx_dt dd_X14_close 0 rfl) rfl ?_
  refine sw_iconst (x := 0) O (xx_dt dd_X14_close 1 rfl) (by decide) ?_
  refine sw_put (h2 := setM z (u2 σ 5000 0 0) h) O (xx_dt dd_X14_close 2 rfl) cl_X14 fl_X14_46 (lm_mod (σ := σ)) (by decide) (by omega) rfl (fun _ => ⟨rfl, rfl⟩) (pm_mod (σ := σ) (by omega)) ?_
  refine sw_iload_n O (xx_dt dd_X14_close 3 rfl) rfl ?_
  refine sw_iconst (x := 1) O (xx_dt dd_X14_close 4 rfl) (by decide) ?_
  refine sw_bipush (x := 9) O (xx_dt dd_X14_close 5 rfl) (by decide) ?_
  refine sw_callSx (as := [.int x, .int 1, .int 9]) (st := []) (st2 := [.int (bZ (n_bt x 1 9))]) O (ct_X14_is hl) ce_X14_is ml_X14_70 st_X14_is (xx_dt dd_X14_close 6 rfl) (by decide) rfl rfl (Nat.le_of_ble_eq_true rfl) rfl ?_
  refine sw_if_neB (tgt := 21) O (xx_dt dd_X14_close 7 rfl) (by decide) (fun q1 => ?_) (fun q1 => ?_)
  · have hc12 := (bt_nat 9 q1 (by decide) rfl (by decide))
    refine sw_lsE (ls2 := [.ref 5000, .int (nI (cn x)), xx_d]) (by rw [← hc12.1]) ?_
    have hd12 := hc12.2
    refine sw_aload_n O (xx_dt dd_X14_close 12 rfl) rfl ?_
    refine sw_get (v := .int (σ 5000 1)) O (xx_dt dd_X14_close 13 rfl) cl_X14 fl_X14_77 (lm_mod (σ := u2 σ 5000 0 0)) (by decide) rfl ?_
    refine sw_iconst (x := 1) O (xx_dt dd_X14_close 14 rfl) (by decide) ?_
    refine sw_icmp_eq (tgt := 35) O (xx_dt dd_X14_close 15 rfl) (by decide) (fun q2 => ?_) (fun q2 => ?_)
    · refine sw_iconst (x := 0) O (xx_dt dd_X14_close 20 rfl) (by decide) ?_
      refine sw_istore_n (ls2 := [.ref 5000, .int (nI (cn x)), .int 0]) O (xx_dt dd_X14_close 21 rfl) (by decide) rfl ?_
      refine xx_wid (k' := 0 + 36 * ((cn x) - 0)) (n' := 0 + 723 * ((cn x) - 0)) (by omega) (by omega) ?_
      refine sw_forBV (S := XS9) (kf := fun i9 => 0 + 36 * ((cn x) - i9)) (nf := fun i9 => 0 + 723 * ((cn x) - i9)) (fun i37 s37 => (if (s37 5000 1) = 1 then .inl (g_clo s37) else .inr s37)) (fun i (s : XS9) => s = itC (u2 σ 5000 0 0) i ∧ ∀ j, j < i → (itC (u2 σ 5000 0 0) j) 5000 1 = 1) (fun _ => True) (hp := fun s37 => setM z s37 h) (hd := 37) (lc := fun i37 s37 => [.ref 5000, .int (nI (cn x)), .int (nI i37)]) (ex := 60) (lx := fun s37 => [.ref 5000, .int (nI (cn x)), xx_d]) (N := (cn x)) (fun i37 s37 hi37 hP37 => ⟨⟨(by intro s' e'; revert e'; (try dsimp only); (repeat' split) <;> intro e' <;> first | (cases e'; done) | (have e9 := Sum.inl.inj e'; subst e9; exact ⟨by rw [hP37.1]; rfl, fun j hj => by rcases Nat.lt_or_ge j i37 with h9 | h9; exact hP37.2 j h9; have e8 : j = i37 := (by omega); subst e8; rw [← hP37.1]; assumption⟩)), fun _ _ => trivial⟩, fun kk37 kb37 => ?_⟩) (fun s37 hP37 => ⟨trivial, fun kx37 => ?_⟩) (cn x) 0 (u2 σ 5000 0 0) (by omega) (⟨rfl, fun j hj => absurd hj (by omega)⟩) (fun hP37 => ?_)
      · obtain ⟨kA, ekA⟩ : ∃ k, k = 0 + 36 * ((cn x) - (i37 + 1)) := ⟨_, rfl⟩
        obtain ⟨nA, enA⟩ : ∃ k, k = 0 + 723 * ((cn x) - (i37 + 1)) := ⟨_, rfl⟩
        obtain ⟨kB, ekB⟩ : ∃ k, k = kA + 36 := ⟨_, rfl⟩
        obtain ⟨nB, enB⟩ : ∃ k, k = nA + 723 := ⟨_, rfl⟩
        refine xx_wid (k' := kB) (n' := nB) (by show _ ≤ 0 + 36 * ((cn x) - i37); omega) (by show _ ≤ 0 + 723 * ((cn x) - i37); omega) ?_
        refine sw_iload_n O (xx_dt dd_X14_close 22 rfl) rfl ?_
        refine sw_iload_n O (xx_dt dd_X14_close 23 rfl) rfl ?_
        refine sw_icmp_ge (tgt := 60) O (xx_dt dd_X14_close 24 rfl) (by decide) (fun q3 => ?_) (fun q3 => ?_)
        · exact absurd q3 (nI_ge (b := (cn x)) hi37 (by omega))
        · refine sw_aload_n O (xx_dt dd_X14_close 25 rfl) rfl ?_
          refine sw_get (v := .int (s37 5000 1)) O (xx_dt dd_X14_close 26 rfl) cl_X14 fl_X14_77 (lm_mod (σ := s37)) (by decide) rfl ?_
          refine sw_iconst (x := 1) O (xx_dt dd_X14_close 27 rfl) (by decide) ?_
          refine sw_icmp_ne (tgt := 60) O (xx_dt dd_X14_close 28 rfl) (by decide) (fun q4 => ?_) (fun q4 => ?_)
          · refine sw_dum (ls2 := [.ref 5000, .int (nI (cn x)), xx_d]) ⟨.inr rfl, .inr rfl, .inl rfl, trivial⟩ ?_
            refine xx_wid (k' := 0) (n' := 0) (by omega) (by omega) ?_
            exact kb37 s37 (by simp only [if_neg q4])
          · refine sw_aload_n O (xx_dt dd_X14_close 29 rfl) rfl ?_
            refine xx_wid (k' := kA + 36) (n' := nA + 723) (by omega) (by omega) ?_
            refine sw_callVx (as := []) (st := []) (st2 := []) O (ct_closeC hl (z := z) (σ := s37) hbs hfr (ci_at hI hi37 hP37 (by assumption))) ce_X14_closeOne ml_X14_169 iv_X14_closeOne cl_X14 rfl (lm_mod (σ := s37)) (xx_dt dd_X14_close 30 rfl) (by decide) rfl rfl (Nat.le_of_ble_eq_true rfl) rfl ?_
            refine sw_iinc (y := nI (i37 + 1)) (ls2 := [.ref 5000, .int (nI (cn x)), .int (nI (i37 + 1))]) O (xx_dt dd_X14_close 31 rfl) rfl (nI_1 _) (by decide) rfl ?_
            refine sw_goto (tgt := 37) O (xx_dt dd_X14_close 32 rfl) (by decide) ?_
            refine xx_wid (k' := 0 + 36 * ((cn x) - (i37 + 1))) (n' := 0 + 723 * ((cn x) - (i37 + 1))) (by omega) (by omega) ?_
            exact kk37 (g_clo s37) (by simp only [if_pos q4])
      · show SW Y _ _ (setM z s37 h) 37 [.ref 5000, .int (nI (cn x)), .int (nI ((cn x)))] []
        refine xx_wid (k' := 0) (n' := 0) (by show _ ≤ 0 + 36 * ((cn x) - (cn x)); omega) (by show _ ≤ 0 + 723 * ((cn x) - (cn x)); omega) ?_
        have hZ37 := hP37
        refine sw_iload_n O (xx_dt dd_X14_close 22 rfl) rfl ?_
        refine sw_iload_n O (xx_dt dd_X14_close 23 rfl) rfl ?_
        refine sw_icmp_ge (tgt := 60) O (xx_dt dd_X14_close 24 rfl) (by decide) (fun q3 => ?_) (fun q3 => ?_)
        · refine sw_dum (ls2 := [.ref 5000, .int (nI (cn x)), xx_d]) ⟨.inr rfl, .inr rfl, .inl rfl, trivial⟩ ?_
          refine xx_wid (k' := 0) (n' := 0) (by omega) (by omega) ?_
          exact kx37
        · exact absurd (Int32.le_refl _) q3
      · show SW Y _ _ (setM z (x_Mclose_37 σ x (u2 σ 5000 0 0)) h) 60 [.ref 5000, .int (nI (cn x)), xx_d] []
        refine sw_aload_n O (xx_dt dd_X14_close 33 rfl) rfl ?_
        refine sw_get (v := .int ((x_Mclose_37 σ x (u2 σ 5000 0 0)) 5000 1)) O (xx_dt dd_X14_close 34 rfl) cl_X14 fl_X14_77 (lm_mod (σ := (x_Mclose_37 σ x (u2 σ 5000 0 0)))) (by decide) rfl ?_
        exact sw_iret O (xx_dt dd_X14_close 35 rfl) rfl rfl (by rw [hQ]; exact ⟨by unfold f_Mclose; simp only [if_pos q1, if_pos q2], by unfold g_Mclose; simp only [if_pos q1, if_pos q2]⟩)
    · refine sw_aload_n O (xx_dt dd_X14_close 16 rfl) rfl ?_
      refine sw_iconst (x := 2) O (xx_dt dd_X14_close 17 rfl) (by decide) ?_
      refine sw_callVx (as := [.int 2]) (st := []) (st2 := [.int 0]) O (ct_X14_refuse hl (z := z) (σ := u2 σ 5000 0 0) hbs (x := 2)) ce_X14_refuse ml_X14_74 iv_X14_refuse cl_X14 rfl (lm_mod (σ := u2 σ 5000 0 0)) (xx_dt dd_X14_close 18 rfl) (by decide) rfl rfl (Nat.le_of_ble_eq_true rfl) rfl ?_
      exact sw_iret O (xx_dt dd_X14_close 19 rfl) rfl rfl (by rw [hQ]; exact ⟨by unfold f_Mclose; simp only [if_pos q1, if_neg q2], by unfold g_Mclose; simp only [if_pos q1, if_neg q2]⟩)
  · refine sw_aload_n O (xx_dt dd_X14_close 8 rfl) rfl ?_
    refine sw_iconst (x := 1) O (xx_dt dd_X14_close 9 rfl) (by decide) ?_
    refine sw_callVx (as := [.int 1]) (st := []) (st2 := [.int 0]) O (ct_X14_refuse hl (z := z) (σ := u2 σ 5000 0 0) hbs (x := 1)) ce_X14_refuse ml_X14_74 iv_X14_refuse cl_X14 rfl (lm_mod (σ := u2 σ 5000 0 0)) (xx_dt dd_X14_close 10 rfl) (by decide) rfl rfl (Nat.le_of_ble_eq_true rfl) rfl ?_
    exact sw_iret O (xx_dt dd_X14_close 11 rfl) rfl rfl (by rw [hQ]; exact ⟨by unfold f_Mclose; simp only [if_neg q1], by unfold g_Mclose; simp only [if_neg q1]⟩)
end
section
/-! ===== the reference: isFits ===== -/
def f_MisFits (σ : XS9) (x : Int32) (j c C : Nat) (rg : Nat → Nat) (qa ch : Nat) : Int32 := (if (f_MisFree σ (σ qa c) j rg) = 0 then 0 else f_Mcp (u2 σ qa c ((σ qa c) ||| (1 <<< ((nI j) &&& 31)))) x (j + 1) C rg qa ch)
def g_MisFits (σ : XS9) (x : Int32) (j c C : Nat) (rg : Nat → Nat) (qa ch : Nat) : XS9 := (if (f_MisFree σ (σ qa c) j rg) = 0 then σ else u2 (g_Mcp (u2 σ qa c ((σ qa c) ||| (1 <<< ((nI j) &&& 31)))) x (j + 1) C rg qa ch) qa c (((g_Mcp (u2 σ qa c ((σ qa c) ||| (1 <<< ((nI j) &&& 31)))) x (j + 1) C rg qa ch) qa c) &&& ((1 <<< ((nI j) &&& 31)) ^^^ (-1))))
theorem ct_X14_isFits {l : Launch} {h : XH} (hl : l.stackTraces = false) {z : Int64} {σ : XS9} (hbs : xx_bs h) {R : Nat} (hR : σ 5001 900 = nI R) (hR5 : R ≤ 5) {C : Nat} (hS : σ 5004 900 = nI (2 * C)) (hC10 : C ≤ 10) {rg : Nat → Nat} (hrg : ∀ q, q < C → σ 5004 (2 * q) = nI (rg q) ∧ rg q < R) {qa ch : Nat} (hqa : 20000 ≤ qa ∧ qa < 20010) (hqf : σ qa 20 = nI 1) (hqn : σ qa 21 = nI ch) (hch : ch ≤ 6) {x : Int32} {j : Nat} (hj : j < C) {c : Nat} (hc : c < ch)  : XEx l m_X14_isFits (C + 8) 0 0 [.ref 5000, .int x, .int (nI j), .int (nI c), .ref qa] (setM z σ h) (some (.int (f_MisFits σ x j c C rg qa ch))) (setM z (g_MisFits σ x j c C rg qa ch) h) := by
  refine XMet.of hl rfl rfl (Nat.le_of_ble_eq_true rfl) (fun Y O hh hQ => ?_)
  show SW Y 0 0 (setM z σ h) 0 [.ref 5000, .int x, .int (nI j), .int (nI c), .ref qa, xx_d] []
  refine sw_aload_n O (xx_dt dd_X14_isFits 0 rfl) rfl ?_
  refine sw_aload O (xx_dt dd_X14_isFits 1 rfl) rfl ?_
  refine sw_iload_n O (xx_dt dd_X14_isFits 2 rfl) rfl ?_
  refine sw_iaload (v := .int (σ qa c)) O (xx_dt dd_X14_isFits 3 rfl) ((lm_tmp (z := z) (σ := σ) (h := h) (q := qa) (by omega) (fl1 hqf) hqn (by omega)).get _) (pk_in c _ (by omega)) (by rw [nI_clamp (by omega)]; try exact rfl) ?_
  refine sw_iload_n O (xx_dt dd_X14_isFits 4 rfl) rfl ?_
  refine sw_callVx (as := [.int (σ qa c), .int (nI j)]) (st := []) (st2 := [.int (f_MisFree σ (σ qa c) j rg)]) O (ct_X14_isFree hl (z := z) (σ := σ) hbs (R := R) hR (by omega) (C := C) hS (by omega) (rg := rg) hrg (x := σ qa c) (j := j) (by omega)) ce_X14_isFree ml_X14_268 iv_X14_isFree cl_X14 rfl (lm_mod (σ := σ)) (xx_dt dd_X14_isFits 5 rfl) (by omega) rfl rfl (Nat.le_of_ble_eq_true rfl) rfl ?_
  refine sw_if_ne (tgt := 14) O (xx_dt dd_X14_isFits 6 rfl) (by decide) (fun q1 => ?_) (fun q1 => ?_)
  · refine sw_aload O (xx_dt dd_X14_isFits 9 rfl) rfl ?_
    refine sw_iload_n O (xx_dt dd_X14_isFits 10 rfl) rfl ?_
    refine sw_dup2 O (xx_dt dd_X14_isFits 11 rfl) rfl rfl ?_
    refine sw_iaload (v := .int (σ qa c)) O (xx_dt dd_X14_isFits 12 rfl) ((lm_tmp (z := z) (σ := σ) (h := h) (q := qa) (by omega) (fl1 hqf) hqn (by omega)).get _) (pk_in c _ (by omega)) (by rw [nI_clamp (by omega)]; try exact rfl) ?_
    refine sw_iconst (x := 1) O (xx_dt dd_X14_isFits 13 rfl) (by decide) ?_
    refine sw_iload_n O (xx_dt dd_X14_isFits 14 rfl) rfl ?_
    refine sw_ishl O (xx_dt dd_X14_isFits 15 rfl) ?_
    refine sw_ior O (xx_dt dd_X14_isFits 16 rfl) ?_
    refine sw_iastore (h2 := setM z (u2 σ qa c ((σ qa c) ||| (1 <<< ((nI j) &&& 31)))) h) O (xx_dt dd_X14_isFits 17 rfl) ((lm_tmp (z := z) (σ := σ) (h := h) (q := qa) (by omega) (fl1 hqf) hqn (by omega)).get _) (pk_in c _ (by omega)) (by omega) (by rw [nI_clamp (by omega)]; exact ((lm_tmp (z := z) (σ := σ) (h := h) (q := qa) (by omega) (fl1 hqf) hqn (by omega)).put (by omega))) ?_
    refine sw_aload_n O (xx_dt dd_X14_isFits 18 rfl) rfl ?_
    refine sw_iload_n O (xx_dt dd_X14_isFits 19 rfl) rfl ?_
    refine sw_iload_n O (xx_dt dd_X14_isFits 20 rfl) rfl ?_
    refine sw_iconst (x := 1) O (xx_dt dd_X14_isFits 21 rfl) (by decide) ?_
    refine sw_iadd O (xx_dt dd_X14_isFits 22 rfl) ?_
    rw [nI_a1 j]
    refine sw_aload O (xx_dt dd_X14_isFits 23 rfl) rfl ?_
    refine sw_callVx (as := [.int x, .int (nI (j + 1)), .ref qa]) (st := []) (st2 := [.int (f_Mcp (u2 σ qa c ((σ qa c) ||| (1 <<< ((nI j) &&& 31)))) x (j + 1) C rg qa ch)]) O (ct_X14_canPack hl (z := z) (σ := u2 σ qa c ((σ qa c) ||| (1 <<< ((nI j) &&& 31)))) hbs (R := R) ((congrFun (u2_ne (by omega)) 900).trans hR) (by omega) (C := C) ((congrFun (u2_ne (by omega)) 900).trans hS) (by omega) (rg := rg) (fun j9 hj9 => by rw [show (u2 σ qa c ((σ qa c) ||| (1 <<< ((nI j) &&& 31)))) 5004 = σ 5004 from (u2_ne (by omega))]; exact hrg j9 hj9) (qa := qa) (ch := ch) (by omega) ((u2_oi (by omega)).trans hqf) ((u2_oi (by omega)).trans hqn) (by omega) (x := x) (fr := j + 1) (by omega)) ce_X14_canPack ml_X14_272 iv_X14_canPack cl_X14 rfl (lm_mod (σ := u2 σ qa c ((σ qa c) ||| (1 <<< ((nI j) &&& 31))))) (xx_dt dd_X14_isFits 24 rfl) (by omega) rfl rfl (Nat.le_of_ble_eq_true rfl) rfl ?_
    refine sw_istore (ls2 := [.ref 5000, .int x, .int (nI j), .int (nI c), .ref qa, .int (f_Mcp (u2 σ qa c ((σ qa c) ||| (1 <<< ((nI j) &&& 31)))) x (j + 1) C rg qa ch)]) O (xx_dt dd_X14_isFits 25 rfl) (by decide) rfl ?_
    refine sw_aload O (xx_dt dd_X14_isFits 26 rfl) rfl ?_
    refine sw_iload_n O (xx_dt dd_X14_isFits 27 rfl) rfl ?_
    refine sw_dup2 O (xx_dt dd_X14_isFits 28 rfl) rfl rfl ?_
    refine sw_iaload (v := .int ((g_Mcp (u2 σ qa c ((σ qa c) ||| (1 <<< ((nI j) &&& 31)))) x (j + 1) C rg qa ch) qa c)) O (xx_dt dd_X14_isFits 29 rfl) ((lm_tmp (z := z) (σ := g_Mcp (u2 σ qa c ((σ qa c) ||| (1 <<< ((nI j) &&& 31)))) x (j + 1) C rg qa ch) (h := h) (q := qa) (by omega) (fl1 ((((fl_Mcp (by omega)).1).trans (u2_oi (by omega))).trans hqf)) ((((fl_Mcp (by omega)).2).trans (u2_oi (by omega))).trans hqn) (by omega)).get _) (pk_in c _ (by omega)) (by rw [nI_clamp (by omega)]; try exact rfl) ?_
    refine sw_iconst (x := 1) O (xx_dt dd_X14_isFits 30 rfl) (by decide) ?_
    refine sw_iload_n O (xx_dt dd_X14_isFits 31 rfl) rfl ?_
    refine sw_ishl O (xx_dt dd_X14_isFits 32 rfl) ?_
    refine sw_iconst (x := (-1)) O (xx_dt dd_X14_isFits 33 rfl) (by decide) ?_
    refine sw_ixor O (xx_dt dd_X14_isFits 34 rfl) ?_
    refine sw_iand O (xx_dt dd_X14_isFits 35 rfl) ?_
    refine sw_iastore (h2 := setM z (u2 (g_Mcp (u2 σ qa c ((σ qa c) ||| (1 <<< ((nI j) &&& 31)))) x (j + 1) C rg qa ch) qa c (((g_Mcp (u2 σ qa c ((σ qa c) ||| (1 <<< ((nI j) &&& 31)))) x (j + 1) C rg qa ch) qa c) &&& ((1 <<< ((nI j) &&& 31)) ^^^ (-1)))) h) O (xx_dt dd_X14_isFits 36 rfl) ((lm_tmp (z := z) (σ := g_Mcp (u2 σ qa c ((σ qa c) ||| (1 <<< ((nI j) &&& 31)))) x (j + 1) C rg qa ch) (h := h) (q := qa) (by omega) (fl1 ((((fl_Mcp (by omega)).1).trans (u2_oi (by omega))).trans hqf)) ((((fl_Mcp (by omega)).2).trans (u2_oi (by omega))).trans hqn) (by omega)).get _) (pk_in c _ (by omega)) (by omega) (by rw [nI_clamp (by omega)]; exact ((lm_tmp (z := z) (σ := g_Mcp (u2 σ qa c ((σ qa c) ||| (1 <<< ((nI j) &&& 31)))) x (j + 1) C rg qa ch) (h := h) (q := qa) (by omega) (fl1 ((((fl_Mcp (by omega)).1).trans (u2_oi (by omega))).trans hqf)) ((((fl_Mcp (by omega)).2).trans (u2_oi (by omega))).trans hqn) (by omega)).put (by omega))) ?_
    refine sw_iload O (xx_dt dd_X14_isFits 37 rfl) rfl ?_
    exact sw_iret O (xx_dt dd_X14_isFits 38 rfl) rfl (xx_bool (bo_Mpk _ _ _)) (by rw [hQ]; exact ⟨by unfold f_MisFits; simp only [if_neg q1], by unfold g_MisFits; simp only [if_neg q1]⟩)
  · refine sw_iconst (x := 0) O (xx_dt dd_X14_isFits 7 rfl) (by decide) ?_
    exact sw_iret O (xx_dt dd_X14_isFits 8 rfl) rfl rfl (by rw [hQ]; exact ⟨by unfold f_MisFits; simp only [if_pos q1], by unfold g_MisFits; simp only [if_pos q1]⟩)
end
section
/-! ===== the reference is made ===== -/
def s0M : XS9 := fun r i => if r = 5000 then (if i = 2 then 5 else if i = 3 then 1 else if i = 4 then 10 else 0) else 0
theorem s0M_ctl : ctl s0M = fun _ _ => 0 := by
  funext q i
  unfold ctl
  by_cases e : isCtl q i = true
  · rw [if_pos e]
    have h : q ≠ 5000 := fun h => by
      rw [h] at e
      unfold isCtl at e
      rw [show Nat.ble 5001 5000 = false from rfl, show Nat.beq 5000 5004 = false from rfl, show Nat.ble 5030 5000 = false from rfl, show Nat.beq 5000 7000 = false from rfl, show Nat.beq 5000 8000 = false from rfl, show Nat.beq 5000 9000 = false from rfl, show Nat.ble 20000 5000 = false from rfl] at e
      simp at e
    unfold s0M
    rw [if_neg h]
  · rw [if_neg e]
theorem lyQ_0 {z : Int64} {r : Nat} {s : Nat → Int32} (h : r < 5000 ∨ 5007 < r) : lyQ z (fun _ _ => 0) r s = none := by
  unfold lyQ
  have c0 : cn (0 : Int32) = 0 := rfl
  by_cases u : r < 5010
  · rw [if_pos u]
    split <;> first | rfl | omega
  rw [if_neg u]
  simp only [c0, Nat.not_lt_zero, false_and, if_false, if_true, ite_self, eq_self]
abbrev mod_F : Nat → Value := fun k => match k with | 8 => .ref 5001 | 9 => .ref 5002 | 10 => .ref 5003 | 11 => .ref 5004 | 12 => .null | 13 => .ref 5005 | 14 => .ref 5006 | 15 => .ref 5007 | 16 => .long 0 | k => .int (s0M 5000 k)
theorem new_mod {h : XH} : xx_up (xx_up (xx_up (xx_up (xx_up (xx_up (xx_up (xx_up h 5001 (206, 0, fun k => .ref (5010 + k))) 5002 (206, 0, fun k => .ref (5020 + k))) 5003 (206, 0, fun k => .ref (5200 + k))) 5004 (206, 0, fun k => .ref (xx_box (s0M 5004 k) (nmS s0M k)))) 5005 (100, 6, fun _ => .int 0)) 5006 (100, 6, fun _ => .int 0)) 5007 (100, 5, fun _ => .int 0)) 5000 (20, 17, mod_F) = setM 0 s0M h := by
  have e1 : s0M 5001 900 = nI 0 := rfl
  have e2 : s0M 5002 900 = nI 0 := rfl
  have e3 : s0M 5003 900 = nI 0 := rfl
  have e4 : s0M 5004 900 = nI 0 := rfl
  funext q
  unfold xx_up
  by_cases a0 : q = 5000
  · rw [if_pos a0, a0, lm_modN (show s0M 7000 25 = 0 from rfl)]
    congr 3
  rw [if_neg a0]
  by_cases a7 : q = 5007
  · rw [if_pos a7, a7]; exact (lm_5007 (z := 0) (σ := s0M) (h := h)).symm
  rw [if_neg a7]
  by_cases a6 : q = 5006
  · rw [if_pos a6, a6]; exact (lm_5006 (z := 0) (σ := s0M) (h := h)).symm
  rw [if_neg a6]
  by_cases a5 : q = 5005
  · rw [if_pos a5, a5]; exact (lm_5005 (z := 0) (σ := s0M) (h := h)).symm
  rw [if_neg a5]
  by_cases a4 : q = 5004
  · rw [if_pos a4, a4, lm_5004 e4 (by omega)]
  rw [if_neg a4]
  by_cases a3 : q = 5003
  · rw [if_pos a3, a3, lm_5003 e3 (by omega)]
  rw [if_neg a3]
  by_cases a2 : q = 5002
  · rw [if_pos a2, a2, lm_5002 e2 (by omega)]
  rw [if_neg a2]
  by_cases a1 : q = 5001
  · rw [if_pos a1, a1, lm_5001 e1 (by omega)]
  rw [if_neg a1, setM_no (by rw [s0M_ctl]; exact lyQ_0 (by omega))]
theorem ct_X14_init {l : Launch} {h : XH} (hl : l.stackTraces = false) (hbs : xx_bs h) (hfr : ∀ r, 5000 ≤ r → r < 20010 → h r = none) : XEx l m_X14_init 5 7 29 [.ref 5000] (xx_up h 5000 (20, 17, fun j => defaultValue (tyX14 j))) none (setM 0 s0M h) := by
  refine XMet.of hl rfl rfl (Nat.le_of_ble_eq_true rfl) (fun Y O hh hQ => ?_)
  obtain ⟨f0, hz0⟩ := hbs.1
  show SW Y 7 29 (xx_up h 5000 (20, 17, fun j => defaultValue (tyX14 j))) 0 [.ref 5000] []
  refine sw_aload_n O (xx_dt dd_X14_init 0 rfl) rfl ?_
  refine sw_objInit O oi_X14_1 (xx_dt dd_X14_init 1 rfl) (by omega) (Nat.le_of_ble_eq_true rfl) ?_
  refine sw_aload_n O (xx_dt dd_X14_init 2 rfl) rfl ?_
  refine sw_iconst (x := 5) O (xx_dt dd_X14_init 3 rfl) (by decide) ?_
  refine sw_put (h2 := xx_up h 5000 (20, 17, updV (fun j => defaultValue (tyX14 j)) 2 (.int 5))) O (xx_dt dd_X14_init 4 rfl) cl_X14 fl_X14_7 (xx_up_eq _ _ _) (by decide) (by omega) rfl (fun _ => ⟨rfl, rfl⟩) xx_up_up ?_
  refine sw_aload_n O (xx_dt dd_X14_init 5 rfl) rfl ?_
  refine sw_iconst (x := 1) O (xx_dt dd_X14_init 6 rfl) (by decide) ?_
  refine sw_put (h2 := xx_up h 5000 (20, 17, updV (updV (fun j => defaultValue (tyX14 j)) 2 (.int 5)) 3 (.int 1))) O (xx_dt dd_X14_init 7 rfl) cl_X14 fl_X14_13 (xx_up_eq _ _ _) (by decide) (by omega) rfl (fun _ => ⟨rfl, rfl⟩) xx_up_up ?_
  refine sw_aload_n O (xx_dt dd_X14_init 8 rfl) rfl ?_
  refine sw_bipush (x := 10) O (xx_dt dd_X14_init 9 rfl) (by decide) ?_
  refine sw_put (h2 := xx_up h 5000 (20, 17, updV (updV (updV (fun j => defaultValue (tyX14 j)) 2 (.int 5)) 3 (.int 1)) 4 (.int 10))) O (xx_dt dd_X14_init 10 rfl) cl_X14 fl_X14_17 (xx_up_eq _ _ _) (by decide) (by omega) rfl (fun _ => ⟨rfl, rfl⟩) xx_up_up ?_
  refine sw_aload_n O (xx_dt dd_X14_init 11 rfl) rfl ?_
  refine sw_new (k := 6) (n := 26) (r := 5001) O (xx_dt dd_X14_init 12 rfl) cl_Jx4a65c nw_X14_20 ((xx_up_ne (by omega)).trans (hfr 5001 (by omega) (by omega))) (by omega) ?_
  rw [xx_blk_up]
  refine sw_alter (r := 5001) (F2 := vp_V [.int 0, .null, .int 0]) (xx_up_eq _ _ _) (fun j hj => by match j, hj with | 0, _ => rfl | 1, _ => rfl | 2, _ => rfl) ?_
  rw [xx_up_up, xx_up_sw (by omega)]
  refine sw_dup O (xx_dt dd_X14_init 13 rfl) rfl ?_
  refine sw_callIx (k := 6) (n := 26) (k' := 0) (n' := 0) (as := []) (st := [.ref 5001, .ref 5000]) (st2 := [.ref 5001, .ref 5000]) O (ct_AL_init hl (r := 5001) ((xx_up_ne (by omega)).trans (xx_up_eq _ _ _)) (by omega) (fun k _ => rfl) ((xx_up_ne (by omega)).trans ((xx_up_ne (by omega)).trans hz0))) ce_Jx4a65c_init_da8c8 ml_X14_22 ii_Jx4a65c_init_da8c8 (xx_dt dd_X14_init 14 rfl) (by decide) rfl rfl (Nat.le_of_ble_eq_true rfl) rfl ?_
  refine sw_alter (r := 5001) (F2 := fun k => .ref (5010 + k)) (xx_up_eq _ _ _) (fun j hj => absurd hj (by omega)) ?_
  rw [xx_up_up, xx_up_sw (by omega), xx_up_up]
  refine sw_putF (h2 := xx_up (xx_up h 5001 (206, 0, fun k => .ref (5010 + k))) 5000 (20, 17, updV (updV (updV (updV (fun j => defaultValue (tyX14 j)) 2 (.int 5)) 3 (.int 1)) 4 (.int 10)) 8 (.ref 5001))) O (xx_dt dd_X14_init 15 rfl) cl_X14 fz_X14_23 (xx_up_eq _ _ _) (by decide) (by omega) rfl rfl (fun _ => ⟨rfl, rfl⟩) xx_up_up ?_
  refine sw_aload_n O (xx_dt dd_X14_init 16 rfl) rfl ?_
  refine sw_new (k := 5) (n := 23) (r := 5002) O (xx_dt dd_X14_init 17 rfl) cl_Jx4a65c nw_X14_20 ((xx_up_ne (by omega)).trans ((xx_up_ne (by omega)).trans (hfr 5002 (by omega) (by omega)))) (by omega) ?_
  rw [xx_blk_up]
  refine sw_alter (r := 5002) (F2 := vp_V [.int 0, .null, .int 0]) (xx_up_eq _ _ _) (fun j hj => by match j, hj with | 0, _ => rfl | 1, _ => rfl | 2, _ => rfl) ?_
  rw [xx_up_up, xx_up_sw (by omega)]
  refine sw_dup O (xx_dt dd_X14_init 18 rfl) rfl ?_
  refine sw_callIx (k := 5) (n := 23) (k' := 0) (n' := 0) (as := []) (st := [.ref 5002, .ref 5000]) (st2 := [.ref 5002, .ref 5000]) O (ct_AL_init hl (r := 5002) ((xx_up_ne (by omega)).trans (xx_up_eq _ _ _)) (by omega) (fun k _ => rfl) ((xx_up_ne (by omega)).trans ((xx_up_ne (by omega)).trans ((xx_up_ne (by omega)).trans hz0)))) ce_Jx4a65c_init_da8c8 ml_X14_22 ii_Jx4a65c_init_da8c8 (xx_dt dd_X14_init 19 rfl) (by decide) rfl rfl (Nat.le_of_ble_eq_true rfl) rfl ?_
  refine sw_alter (r := 5002) (F2 := fun k => .ref (5020 + k)) (xx_up_eq _ _ _) (fun j hj => absurd hj (by omega)) ?_
  rw [xx_up_up, xx_up_sw (by omega), xx_up_up]
  refine sw_putF (h2 := xx_up (xx_up (xx_up h 5001 (206, 0, fun k => .ref (5010 + k))) 5002 (206, 0, fun k => .ref (5020 + k))) 5000 (20, 17, updV (updV (updV (updV (updV (fun j => defaultValue (tyX14 j)) 2 (.int 5)) 3 (.int 1)) 4 (.int 10)) 8 (.ref 5001)) 9 (.ref 5002))) O (xx_dt dd_X14_init 20 rfl) cl_X14 fz_X14_27 (xx_up_eq _ _ _) (by decide) (by omega) rfl rfl (fun _ => ⟨rfl, rfl⟩) xx_up_up ?_
  refine sw_aload_n O (xx_dt dd_X14_init 21 rfl) rfl ?_
  refine sw_new (k := 4) (n := 20) (r := 5003) O (xx_dt dd_X14_init 22 rfl) cl_Jx4a65c nw_X14_20 ((xx_up_ne (by omega)).trans ((xx_up_ne (by omega)).trans ((xx_up_ne (by omega)).trans (hfr 5003 (by omega) (by omega))))) (by omega) ?_
  rw [xx_blk_up]
  refine sw_alter (r := 5003) (F2 := vp_V [.int 0, .null, .int 0]) (xx_up_eq _ _ _) (fun j hj => by match j, hj with | 0, _ => rfl | 1, _ => rfl | 2, _ => rfl) ?_
  rw [xx_up_up, xx_up_sw (by omega)]
  refine sw_dup O (xx_dt dd_X14_init 23 rfl) rfl ?_
  refine sw_callIx (k := 4) (n := 20) (k' := 0) (n' := 0) (as := []) (st := [.ref 5003, .ref 5000]) (st2 := [.ref 5003, .ref 5000]) O (ct_AL_init hl (r := 5003) ((xx_up_ne (by omega)).trans (xx_up_eq _ _ _)) (by omega) (fun k _ => rfl) ((xx_up_ne (by omega)).trans ((xx_up_ne (by omega)).trans ((xx_up_ne (by omega)).trans ((xx_up_ne (by omega)).trans hz0))))) ce_Jx4a65c_init_da8c8 ml_X14_22 ii_Jx4a65c_init_da8c8 (xx_dt dd_X14_init 24 rfl) (by decide) rfl rfl (Nat.le_of_ble_eq_true rfl) rfl ?_
  refine sw_alter (r := 5003) (F2 := fun k => .ref (5200 + k)) (xx_up_eq _ _ _) (fun j hj => absurd hj (by omega)) ?_
  rw [xx_up_up, xx_up_sw (by omega), xx_up_up]
  refine sw_putF (h2 := xx_up (xx_up (xx_up (xx_up h 5001 (206, 0, fun k => .ref (5010 + k))) 5002 (206, 0, fun k => .ref (5020 + k))) 5003 (206, 0, fun k => .ref (5200 + k))) 5000 (20, 17, updV (updV (updV (updV (updV (updV (fun j => defaultValue (tyX14 j)) 2 (.int 5)) 3 (.int 1)) 4 (.int 10)) 8 (.ref 5001)) 9 (.ref 5002)) 10 (.ref 5003))) O (xx_dt dd_X14_init 25 rfl) cl_X14 fz_X14_30 (xx_up_eq _ _ _) (by decide) (by omega) rfl rfl (fun _ => ⟨rfl, rfl⟩) xx_up_up ?_
  refine sw_aload_n O (xx_dt dd_X14_init 26 rfl) rfl ?_
  refine sw_new (k := 3) (n := 17) (r := 5004) O (xx_dt dd_X14_init 27 rfl) cl_Jx4a65c nw_X14_20 ((xx_up_ne (by omega)).trans ((xx_up_ne (by omega)).trans ((xx_up_ne (by omega)).trans ((xx_up_ne (by omega)).trans (hfr 5004 (by omega) (by omega)))))) (by omega) ?_
  rw [xx_blk_up]
  refine sw_alter (r := 5004) (F2 := vp_V [.int 0, .null, .int 0]) (xx_up_eq _ _ _) (fun j hj => by match j, hj with | 0, _ => rfl | 1, _ => rfl | 2, _ => rfl) ?_
  rw [xx_up_up, xx_up_sw (by omega)]
  refine sw_dup O (xx_dt dd_X14_init 28 rfl) rfl ?_
  refine sw_callIx (k := 3) (n := 17) (k' := 0) (n' := 0) (as := []) (st := [.ref 5004, .ref 5000]) (st2 := [.ref 5004, .ref 5000]) O (ct_AL_init hl (r := 5004) ((xx_up_ne (by omega)).trans (xx_up_eq _ _ _)) (by omega) (fun k _ => rfl) ((xx_up_ne (by omega)).trans ((xx_up_ne (by omega)).trans ((xx_up_ne (by omega)).trans ((xx_up_ne (by omega)).trans ((xx_up_ne (by omega)).trans hz0)))))) ce_Jx4a65c_init_da8c8 ml_X14_22 ii_Jx4a65c_init_da8c8 (xx_dt dd_X14_init 29 rfl) (by decide) rfl rfl (Nat.le_of_ble_eq_true rfl) rfl ?_
  refine sw_alter (r := 5004) (F2 := fun k => .ref (xx_box (s0M 5004 k) (nmS s0M k))) (xx_up_eq _ _ _) (fun j hj => absurd hj (by omega)) ?_
  rw [xx_up_up, xx_up_sw (by omega), xx_up_up]
  refine sw_putF (h2 := xx_up (xx_up (xx_up (xx_up (xx_up h 5001 (206, 0, fun k => .ref (5010 + k))) 5002 (206, 0, fun k => .ref (5020 + k))) 5003 (206, 0, fun k => .ref (5200 + k))) 5004 (206, 0, fun k => .ref (xx_box (s0M 5004 k) (nmS s0M k)))) 5000 (20, 17, updV (updV (updV (updV (updV (updV (updV (fun j => defaultValue (tyX14 j)) 2 (.int 5)) 3 (.int 1)) 4 (.int 10)) 8 (.ref 5001)) 9 (.ref 5002)) 10 (.ref 5003)) 11 (.ref 5004))) O (xx_dt dd_X14_init 30 rfl) cl_X14 fz_X14_33 (xx_up_eq _ _ _) (by decide) (by omega) rfl rfl (fun _ => ⟨rfl, rfl⟩) xx_up_up ?_
  refine sw_aload_n O (xx_dt dd_X14_init 31 rfl) rfl ?_
  refine sw_bipush (x := 6) O (xx_dt dd_X14_init 32 rfl) (by decide) ?_
  refine sw_newarray (k := 2) (n := 11) (t := 100) (N := 6) (r := 5005) O (xx_dt dd_X14_init 33 rfl) ⟨⟨by omega, by omega⟩, rfl⟩ ac_int (by first | decide | (have h9 := xx_nlt0 6 (by omega); exact h9)) (by first | rfl | exact nI_clamp (by omega)) (by show 6 * 4 ≤ _; omega) ((xx_up_ne (by omega)).trans ((xx_up_ne (by omega)).trans ((xx_up_ne (by omega)).trans ((xx_up_ne (by omega)).trans ((xx_up_ne (by omega)).trans (hfr 5005 (by omega) (by omega))))))) (by omega) ?_
  rw [xx_blk_up, def0, xx_up_sw (by omega)]
  refine sw_putF (h2 := xx_up (xx_up (xx_up (xx_up (xx_up (xx_up h 5001 (206, 0, fun k => .ref (5010 + k))) 5002 (206, 0, fun k => .ref (5020 + k))) 5003 (206, 0, fun k => .ref (5200 + k))) 5004 (206, 0, fun k => .ref (xx_box (s0M 5004 k) (nmS s0M k)))) 5005 (100, 6, fun _ => .int 0)) 5000 (20, 17, updV (updV (updV (updV (updV (updV (updV (updV (fun j => defaultValue (tyX14 j)) 2 (.int 5)) 3 (.int 1)) 4 (.int 10)) 8 (.ref 5001)) 9 (.ref 5002)) 10 (.ref 5003)) 11 (.ref 5004)) 13 (.ref 5005))) O (xx_dt dd_X14_init 34 rfl) cl_X14 fz_X14_36 (xx_up_eq _ _ _) (by decide) (by omega) rfl rfl (fun _ => ⟨rfl, rfl⟩) xx_up_up ?_
  refine sw_aload_n O (xx_dt dd_X14_init 35 rfl) rfl ?_
  refine sw_bipush (x := 6) O (xx_dt dd_X14_init 36 rfl) (by decide) ?_
  refine sw_newarray (k := 1) (n := 5) (t := 100) (N := 6) (r := 5006) O (xx_dt dd_X14_init 37 rfl) ⟨⟨by omega, by omega⟩, rfl⟩ ac_int (by first | decide | (have h9 := xx_nlt0 6 (by omega); exact h9)) (by first | rfl | exact nI_clamp (by omega)) (by show 6 * 4 ≤ _; omega) ((xx_up_ne (by omega)).trans ((xx_up_ne (by omega)).trans ((xx_up_ne (by omega)).trans ((xx_up_ne (by omega)).trans ((xx_up_ne (by omega)).trans ((xx_up_ne (by omega)).trans (hfr 5006 (by omega) (by omega)))))))) (by omega) ?_
  rw [xx_blk_up, def0, xx_up_sw (by omega)]
  refine sw_putF (h2 := xx_up (xx_up (xx_up (xx_up (xx_up (xx_up (xx_up h 5001 (206, 0, fun k => .ref (5010 + k))) 5002 (206, 0, fun k => .ref (5020 + k))) 5003 (206, 0, fun k => .ref (5200 + k))) 5004 (206, 0, fun k => .ref (xx_box (s0M 5004 k) (nmS s0M k)))) 5005 (100, 6, fun _ => .int 0)) 5006 (100, 6, fun _ => .int 0)) 5000 (20, 17, updV (updV (updV (updV (updV (updV (updV (updV (updV (fun j => defaultValue (tyX14 j)) 2 (.int 5)) 3 (.int 1)) 4 (.int 10)) 8 (.ref 5001)) 9 (.ref 5002)) 10 (.ref 5003)) 11 (.ref 5004)) 13 (.ref 5005)) 14 (.ref 5006))) O (xx_dt dd_X14_init 38 rfl) cl_X14 fz_X14_40 (xx_up_eq _ _ _) (by decide) (by omega) rfl rfl (fun _ => ⟨rfl, rfl⟩) xx_up_up ?_
  refine sw_aload_n O (xx_dt dd_X14_init 39 rfl) rfl ?_
  refine sw_iconst (x := 5) O (xx_dt dd_X14_init 40 rfl) (by decide) ?_
  refine sw_newarray (k := 0) (n := 0) (t := 100) (N := 5) (r := 5007) O (xx_dt dd_X14_init 41 rfl) ⟨⟨by omega, by omega⟩, rfl⟩ ac_int (by first | decide | (have h9 := xx_nlt0 5 (by omega); exact h9)) (by first | rfl | exact nI_clamp (by omega)) (by show 5 * 4 ≤ _; omega) ((xx_up_ne (by omega)).trans ((xx_up_ne (by omega)).trans ((xx_up_ne (by omega)).trans ((xx_up_ne (by omega)).trans ((xx_up_ne (by omega)).trans ((xx_up_ne (by omega)).trans ((xx_up_ne (by omega)).trans (hfr 5007 (by omega) (by omega))))))))) (by omega) ?_
  rw [xx_blk_up, def0, xx_up_sw (by omega)]
  refine sw_putF (h2 := xx_up (xx_up (xx_up (xx_up (xx_up (xx_up (xx_up (xx_up h 5001 (206, 0, fun k => .ref (5010 + k))) 5002 (206, 0, fun k => .ref (5020 + k))) 5003 (206, 0, fun k => .ref (5200 + k))) 5004 (206, 0, fun k => .ref (xx_box (s0M 5004 k) (nmS s0M k)))) 5005 (100, 6, fun _ => .int 0)) 5006 (100, 6, fun _ => .int 0)) 5007 (100, 5, fun _ => .int 0)) 5000 (20, 17, updV (updV (updV (updV (updV (updV (updV (updV (updV (updV (fun j => defaultValue (tyX14 j)) 2 (.int 5)) 3 (.int 1)) 4 (.int 10)) 8 (.ref 5001)) 9 (.ref 5002)) 10 (.ref 5003)) 11 (.ref 5004)) 13 (.ref 5005)) 14 (.ref 5006)) 15 (.ref 5007))) O (xx_dt dd_X14_init 42 rfl) cl_X14 fz_X14_43 (xx_up_eq _ _ _) (by decide) (by omega) rfl rfl (fun _ => ⟨rfl, rfl⟩) xx_up_up ?_
  refine sw_alter (F2 := mod_F) (xx_up_eq _ _ _) (fun j hj => by match j, hj with | 0, _ => rfl | 1, _ => rfl | 2, _ => rfl | 3, _ => rfl | 4, _ => rfl | 5, _ => rfl | 6, _ => rfl | 7, _ => rfl | 8, _ => rfl | 9, _ => rfl | 10, _ => rfl | 11, _ => rfl | 12, _ => rfl | 13, _ => rfl | 14, _ => rfl | 15, _ => rfl | 16, _ => rfl | k9 + 17, h9 => exact absurd h9 (by omega)) ?_
  rw [xx_up_up, new_mod]
  exact sw_ret O (xx_dt dd_X14_init 43 rfl) rfl (by rw [hQ]; exact ⟨rfl, rfl⟩)
end
section
/-! ===== the reference: the clock runs anew ===== -/
/-- what f rounds from the i-th on take -/
def rmN : Nat → Nat → Nat
  | 0, _ => 0
  | f + 1, i => 2 * (i + i / 2) + 55 + rmN f (i + 1)
theorem rmN_s {K i : Nat} (h : i < K) : rmN (K - i) i = 2 * (i + i / 2) + 55 + rmN (K - (i + 1)) (i + 1) := by
  rw [show K - i = (K - (i + 1)) + 1 by omega]
  rfl
theorem rmN_le {K : Nat} (h : K ≤ 60) : rmN (K - 0) 0 ≤ 8580 := by
  have : ∀ a : Fin 61, rmN (a.1 - 0) 0 ≤ 8580 := by decide +kernel
  exact this ⟨K, by omega⟩
theorem Kinit_c {σ : XS9} {R B : Nat} : g_Kinit σ 8000 R B 8000 20 = nI 1 ∧ g_Kinit σ 8000 R B 8000 21 = nI 0 ∧ g_Kinit σ 8000 R B 8000 22 = nI 0 ∧ g_Kinit σ 8000 R B 8000 23 = nI (2 * 0) ∧ g_Kinit σ 8000 R B 8000 24 = nI (2 * 0) := by
  have F : ∀ j, g_Kinit σ 8000 R B 8000 j = g_clk0 σ 8000 8000 j := fun j => by
    unfold g_Kinit x_Kinit_132 x_Kinit_95
    rw [xit_keep (fun s : XS9 => s 8000) (fun i s => by (try dsimp only); rw [u2_ne (by omega), u2_ne (by omega)]), xit_keep (fun s : XS9 => s 8000) (fun i s => by (try dsimp only); rw [u2_ne (by omega)])]
  obtain ⟨k1, k2, k3, k4, k5, k6, k7⟩ := clk0_b (σ := σ) (b := 8000)
  exact ⟨(F _).trans k1, (F _).trans k2, (F _).trans k3, (F _).trans k4, (F _).trans k5⟩
theorem anew_step {GA : Nat → XS9 → Prop} {S0 W : XS9} {v : Int32} {R B i : Nat} (hi : i < 60) (h20 : W 8000 20 = nI 1) (hq : ∀ q, (q < 8000 ∨ 9000 ≤ q) → W q = S0 q) (hg : GA (i + 1) (g_Kclose W v 8000 R B (2 * i + 1) (2 * i + 1) i)) : g_Kclose W v 8000 R B (2 * i + 1) (2 * i + 1) i 8000 20 = nI 1 ∧ g_Kclose W v 8000 R B (2 * i + 1) (2 * i + 1) i 8000 21 = nI (i + 1) ∧ g_Kclose W v 8000 R B (2 * i + 1) (2 * i + 1) i 8000 22 = nI (i + 1) ∧ g_Kclose W v 8000 R B (2 * i + 1) (2 * i + 1) i 8000 23 = nI (2 * (i + 1)) ∧ g_Kclose W v 8000 R B (2 * i + 1) (2 * i + 1) i 8000 24 = nI (2 * (i + 1)) ∧ (∀ q, (q < 8000 ∨ 9000 ≤ q) → g_Kclose W v 8000 R B (2 * i + 1) (2 * i + 1) i q = S0 q) ∧ GA (i + 1) (g_Kclose W v 8000 R B (2 * i + 1) (2 * i + 1) i) := by
  obtain ⟨c1, c2, c3, c4, c5, c6⟩ := Kclose_c (σ := W) (x := v) (b := 8000) (R := R) (B := B) (g := 2 * i + 1) (w := 2 * i + 1) (n := i) (by omega) (by omega) hi
  exact ⟨c1.trans h20, c3, c4, c5, c6, fun q h => (fr_Kclose (by omega) (by omega) hi (by omega)).trans (hq q h), hg⟩
def st_anew (σ : XS9) (x : Int32) (j r : Nat) (u : Int32) (R B K : Nat) : Nat → XS9 → XS9 ⊕ XS9 := fun i13 s13 => (if (s13 8000 9) = 0 then (if (nI i13) = (x - 1) then .inl (g_Kclose (u2 (u2 (uR (u2 (uR s13 (8000 + 500 + (2 * i13 + 1)) (s13 (6100 + i13))) 8000 23 (nI (2 * i13 + 1))) (8000 + 700 + (2 * i13 + 1)) ((u2 (uR s13 (8000 + 500 + (2 * i13 + 1)) (s13 (6100 + i13))) 8000 23 (nI (2 * i13 + 1))) (6300 + i13))) 8000 24 (nI (2 * i13 + 1))) (8000 + 500 + (2 * i13 + 1)) j (f_with ((uR s13 (8000 + 500 + (2 * i13 + 1)) (s13 (6100 + i13))) (8000 + 500 + (2 * i13 + 1)) j) r u)) (σ (5200 + i13) 0) 8000 R B (2 * i13 + 1) (2 * i13 + 1) i13) else .inl (g_Kclose (u2 (uR (u2 (uR s13 (8000 + 500 + (2 * i13 + 1)) (s13 (6100 + i13))) 8000 23 (nI (2 * i13 + 1))) (8000 + 700 + (2 * i13 + 1)) ((u2 (uR s13 (8000 + 500 + (2 * i13 + 1)) (s13 (6100 + i13))) 8000 23 (nI (2 * i13 + 1))) (6300 + i13))) 8000 24 (nI (2 * i13 + 1))) (σ (5200 + i13) 0) 8000 R B (2 * i13 + 1) (2 * i13 + 1) i13)) else .inr s13)
def x_MrunAnew_13 (σ : XS9) (x : Int32) (j r : Nat) (u : Int32) (R B K : Nat) (s0 : XS9) : XS9 := xitB (fun i13 s13 => (if (s13 8000 9) = 0 then (if (nI i13) = (x - 1) then .inl (g_Kclose (u2 (u2 (uR (u2 (uR s13 (8000 + 500 + (2 * i13 + 1)) (s13 (6100 + i13))) 8000 23 (nI (2 * i13 + 1))) (8000 + 700 + (2 * i13 + 1)) ((u2 (uR s13 (8000 + 500 + (2 * i13 + 1)) (s13 (6100 + i13))) 8000 23 (nI (2 * i13 + 1))) (6300 + i13))) 8000 24 (nI (2 * i13 + 1))) (8000 + 500 + (2 * i13 + 1)) j (f_with ((uR s13 (8000 + 500 + (2 * i13 + 1)) (s13 (6100 + i13))) (8000 + 500 + (2 * i13 + 1)) j) r u)) (σ (5200 + i13) 0) 8000 R B (2 * i13 + 1) (2 * i13 + 1) i13) else .inl (g_Kclose (u2 (uR (u2 (uR s13 (8000 + 500 + (2 * i13 + 1)) (s13 (6100 + i13))) 8000 23 (nI (2 * i13 + 1))) (8000 + 700 + (2 * i13 + 1)) ((u2 (uR s13 (8000 + 500 + (2 * i13 + 1)) (s13 (6100 + i13))) 8000 23 (nI (2 * i13 + 1))) (6300 + i13))) 8000 24 (nI (2 * i13 + 1))) (σ (5200 + i13) 0) 8000 R B (2 * i13 + 1) (2 * i13 + 1) i13)) else .inr s13)) K 0 s0
def g_MrunAnew (σ : XS9) (x : Int32) (j r : Nat) (u : Int32) (R B K : Nat) : XS9 := (x_MrunAnew_13 σ x j r u R B K (g_Kinit σ 8000 R B))
theorem ct_X14_runAnew {l : Launch} {h : XH} (hl : l.stackTraces = false) {z : Int64} {σ : XS9} (hbs : xx_bs h) (hfr : ∀ r, 5000 ≤ r → r < 20010 → h r = none) {R : Nat} (hR : σ 5001 900 = nI R) (hR5 : R ≤ 5) {B : Nat} (hB : σ 5002 900 = nI B) (hB6 : B ≤ 6) {K : Nat} (hK : σ 5003 900 = nI K) (hK60 : K ≤ 60) (hk8 : σ 8000 20 = 0) {x u : Int32} {j r : Nat} (hj : j < 6) (hr : r < 6) (hlw : ∀ i j, i < K → j < 6 → σ (6300 + i) j = 0 ∨ σ (6300 + i) j = 1) {GA : Nat → XS9 → Prop} (hG0 : GA 0 (g_Kinit σ 8000 R B)) (hG : ∀ (i : Nat) (s s9 : XS9), i < K → GA i s → st_anew σ x j r u R B K i s = .inl s9 → GA (i + 1) s9) (hA1 : ∀ (i13 : Nat) (s13 : XS9), i13 < K → GA i13 s13 → ∀ i9 r9, i9 < B → r9 < R → 0 ≤ (f_of (x_Kclose_2 (u2 (uR (u2 (uR s13 (8000 + 500 + (2 * i13 + 1)) (s13 (6100 + i13))) 8000 23 (nI (2 * i13 + 1))) (8000 + 700 + (2 * i13 + 1)) ((u2 (uR s13 (8000 + 500 + (2 * i13 + 1)) (s13 (6100 + i13))) 8000 23 (nI (2 * i13 + 1))) (6300 + i13))) 8000 24 (nI (2 * i13 + 1))) 8000 R B (2 * i13 + 1) (2 * i13 + 1) i13 (u2 (uR (u2 (uR s13 (8000 + 500 + (2 * i13 + 1)) (s13 (6100 + i13))) 8000 23 (nI (2 * i13 + 1))) (8000 + 700 + (2 * i13 + 1)) ((u2 (uR s13 (8000 + 500 + (2 * i13 + 1)) (s13 (6100 + i13))) 8000 23 (nI (2 * i13 + 1))) (6300 + i13))) 8000 24 (nI (2 * i13 + 1))) (8000 + 500 + (2 * i13 + 1)) i9) r9).toInt) (hA2 : ∀ (i13 : Nat) (s13 : XS9), i13 < K → GA i13 s13 → ∀ i9 r9, i9 < B → r9 < R → 0 ≤ (f_of (x_Kclose_2 (u2 (u2 (uR (u2 (uR s13 (8000 + 500 + (2 * i13 + 1)) (s13 (6100 + i13))) 8000 23 (nI (2 * i13 + 1))) (8000 + 700 + (2 * i13 + 1)) ((u2 (uR s13 (8000 + 500 + (2 * i13 + 1)) (s13 (6100 + i13))) 8000 23 (nI (2 * i13 + 1))) (6300 + i13))) 8000 24 (nI (2 * i13 + 1))) (8000 + 500 + (2 * i13 + 1)) j (f_with ((uR s13 (8000 + 500 + (2 * i13 + 1)) (s13 (6100 + i13))) (8000 + 500 + (2 * i13 + 1)) j) r u)) 8000 R B (2 * i13 + 1) (2 * i13 + 1) i13 (u2 (u2 (uR (u2 (uR s13 (8000 + 500 + (2 * i13 + 1)) (s13 (6100 + i13))) 8000 23 (nI (2 * i13 + 1))) (8000 + 700 + (2 * i13 + 1)) ((u2 (uR s13 (8000 + 500 + (2 * i13 + 1)) (s13 (6100 + i13))) 8000 23 (nI (2 * i13 + 1))) (6300 + i13))) 8000 24 (nI (2 * i13 + 1))) (8000 + 500 + (2 * i13 + 1)) j (f_with ((uR s13 (8000 + 500 + (2 * i13 + 1)) (s13 (6100 + i13))) (8000 + 500 + (2 * i13 + 1)) j) r u)) (8000 + 500 + (2 * i13 + 1)) i9) r9).toInt) : XEx l m_X14_runAnew 10 490 8638 [.ref 5000, .int x, .int (nI j), .int (nI r), .int u] (setM z σ h) (some (.ref 8000)) (setM z (g_MrunAnew σ x j r u R B K) h) := by
  refine XMet.of hl rfl rfl (Nat.le_of_ble_eq_true rfl) (fun Y O hh hQ => ?_)
  have hrm9 := rmN_le hK60
  show SW Y 490 8638 (setM z σ h) 0 [.ref 5000, .int x, .int (nI j), .int (nI r), .int u, xx_d, xx_d] []
  refine sw_new (k := 489) (n := 8627) (r := 8000) O (xx_dt dd_X14_runAnew 0 rfl) cl_X11 nw_X14_136 (noK_r (z := z) (σ := σ) (r := 8000) (.inr rfl) hk8 (by omega) (by omega) hfr) (by omega) ?_
  rw [xx_blk_up]
  refine sw_dup O (xx_dt dd_X14_runAnew 1 rfl) rfl ?_
  refine sw_aload_n O (xx_dt dd_X14_runAnew 2 rfl) rfl ?_
  refine sw_callIx (k := 480) (n := 8580) (k' := 9) (n' := 47) (as := [.ref 5000]) (st := [.ref 8000]) (st2 := [.ref 8000]) O (ct_Kinit hl (z := z) (σ := σ) hbs hfr (R := R) hR (by omega) (B := B) hB (by omega) (b := 8000) (.inr rfl) hk8) ce_X11_init ml_X14_138 ii_X11_init (xx_dt dd_X14_runAnew 3 rfl) (by decide) rfl rfl (Nat.le_of_ble_eq_true rfl) rfl ?_
  refine sw_astore (ls2 := [.ref 5000, .int x, .int (nI j), .int (nI r), .int u, .ref 8000, xx_d]) O (xx_dt dd_X14_runAnew 4 rfl) (by decide) rfl ?_
  refine sw_iconst (x := 0) O (xx_dt dd_X14_runAnew 5 rfl) (by decide) ?_
  refine sw_istore (ls2 := [.ref 5000, .int x, .int (nI j), .int (nI r), .int u, .ref 8000, .int 0]) O (xx_dt dd_X14_runAnew 6 rfl) (by decide) rfl ?_
  refine xx_wid (k' := 0 + 8 * (K - 0)) (n' := rmN (K - 0) 0) (by omega) (by omega) ?_
  refine sw_forBV (S := XS9) (kf := fun i9 => 0 + 8 * (K - i9)) (nf := fun i9 => rmN (K - i9) i9) (fun i13 s13 => (if (s13 8000 9) = 0 then (if (nI i13) = (x - 1) then .inl (g_Kclose (u2 (u2 (uR (u2 (uR s13 (8000 + 500 + (2 * i13 + 1)) (s13 (6100 + i13))) 8000 23 (nI (2 * i13 + 1))) (8000 + 700 + (2 * i13 + 1)) ((u2 (uR s13 (8000 + 500 + (2 * i13 + 1)) (s13 (6100 + i13))) 8000 23 (nI (2 * i13 + 1))) (6300 + i13))) 8000 24 (nI (2 * i13 + 1))) (8000 + 500 + (2 * i13 + 1)) j (f_with ((uR s13 (8000 + 500 + (2 * i13 + 1)) (s13 (6100 + i13))) (8000 + 500 + (2 * i13 + 1)) j) r u)) (σ (5200 + i13) 0) 8000 R B (2 * i13 + 1) (2 * i13 + 1) i13) else .inl (g_Kclose (u2 (uR (u2 (uR s13 (8000 + 500 + (2 * i13 + 1)) (s13 (6100 + i13))) 8000 23 (nI (2 * i13 + 1))) (8000 + 700 + (2 * i13 + 1)) ((u2 (uR s13 (8000 + 500 + (2 * i13 + 1)) (s13 (6100 + i13))) 8000 23 (nI (2 * i13 + 1))) (6300 + i13))) 8000 24 (nI (2 * i13 + 1))) (σ (5200 + i13) 0) 8000 R B (2 * i13 + 1) (2 * i13 + 1) i13)) else .inr s13)) (fun I (s : XS9) => s 8000 20 = nI 1 ∧ s 8000 21 = nI I ∧ s 8000 22 = nI I ∧ s 8000 23 = nI (2 * I) ∧ s 8000 24 = nI (2 * I) ∧ (∀ q, (q < 8000 ∨ 9000 ≤ q) → s q = (g_Kinit σ 8000 R B) q) ∧ GA I s) (fun _ => True) (hp := fun s13 => setM z s13 h) (hd := 13) (lc := fun i13 s13 => [.ref 5000, .int x, .int (nI j), .int (nI r), .int u, .ref 8000, .int (nI i13)]) (ex := 139) (lx := fun s13 => [.ref 5000, .int x, .int (nI j), .int (nI r), .int u, .ref 8000, xx_d]) (N := K) (fun i13 s13 hi13 hP13 => ⟨⟨(by intro s' e'; have hg9 := hG i13 s13 s' hi13 hP13.2.2.2.2.2.2 e'; revert e'; (try dsimp only); (repeat' split) <;> intro e' <;> first | (cases e'; done) | (have e9 := Sum.inl.inj e'; subst e9; exact anew_step (by omega) (by simp (disch := omega) only [u2_ne, uR_ne, u2_nj]; exact hP13.1) (fun q hq => by simp (disch := omega) only [u2_ne, uR_ne]; exact hP13.2.2.2.2.2.1 q hq) hg9)), fun _ _ => trivial⟩, fun kk13 kb13 => ?_⟩) (fun s13 hP13 => ⟨trivial, fun kx13 => ?_⟩) K 0 (g_Kinit σ 8000 R B) (by omega) (⟨(Kinit_c (σ := σ) (R := R) (B := B)).1, (Kinit_c (σ := σ) (R := R) (B := B)).2.1, (Kinit_c (σ := σ) (R := R) (B := B)).2.2.1, (Kinit_c (σ := σ) (R := R) (B := B)).2.2.2.1, (Kinit_c (σ := σ) (R := R) (B := B)).2.2.2.2, fun _ _ => rfl, hG0⟩) (fun hP13 => ?_)
  · obtain ⟨kA, ekA⟩ : ∃ k, k = 0 + 8 * (K - (i13 + 1)) := ⟨_, rfl⟩
    obtain ⟨nA, enA⟩ : ∃ k, k = rmN (K - (i13 + 1)) (i13 + 1) := ⟨_, rfl⟩
    obtain ⟨kB, ekB⟩ : ∃ k, k = kA + 8 := ⟨_, rfl⟩
    obtain ⟨nB, enB⟩ : ∃ k, k = nA + 2 * (i13 + i13 / 2) + 55 := ⟨_, rfl⟩
    refine xx_wid (k' := kB) (n' := nB) (by show _ ≤ 0 + 8 * (K - i13); omega) (by show _ ≤ rmN (K - i13) i13; rw [rmN_s hi13]; omega) ?_
    refine sw_iload O (xx_dt dd_X14_runAnew 7 rfl) rfl ?_
    refine sw_aload_n O (xx_dt dd_X14_runAnew 8 rfl) rfl ?_
    refine sw_get (v := .ref 5003) O (xx_dt dd_X14_runAnew 9 rfl) cl_X14 fl_X14_30 (lm_mod (σ := s13)) (by decide) rfl ?_
    refine sw_callVL (ci := 6) (as := []) (st := [.int (nI i13)]) (st2 := [.int (nI K), .int (nI i13)]) O (ct_AL_size hl (lm_5003 (σ := s13) (K := K) (((congrFun (hP13.2.2.2.2.2.1 _ (by omega)) 900).trans (congrFun (fr_Kinit (by omega)) 900)).trans hK) (by omega))) ce_Jx4a65c_size_8abf5 ml_X14_57 iv_Jx4a65c_size_8abf5 cl_Jx4a65c rfl (lm_5003 (σ := s13) (K := K) (((congrFun (hP13.2.2.2.2.2.1 _ (by omega)) 900).trans (congrFun (fr_Kinit (by omega)) 900)).trans hK) (by omega)) (xx_dt dd_X14_runAnew 10 rfl) (by decide) rfl rfl (Nat.le_of_ble_eq_true rfl) rfl ?_
    refine sw_icmp_ge (tgt := 139) O (xx_dt dd_X14_runAnew 11 rfl) (by decide) (fun q1 => ?_) (fun q1 => ?_)
    · exact absurd q1 (nI_ge (b := K) hi13 (by omega))
    · refine sw_aload O (xx_dt dd_X14_runAnew 12 rfl) rfl ?_
      refine sw_get (v := .int (s13 8000 9)) O (xx_dt dd_X14_runAnew 13 rfl) cl_X11 fl_X14_196 (lm_clk (σ := s13) (b := 8000) (.inr rfl) (fl1 hP13.1) (g := 2 * i13) hP13.2.2.2.1 (by omega) (w := 2 * i13) hP13.2.2.2.2.1 (by omega)) (by decide) rfl ?_
      refine sw_if_ne (tgt := 139) O (xx_dt dd_X14_runAnew 14 rfl) (by decide) (fun q2 => ?_) (fun q2 => ?_)
      · refine sw_dum (ls2 := [.ref 5000, .int x, .int (nI j), .int (nI r), .int u, .ref 8000, xx_d]) ⟨.inr rfl, .inr rfl, .inr rfl, .inr rfl, .inr rfl, .inr rfl, .inl rfl, trivial⟩ ?_
        refine xx_wid (k' := 0) (n' := 0) (by omega) (by omega) ?_
        exact kb13 s13 (by simp only [if_neg q2])
      · refine sw_aload O (xx_dt dd_X14_runAnew 15 rfl) rfl ?_
        refine sw_aload_n O (xx_dt dd_X14_runAnew 16 rfl) rfl ?_
        refine sw_get (v := .ref 5003) O (xx_dt dd_X14_runAnew 17 rfl) cl_X14 fl_X14_30 (lm_mod (σ := s13)) (by decide) rfl ?_
        refine sw_iload O (xx_dt dd_X14_runAnew 18 rfl) rfl ?_
        refine sw_callVL (ci := 6) (as := [.int (nI i13)]) (st := [.ref 8000]) (st2 := [.ref (5200 + i13), .ref 8000]) O (ct_get hl hbs (lm_5003 (σ := s13) (K := K) (((congrFun (hP13.2.2.2.2.2.1 _ (by omega)) 900).trans (congrFun (fr_Kinit (by omega)) 900)).trans hK) (by omega)) (by omega) (i := i13) (x := 5200 + i13) (by omega) (by omega) rfl) ce_Jx4a65c_get_915e3 ml_X14_61 iv_Jx4a65c_get_915e3 cl_Jx4a65c rfl (lm_5003 (σ := s13) (K := K) (((congrFun (hP13.2.2.2.2.2.1 _ (by omega)) 900).trans (congrFun (fr_Kinit (by omega)) 900)).trans hK) (by omega)) (xx_dt dd_X14_runAnew 19 rfl) (by decide) rfl rfl (Nat.le_of_ble_eq_true rfl) rfl ?_
        refine sw_castO O (xx_dt dd_X14_runAnew 20 rfl) cl_X13 (lm_rnd (σ := s13) (K := K) (((congrFun (hP13.2.2.2.2.2.1 _ (by omega)) 900).trans (congrFun (fr_Kinit (by omega)) 900)).trans hK) (by omega) (j := i13) (by omega)) cw_X14_172 ?_
        refine sw_get (v := .ref (6100 + i13)) O (xx_dt dd_X14_runAnew 21 rfl) cl_X13 fl_X14_184 (lm_rnd (σ := s13) (K := K) (((congrFun (hP13.2.2.2.2.2.1 _ (by omega)) 900).trans (congrFun (fr_Kinit (by omega)) 900)).trans hK) (by omega) (j := i13) (by omega)) (by decide) (congrArg Value.ref (show 5200 + i13 + 700 + 100 * 2 = 6100 + i13 by omega)) ?_
        refine xx_wid (k' := kA + 7 + 1) (n' := nA + 2 * (i13 + i13 / 2) + 49 + 6) (by omega) (by omega) (sw_clone (k := kA + 7) (n := nA + 2 * (i13 + i13 / 2) + 49) (t := 100) (N := 6) (r2 := 8000 + 500 + (2 * i13 + 1)) O (.inl rfl) rfl (xx_dt dd_X14_runAnew 22 rfl) cn_X14_179 cx_I ((im_rwi (z := z) (σ := s13) (K := K) (((congrFun (hP13.2.2.2.2.2.1 _ (by omega)) 900).trans (congrFun (fr_Kinit (by omega)) 900)).trans hK) (by omega) (j := i13) (by omega)).get _) (fun _ _ _ => rfl) (no_wsh (z := z) (σ := s13) (b := 8000) (.inr rfl) hP13.1 (fun r9 a9 b9 => hfr r9 (by omega) (by omega)) (n := 2 * i13) hP13.2.2.2.1 (by omega)) (by omega) (Nat.le_of_ble_eq_true rfl) (Nat.le_of_ble_eq_true rfl) ?_)
        rw [xx_blk_up]
        obtain ⟨kB, ekB⟩ : ∃ k, k = kA + 7 := ⟨_, rfl⟩
        obtain ⟨nB, enB⟩ : ∃ k, k = nA + 2 * (i13 + i13 / 2) + 49 := ⟨_, rfl⟩
        refine xx_wid (k' := kB) (n' := nB) (by omega) (by omega) ?_
        refine sw_castA (t := 100) O (xx_dt dd_X14_runAnew 23 rfl) (.inl rfl) (xx_up_eq _ _ _) cw_X14_180 ?_
        refine sw_put (h2 := setM z (u2 (uR s13 (8000 + 500 + (2 * i13 + 1)) (s13 (6100 + i13))) 8000 23 (nI (2 * i13 + 1))) h) O (xx_dt dd_X14_runAnew 24 rfl) cl_X11 fl_X14_145 ((xx_up_ne (by omega)).trans (lm_clk (σ := s13) (b := 8000) (.inr rfl) (fl1 hP13.1) (g := 2 * i13) hP13.2.2.2.1 (by omega) (w := 2 * i13) hP13.2.2.2.2.1 (by omega))) (by decide) (by omega) rfl (fun _ => ⟨rfl, rfl⟩) (new_wsh (z := z) (σ := s13) (h := h) (b := 8000) (.inr rfl) hP13.1 (n := 2 * i13) hP13.2.2.2.1 (by omega) (w := 2 * i13) hP13.2.2.2.2.1 (by omega) (f := s13 (6100 + i13))) ?_
        refine sw_aload O (xx_dt dd_X14_runAnew 25 rfl) rfl ?_
        refine sw_aload_n O (xx_dt dd_X14_runAnew 26 rfl) rfl ?_
        refine sw_get (v := .ref 5003) O (xx_dt dd_X14_runAnew 27 rfl) cl_X14 fl_X14_30 (lm_mod (σ := u2 (uR s13 (8000 + 500 + (2 * i13 + 1)) (s13 (6100 + i13))) 8000 23 (nI (2 * i13 + 1)))) (by decide) rfl ?_
        refine sw_iload O (xx_dt dd_X14_runAnew 28 rfl) rfl ?_
        refine sw_callVL (ci := 6) (as := [.int (nI i13)]) (st := [.ref 8000]) (st2 := [.ref (5200 + i13), .ref 8000]) O (ct_get hl hbs (lm_5003 (σ := u2 (uR s13 (8000 + 500 + (2 * i13 + 1)) (s13 (6100 + i13))) 8000 23 (nI (2 * i13 + 1))) (K := K) (((((congrFun (u2_ne (by omega)) 900).trans (congrFun (uR_ne (by omega)) 900)).trans (congrFun (hP13.2.2.2.2.2.1 _ (by omega)) 900)).trans (congrFun (fr_Kinit (by omega)) 900)).trans hK) (by omega)) (by omega) (i := i13) (x := 5200 + i13) (by omega) (by omega) rfl) ce_Jx4a65c_get_915e3 ml_X14_61 iv_Jx4a65c_get_915e3 cl_Jx4a65c rfl (lm_5003 (σ := u2 (uR s13 (8000 + 500 + (2 * i13 + 1)) (s13 (6100 + i13))) 8000 23 (nI (2 * i13 + 1))) (K := K) (((((congrFun (u2_ne (by omega)) 900).trans (congrFun (uR_ne (by omega)) 900)).trans (congrFun (hP13.2.2.2.2.2.1 _ (by omega)) 900)).trans (congrFun (fr_Kinit (by omega)) 900)).trans hK) (by omega)) (xx_dt dd_X14_runAnew 29 rfl) (by decide) rfl rfl (Nat.le_of_ble_eq_true rfl) rfl ?_
        refine sw_castO O (xx_dt dd_X14_runAnew 30 rfl) cl_X13 (lm_rnd (σ := u2 (uR s13 (8000 + 500 + (2 * i13 + 1)) (s13 (6100 + i13))) 8000 23 (nI (2 * i13 + 1))) (K := K) (((((congrFun (u2_ne (by omega)) 900).trans (congrFun (uR_ne (by omega)) 900)).trans (congrFun (hP13.2.2.2.2.2.1 _ (by omega)) 900)).trans (congrFun (fr_Kinit (by omega)) 900)).trans hK) (by omega) (j := i13) (by omega)) cw_X14_172 ?_
        refine sw_get (v := .ref (6300 + i13)) O (xx_dt dd_X14_runAnew 31 rfl) cl_X13 fl_X14_187 (lm_rnd (σ := u2 (uR s13 (8000 + 500 + (2 * i13 + 1)) (s13 (6100 + i13))) 8000 23 (nI (2 * i13 + 1))) (K := K) (((((congrFun (u2_ne (by omega)) 900).trans (congrFun (uR_ne (by omega)) 900)).trans (congrFun (hP13.2.2.2.2.2.1 _ (by omega)) 900)).trans (congrFun (fr_Kinit (by omega)) 900)).trans hK) (by omega) (j := i13) (by omega)) (by decide) (congrArg Value.ref (show 5200 + i13 + 700 + 100 * 4 = 6300 + i13 by omega)) ?_
        refine xx_wid (k' := kA + 6 + 1) (n' := nA + 2 * (i13 + i13 / 2) + 43 + 6) (by omega) (by omega) (sw_clone (k := kA + 6) (n := nA + 2 * (i13 + i13 / 2) + 43) (t := 101) (N := 6) (r2 := 8000 + 700 + (2 * i13 + 1)) O (.inr (.inl rfl)) rfl (xx_dt dd_X14_runAnew 32 rfl) cn_X14_185 cx_Z (lm_rwa (σ := u2 (uR s13 (8000 + 500 + (2 * i13 + 1)) (s13 (6100 + i13))) 8000 23 (nI (2 * i13 + 1))) (K := K) (((((congrFun (u2_ne (by omega)) 900).trans (congrFun (uR_ne (by omega)) 900)).trans (congrFun (hP13.2.2.2.2.2.1 _ (by omega)) 900)).trans (congrFun (fr_Kinit (by omega)) 900)).trans hK) (by omega) (j := i13) (by omega)) (fun j9 hj9 ρ9 => by have e8 : (u2 (uR s13 (8000 + 500 + (2 * i13 + 1)) (s13 (6100 + i13))) 8000 23 (nI (2 * i13 + 1))) (6300 + i13) j9 = σ (6300 + i13) j9 := ((((congrFun (u2_ne (by omega)) j9).trans (congrFun (uR_ne (by omega)) j9)).trans (congrFun (hP13.2.2.2.2.2.1 _ (by omega)) j9)).trans (congrFun (fr_Kinit (by omega)) j9)); show fits _ (.int ((u2 (uR s13 (8000 + 500 + (2 * i13 + 1)) (s13 (6100 + i13))) 8000 23 (nI (2 * i13 + 1))) (6300 + i13) j9)) = true; rw [e8]; rcases hlw i13 j9 (by omega) hj9 with e9 | e9 <;> rw [e9] <;> rfl) (no_hwa (z := z) (σ := u2 (uR s13 (8000 + 500 + (2 * i13 + 1)) (s13 (6100 + i13))) 8000 23 (nI (2 * i13 + 1))) (b := 8000) (.inr rfl) (((u2_oi (by decide)).trans (congrFun (uR_ne (by omega)) 20)).trans hP13.1) (fun r9 a9 b9 => hfr r9 (by omega) (by omega)) (n := 2 * i13) (((u2_oi (by decide)).trans (congrFun (uR_ne (by omega)) 24)).trans hP13.2.2.2.2.1) (by omega)) (by omega) (Nat.le_of_ble_eq_true rfl) (Nat.le_of_ble_eq_true rfl) ?_)
        rw [xx_blk_up]
        obtain ⟨kB, ekB⟩ : ∃ k, k = kA + 6 := ⟨_, rfl⟩
        obtain ⟨nB, enB⟩ : ∃ k, k = nA + 2 * (i13 + i13 / 2) + 43 := ⟨_, rfl⟩
        refine xx_wid (k' := kB) (n' := nB) (by omega) (by omega) ?_
        refine sw_castA (t := 101) O (xx_dt dd_X14_runAnew 33 rfl) (.inr (.inl rfl)) (xx_up_eq _ _ _) cw_X14_186 ?_
        refine sw_put (h2 := setM z (u2 (uR (u2 (uR s13 (8000 + 500 + (2 * i13 + 1)) (s13 (6100 + i13))) 8000 23 (nI (2 * i13 + 1))) (8000 + 700 + (2 * i13 + 1)) ((u2 (uR s13 (8000 + 500 + (2 * i13 + 1)) (s13 (6100 + i13))) 8000 23 (nI (2 * i13 + 1))) (6300 + i13))) 8000 24 (nI (2 * i13 + 1))) h) O (xx_dt dd_X14_runAnew 34 rfl) cl_X11 fl_X14_165 ((xx_up_ne (by omega)).trans (lm_clk (σ := u2 (uR s13 (8000 + 500 + (2 * i13 + 1)) (s13 (6100 + i13))) 8000 23 (nI (2 * i13 + 1))) (b := 8000) (.inr rfl) (fl1 (((u2_oi (by decide)).trans (congrFun (uR_ne (by omega)) 20)).trans hP13.1)) (g := 2 * i13 + 1) rfl (by omega) (w := 2 * i13) (((u2_oi (by decide)).trans (congrFun (uR_ne (by omega)) 24)).trans hP13.2.2.2.2.1) (by omega))) (by decide) (by omega) rfl (fun _ => ⟨rfl, rfl⟩) (new_hwa (z := z) (σ := u2 (uR s13 (8000 + 500 + (2 * i13 + 1)) (s13 (6100 + i13))) 8000 23 (nI (2 * i13 + 1))) (h := h) (b := 8000) (.inr rfl) (((u2_oi (by decide)).trans (congrFun (uR_ne (by omega)) 20)).trans hP13.1) (n := 2 * i13) (((u2_oi (by decide)).trans (congrFun (uR_ne (by omega)) 24)).trans hP13.2.2.2.2.1) (by omega) (g0 := 2 * i13 + 1) rfl (by omega) (f := (u2 (uR s13 (8000 + 500 + (2 * i13 + 1)) (s13 (6100 + i13))) 8000 23 (nI (2 * i13 + 1))) (6300 + i13))) ?_
        refine sw_iload O (xx_dt dd_X14_runAnew 35 rfl) rfl ?_
        refine sw_iload_n O (xx_dt dd_X14_runAnew 36 rfl) rfl ?_
        refine sw_iconst (x := 1) O (xx_dt dd_X14_runAnew 37 rfl) (by decide) ?_
        refine sw_isub O (xx_dt dd_X14_runAnew 38 rfl) ?_
        refine sw_icmp_ne (tgt := 113) O (xx_dt dd_X14_runAnew 39 rfl) (by decide) (fun q3 => ?_) (fun q3 => ?_)
        · refine sw_aload O (xx_dt dd_X14_runAnew 51 rfl) rfl ?_
          refine sw_aload_n O (xx_dt dd_X14_runAnew 52 rfl) rfl ?_
          refine sw_get (v := .ref 5003) O (xx_dt dd_X14_runAnew 53 rfl) cl_X14 fl_X14_30 (lm_mod (σ := u2 (uR (u2 (uR s13 (8000 + 500 + (2 * i13 + 1)) (s13 (6100 + i13))) 8000 23 (nI (2 * i13 + 1))) (8000 + 700 + (2 * i13 + 1)) ((u2 (uR s13 (8000 + 500 + (2 * i13 + 1)) (s13 (6100 + i13))) 8000 23 (nI (2 * i13 + 1))) (6300 + i13))) 8000 24 (nI (2 * i13 + 1)))) (by decide) rfl ?_
          refine sw_iload O (xx_dt dd_X14_runAnew 54 rfl) rfl ?_
          refine sw_callVL (ci := 6) (as := [.int (nI i13)]) (st := [.ref 8000]) (st2 := [.ref (5200 + i13), .ref 8000]) O (ct_get hl hbs (lm_5003 (σ := u2 (uR (u2 (uR s13 (8000 + 500 + (2 * i13 + 1)) (s13 (6100 + i13))) 8000 23 (nI (2 * i13 + 1))) (8000 + 700 + (2 * i13 + 1)) ((u2 (uR s13 (8000 + 500 + (2 * i13 + 1)) (s13 (6100 + i13))) 8000 23 (nI (2 * i13 + 1))) (6300 + i13))) 8000 24 (nI (2 * i13 + 1))) (K := K) (((((((congrFun (u2_ne (by omega)) 900).trans (congrFun (uR_ne (by omega)) 900)).trans (congrFun (u2_ne (by omega)) 900)).trans (congrFun (uR_ne (by omega)) 900)).trans (congrFun (hP13.2.2.2.2.2.1 _ (by omega)) 900)).trans (congrFun (fr_Kinit (by omega)) 900)).trans hK) (by omega)) (by omega) (i := i13) (x := 5200 + i13) (by omega) (by omega) rfl) ce_Jx4a65c_get_915e3 ml_X14_61 iv_Jx4a65c_get_915e3 cl_Jx4a65c rfl (lm_5003 (σ := u2 (uR (u2 (uR s13 (8000 + 500 + (2 * i13 + 1)) (s13 (6100 + i13))) 8000 23 (nI (2 * i13 + 1))) (8000 + 700 + (2 * i13 + 1)) ((u2 (uR s13 (8000 + 500 + (2 * i13 + 1)) (s13 (6100 + i13))) 8000 23 (nI (2 * i13 + 1))) (6300 + i13))) 8000 24 (nI (2 * i13 + 1))) (K := K) (((((((congrFun (u2_ne (by omega)) 900).trans (congrFun (uR_ne (by omega)) 900)).trans (congrFun (u2_ne (by omega)) 900)).trans (congrFun (uR_ne (by omega)) 900)).trans (congrFun (hP13.2.2.2.2.2.1 _ (by omega)) 900)).trans (congrFun (fr_Kinit (by omega)) 900)).trans hK) (by omega)) (xx_dt dd_X14_runAnew 55 rfl) (by decide) rfl rfl (Nat.le_of_ble_eq_true rfl) rfl ?_
          refine sw_castO O (xx_dt dd_X14_runAnew 56 rfl) cl_X13 (lm_rnd (σ := u2 (uR (u2 (uR s13 (8000 + 500 + (2 * i13 + 1)) (s13 (6100 + i13))) 8000 23 (nI (2 * i13 + 1))) (8000 + 700 + (2 * i13 + 1)) ((u2 (uR s13 (8000 + 500 + (2 * i13 + 1)) (s13 (6100 + i13))) 8000 23 (nI (2 * i13 + 1))) (6300 + i13))) 8000 24 (nI (2 * i13 + 1))) (K := K) (((((((congrFun (u2_ne (by omega)) 900).trans (congrFun (uR_ne (by omega)) 900)).trans (congrFun (u2_ne (by omega)) 900)).trans (congrFun (uR_ne (by omega)) 900)).trans (congrFun (hP13.2.2.2.2.2.1 _ (by omega)) 900)).trans (congrFun (fr_Kinit (by omega)) 900)).trans hK) (by omega) (j := i13) (by omega)) cw_X14_172 ?_
          refine sw_get (v := .int (σ (5200 + i13) 0)) O (xx_dt dd_X14_runAnew 57 rfl) cl_X13 fl_X14_175 (lm_rnd (σ := u2 (uR (u2 (uR s13 (8000 + 500 + (2 * i13 + 1)) (s13 (6100 + i13))) 8000 23 (nI (2 * i13 + 1))) (8000 + 700 + (2 * i13 + 1)) ((u2 (uR s13 (8000 + 500 + (2 * i13 + 1)) (s13 (6100 + i13))) 8000 23 (nI (2 * i13 + 1))) (6300 + i13))) 8000 24 (nI (2 * i13 + 1))) (K := K) (((((((congrFun (u2_ne (by omega)) 900).trans (congrFun (uR_ne (by omega)) 900)).trans (congrFun (u2_ne (by omega)) 900)).trans (congrFun (uR_ne (by omega)) 900)).trans (congrFun (hP13.2.2.2.2.2.1 _ (by omega)) 900)).trans (congrFun (fr_Kinit (by omega)) 900)).trans hK) (by omega) (j := i13) (by omega)) (by decide) (congrArg Value.int ((((((congrFun (u2_ne (by omega)) 0).trans (congrFun (uR_ne (by omega)) 0)).trans (congrFun (u2_ne (by omega)) 0)).trans (congrFun (uR_ne (by omega)) 0)).trans (congrFun (hP13.2.2.2.2.2.1 _ (by omega)) 0)).trans (congrFun (fr_Kinit (by omega)) 0))) ?_
          refine xx_wid (k' := kA + 6) (n' := nA + (23 + 2 * (i13 + i13 / 2 + 10))) (by omega) (by omega) ?_
          refine sw_callVx (k' := 6) (n' := 23 + 2 * (i13 + i13 / 2 + 10)) (as := [.int (σ (5200 + i13) 0)]) (st := []) (st2 := []) O (ct_X11_close hl (z := z) (σ := u2 (uR (u2 (uR s13 (8000 + 500 + (2 * i13 + 1)) (s13 (6100 + i13))) 8000 23 (nI (2 * i13 + 1))) (8000 + 700 + (2 * i13 + 1)) ((u2 (uR s13 (8000 + 500 + (2 * i13 + 1)) (s13 (6100 + i13))) 8000 23 (nI (2 * i13 + 1))) (6300 + i13))) 8000 24 (nI (2 * i13 + 1))) hbs (b := 8000) (fun r9 a9 b9 => hfr r9 (by omega) (by omega)) (.inr rfl) (((((u2_oi (by decide)).trans (congrFun (uR_ne (by omega)) 20)).trans (u2_oi (by decide))).trans (congrFun (uR_ne (by omega)) 20)).trans hP13.1) (g := 2 * i13 + 1) (((u2_oi (by decide)).trans (congrFun (uR_ne (by omega)) 23)).trans rfl) (by omega) (w := 2 * i13 + 1) rfl (by omega) (R := R) (((((((congrFun (u2_ne (by omega)) 900).trans (congrFun (uR_ne (by omega)) 900)).trans (congrFun (u2_ne (by omega)) 900)).trans (congrFun (uR_ne (by omega)) 900)).trans (congrFun (hP13.2.2.2.2.2.1 _ (by omega)) 900)).trans (congrFun (fr_Kinit (by omega)) 900)).trans hR) (by omega) (B := B) (((((((congrFun (u2_ne (by omega)) 900).trans (congrFun (uR_ne (by omega)) 900)).trans (congrFun (u2_ne (by omega)) 900)).trans (congrFun (uR_ne (by omega)) 900)).trans (congrFun (hP13.2.2.2.2.2.1 _ (by omega)) 900)).trans (congrFun (fr_Kinit (by omega)) 900)).trans hB) (by omega) (n := i13) (((((u2_oi (by decide)).trans (congrFun (uR_ne (by omega)) 21)).trans (u2_oi (by decide))).trans (congrFun (uR_ne (by omega)) 21)).trans hP13.2.1) (by omega) (((((u2_oi (by decide)).trans (congrFun (uR_ne (by omega)) 22)).trans (u2_oi (by decide))).trans (congrFun (uR_ne (by omega)) 22)).trans hP13.2.2.1) (x := σ (5200 + i13) 0) (hA1 i13 s13 hi13 hP13.2.2.2.2.2.2)) ce_X11_close ml_X14_188 iv_X11_close cl_X11 rfl ((setM_of (by omega) (lq_clk (.inr rfl) (fl1 (((((u2_oi (by decide)).trans (congrFun (uR_ne (by omega)) 20)).trans (u2_oi (by decide))).trans (congrFun (uR_ne (by omega)) 20)).trans hP13.1)) (g := 2 * i13 + 1) (((u2_oi (by decide)).trans (congrFun (uR_ne (by omega)) 23)).trans rfl) (by omega) (w := 2 * i13 + 1) rfl (by omega) _))) (xx_dt dd_X14_runAnew 58 rfl) (by decide) rfl rfl (Nat.le_of_ble_eq_true rfl) rfl ?_
          refine sw_iinc (y := nI (i13 + 1)) (ls2 := [.ref 5000, .int x, .int (nI j), .int (nI r), .int u, .ref 8000, .int (nI (i13 + 1))]) O (xx_dt dd_X14_runAnew 59 rfl) rfl (nI_1 _) (by decide) rfl ?_
          refine sw_goto (tgt := 13) O (xx_dt dd_X14_runAnew 60 rfl) (by decide) ?_
          refine xx_wid (k' := 0 + 8 * (K - (i13 + 1))) (n' := rmN (K - (i13 + 1)) (i13 + 1)) (by omega) (by omega) ?_
          exact kk13 (g_Kclose (u2 (uR (u2 (uR s13 (8000 + 500 + (2 * i13 + 1)) (s13 (6100 + i13))) 8000 23 (nI (2 * i13 + 1))) (8000 + 700 + (2 * i13 + 1)) ((u2 (uR s13 (8000 + 500 + (2 * i13 + 1)) (s13 (6100 + i13))) 8000 23 (nI (2 * i13 + 1))) (6300 + i13))) 8000 24 (nI (2 * i13 + 1))) (σ (5200 + i13) 0) 8000 R B (2 * i13 + 1) (2 * i13 + 1) i13) (by simp only [if_pos q2, if_neg q3])
        · refine sw_aload O (xx_dt dd_X14_runAnew 40 rfl) rfl ?_
          refine sw_get (v := .ref (8000 + 500 + (2 * i13 + 1))) O (xx_dt dd_X14_runAnew 41 rfl) cl_X11 fl_X14_145 (lm_clk (σ := u2 (uR (u2 (uR s13 (8000 + 500 + (2 * i13 + 1)) (s13 (6100 + i13))) 8000 23 (nI (2 * i13 + 1))) (8000 + 700 + (2 * i13 + 1)) ((u2 (uR s13 (8000 + 500 + (2 * i13 + 1)) (s13 (6100 + i13))) 8000 23 (nI (2 * i13 + 1))) (6300 + i13))) 8000 24 (nI (2 * i13 + 1))) (b := 8000) (.inr rfl) (fl1 (((((u2_oi (by decide)).trans (congrFun (uR_ne (by omega)) 20)).trans (u2_oi (by decide))).trans (congrFun (uR_ne (by omega)) 20)).trans hP13.1)) (g := 2 * i13 + 1) (((u2_oi (by decide)).trans (congrFun (uR_ne (by omega)) 23)).trans rfl) (by omega) (w := 2 * i13 + 1) rfl (by omega)) (by decide) rfl ?_
          refine sw_iload_n O (xx_dt dd_X14_runAnew 42 rfl) rfl ?_
          refine sw_aload O (xx_dt dd_X14_runAnew 43 rfl) rfl ?_
          refine sw_get (v := .ref (8000 + 500 + (2 * i13 + 1))) O (xx_dt dd_X14_runAnew 44 rfl) cl_X11 fl_X14_145 (lm_clk (σ := u2 (uR (u2 (uR s13 (8000 + 500 + (2 * i13 + 1)) (s13 (6100 + i13))) 8000 23 (nI (2 * i13 + 1))) (8000 + 700 + (2 * i13 + 1)) ((u2 (uR s13 (8000 + 500 + (2 * i13 + 1)) (s13 (6100 + i13))) 8000 23 (nI (2 * i13 + 1))) (6300 + i13))) 8000 24 (nI (2 * i13 + 1))) (b := 8000) (.inr rfl) (fl1 (((((u2_oi (by decide)).trans (congrFun (uR_ne (by omega)) 20)).trans (u2_oi (by decide))).trans (congrFun (uR_ne (by omega)) 20)).trans hP13.1)) (g := 2 * i13 + 1) (((u2_oi (by decide)).trans (congrFun (uR_ne (by omega)) 23)).trans rfl) (by omega) (w := 2 * i13 + 1) rfl (by omega)) (by decide) rfl ?_
          refine sw_iload_n O (xx_dt dd_X14_runAnew 45 rfl) rfl ?_
          refine sw_iaload (v := .int ((uR s13 (8000 + 500 + (2 * i13 + 1)) (s13 (6100 + i13))) (8000 + 500 + (2 * i13 + 1)) j)) O (xx_dt dd_X14_runAnew 46 rfl) ((im_wsh (z := z) (σ := u2 (uR (u2 (uR s13 (8000 + 500 + (2 * i13 + 1)) (s13 (6100 + i13))) 8000 23 (nI (2 * i13 + 1))) (8000 + 700 + (2 * i13 + 1)) ((u2 (uR s13 (8000 + 500 + (2 * i13 + 1)) (s13 (6100 + i13))) 8000 23 (nI (2 * i13 + 1))) (6300 + i13))) 8000 24 (nI (2 * i13 + 1))) (b := 8000) (.inr rfl) (((((u2_oi (by decide)).trans (congrFun (uR_ne (by omega)) 20)).trans (u2_oi (by decide))).trans (congrFun (uR_ne (by omega)) 20)).trans hP13.1) (g := 2 * i13 + 1) (((u2_oi (by decide)).trans (congrFun (uR_ne (by omega)) 23)).trans rfl) (by omega) (j := (2 * i13 + 1)) (by omega)).get _) (pk_in j _ (by omega)) (by rw [nI_clamp (by omega)]; exact (congrArg Value.int (((congrFun (u2_ne (by omega)) j).trans (congrFun (uR_ne (by omega)) j)).trans (congrFun (u2_ne (by omega)) j)))) ?_
          refine sw_iload_n O (xx_dt dd_X14_runAnew 47 rfl) rfl ?_
          refine sw_iload O (xx_dt dd_X14_runAnew 48 rfl) rfl ?_
          refine sw_callSx (as := [.int ((uR s13 (8000 + 500 + (2 * i13 + 1)) (s13 (6100 + i13))) (8000 + 500 + (2 * i13 + 1)) j), .int (nI r), .int u]) (st := [.int (nI j), .ref (8000 + 500 + (2 * i13 + 1))]) (st2 := [.int (f_with ((uR s13 (8000 + 500 + (2 * i13 + 1)) (s13 (6100 + i13))) (8000 + 500 + (2 * i13 + 1)) j) r u), .int (nI j), .ref (8000 + 500 + (2 * i13 + 1))]) O (ct_X14_with hl (c := (uR s13 (8000 + 500 + (2 * i13 + 1)) (s13 (6100 + i13))) (8000 + 500 + (2 * i13 + 1)) j) (r := r) (m := u) (by omega)) ce_X14_with ml_X14_148 st_X14_with (xx_dt dd_X14_runAnew 49 rfl) (by decide) rfl rfl (Nat.le_of_ble_eq_true rfl) rfl ?_
          refine sw_iastore (h2 := setM z (u2 (u2 (uR (u2 (uR s13 (8000 + 500 + (2 * i13 + 1)) (s13 (6100 + i13))) 8000 23 (nI (2 * i13 + 1))) (8000 + 700 + (2 * i13 + 1)) ((u2 (uR s13 (8000 + 500 + (2 * i13 + 1)) (s13 (6100 + i13))) 8000 23 (nI (2 * i13 + 1))) (6300 + i13))) 8000 24 (nI (2 * i13 + 1))) (8000 + 500 + (2 * i13 + 1)) j (f_with ((uR s13 (8000 + 500 + (2 * i13 + 1)) (s13 (6100 + i13))) (8000 + 500 + (2 * i13 + 1)) j) r u)) h) O (xx_dt dd_X14_runAnew 50 rfl) ((im_wsh (z := z) (σ := u2 (uR (u2 (uR s13 (8000 + 500 + (2 * i13 + 1)) (s13 (6100 + i13))) 8000 23 (nI (2 * i13 + 1))) (8000 + 700 + (2 * i13 + 1)) ((u2 (uR s13 (8000 + 500 + (2 * i13 + 1)) (s13 (6100 + i13))) 8000 23 (nI (2 * i13 + 1))) (6300 + i13))) 8000 24 (nI (2 * i13 + 1))) (b := 8000) (.inr rfl) (((((u2_oi (by decide)).trans (congrFun (uR_ne (by omega)) 20)).trans (u2_oi (by decide))).trans (congrFun (uR_ne (by omega)) 20)).trans hP13.1) (g := 2 * i13 + 1) (((u2_oi (by decide)).trans (congrFun (uR_ne (by omega)) 23)).trans rfl) (by omega) (j := (2 * i13 + 1)) (by omega)).get _) (pk_in j _ (by omega)) (by omega) (by rw [nI_clamp (by omega)]; exact ((im_wsh (z := z) (σ := u2 (uR (u2 (uR s13 (8000 + 500 + (2 * i13 + 1)) (s13 (6100 + i13))) 8000 23 (nI (2 * i13 + 1))) (8000 + 700 + (2 * i13 + 1)) ((u2 (uR s13 (8000 + 500 + (2 * i13 + 1)) (s13 (6100 + i13))) 8000 23 (nI (2 * i13 + 1))) (6300 + i13))) 8000 24 (nI (2 * i13 + 1))) (b := 8000) (.inr rfl) (((((u2_oi (by decide)).trans (congrFun (uR_ne (by omega)) 20)).trans (u2_oi (by decide))).trans (congrFun (uR_ne (by omega)) 20)).trans hP13.1) (g := 2 * i13 + 1) (((u2_oi (by decide)).trans (congrFun (uR_ne (by omega)) 23)).trans rfl) (by omega) (j := (2 * i13 + 1)) (by omega)).put (by omega))) ?_
          refine sw_aload O (xx_dt dd_X14_runAnew 51 rfl) rfl ?_
          refine sw_aload_n O (xx_dt dd_X14_runAnew 52 rfl) rfl ?_
          refine sw_get (v := .ref 5003) O (xx_dt dd_X14_runAnew 53 rfl) cl_X14 fl_X14_30 (lm_mod (σ := u2 (u2 (uR (u2 (uR s13 (8000 + 500 + (2 * i13 + 1)) (s13 (6100 + i13))) 8000 23 (nI (2 * i13 + 1))) (8000 + 700 + (2 * i13 + 1)) ((u2 (uR s13 (8000 + 500 + (2 * i13 + 1)) (s13 (6100 + i13))) 8000 23 (nI (2 * i13 + 1))) (6300 + i13))) 8000 24 (nI (2 * i13 + 1))) (8000 + 500 + (2 * i13 + 1)) j (f_with ((uR s13 (8000 + 500 + (2 * i13 + 1)) (s13 (6100 + i13))) (8000 + 500 + (2 * i13 + 1)) j) r u))) (by decide) rfl ?_
          refine sw_iload O (xx_dt dd_X14_runAnew 54 rfl) rfl ?_
          refine sw_callVL (ci := 6) (as := [.int (nI i13)]) (st := [.ref 8000]) (st2 := [.ref (5200 + i13), .ref 8000]) O (ct_get hl hbs (lm_5003 (σ := u2 (u2 (uR (u2 (uR s13 (8000 + 500 + (2 * i13 + 1)) (s13 (6100 + i13))) 8000 23 (nI (2 * i13 + 1))) (8000 + 700 + (2 * i13 + 1)) ((u2 (uR s13 (8000 + 500 + (2 * i13 + 1)) (s13 (6100 + i13))) 8000 23 (nI (2 * i13 + 1))) (6300 + i13))) 8000 24 (nI (2 * i13 + 1))) (8000 + 500 + (2 * i13 + 1)) j (f_with ((uR s13 (8000 + 500 + (2 * i13 + 1)) (s13 (6100 + i13))) (8000 + 500 + (2 * i13 + 1)) j) r u)) (K := K) ((((((((congrFun (u2_ne (by omega)) 900).trans (congrFun (u2_ne (by omega)) 900)).trans (congrFun (uR_ne (by omega)) 900)).trans (congrFun (u2_ne (by omega)) 900)).trans (congrFun (uR_ne (by omega)) 900)).trans (congrFun (hP13.2.2.2.2.2.1 _ (by omega)) 900)).trans (congrFun (fr_Kinit (by omega)) 900)).trans hK) (by omega)) (by omega) (i := i13) (x := 5200 + i13) (by omega) (by omega) rfl) ce_Jx4a65c_get_915e3 ml_X14_61 iv_Jx4a65c_get_915e3 cl_Jx4a65c rfl (lm_5003 (σ := u2 (u2 (uR (u2 (uR s13 (8000 + 500 + (2 * i13 + 1)) (s13 (6100 + i13))) 8000 23 (nI (2 * i13 + 1))) (8000 + 700 + (2 * i13 + 1)) ((u2 (uR s13 (8000 + 500 + (2 * i13 + 1)) (s13 (6100 + i13))) 8000 23 (nI (2 * i13 + 1))) (6300 + i13))) 8000 24 (nI (2 * i13 + 1))) (8000 + 500 + (2 * i13 + 1)) j (f_with ((uR s13 (8000 + 500 + (2 * i13 + 1)) (s13 (6100 + i13))) (8000 + 500 + (2 * i13 + 1)) j) r u)) (K := K) ((((((((congrFun (u2_ne (by omega)) 900).trans (congrFun (u2_ne (by omega)) 900)).trans (congrFun (uR_ne (by omega)) 900)).trans (congrFun (u2_ne (by omega)) 900)).trans (congrFun (uR_ne (by omega)) 900)).trans (congrFun (hP13.2.2.2.2.2.1 _ (by omega)) 900)).trans (congrFun (fr_Kinit (by omega)) 900)).trans hK) (by omega)) (xx_dt dd_X14_runAnew 55 rfl) (by decide) rfl rfl (Nat.le_of_ble_eq_true rfl) rfl ?_
          refine sw_castO O (xx_dt dd_X14_runAnew 56 rfl) cl_X13 (lm_rnd (σ := u2 (u2 (uR (u2 (uR s13 (8000 + 500 + (2 * i13 + 1)) (s13 (6100 + i13))) 8000 23 (nI (2 * i13 + 1))) (8000 + 700 + (2 * i13 + 1)) ((u2 (uR s13 (8000 + 500 + (2 * i13 + 1)) (s13 (6100 + i13))) 8000 23 (nI (2 * i13 + 1))) (6300 + i13))) 8000 24 (nI (2 * i13 + 1))) (8000 + 500 + (2 * i13 + 1)) j (f_with ((uR s13 (8000 + 500 + (2 * i13 + 1)) (s13 (6100 + i13))) (8000 + 500 + (2 * i13 + 1)) j) r u)) (K := K) ((((((((congrFun (u2_ne (by omega)) 900).trans (congrFun (u2_ne (by omega)) 900)).trans (congrFun (uR_ne (by omega)) 900)).trans (congrFun (u2_ne (by omega)) 900)).trans (congrFun (uR_ne (by omega)) 900)).trans (congrFun (hP13.2.2.2.2.2.1 _ (by omega)) 900)).trans (congrFun (fr_Kinit (by omega)) 900)).trans hK) (by omega) (j := i13) (by omega)) cw_X14_172 ?_
          refine sw_get (v := .int (σ (5200 + i13) 0)) O (xx_dt dd_X14_runAnew 57 rfl) cl_X13 fl_X14_175 (lm_rnd (σ := u2 (u2 (uR (u2 (uR s13 (8000 + 500 + (2 * i13 + 1)) (s13 (6100 + i13))) 8000 23 (nI (2 * i13 + 1))) (8000 + 700 + (2 * i13 + 1)) ((u2 (uR s13 (8000 + 500 + (2 * i13 + 1)) (s13 (6100 + i13))) 8000 23 (nI (2 * i13 + 1))) (6300 + i13))) 8000 24 (nI (2 * i13 + 1))) (8000 + 500 + (2 * i13 + 1)) j (f_with ((uR s13 (8000 + 500 + (2 * i13 + 1)) (s13 (6100 + i13))) (8000 + 500 + (2 * i13 + 1)) j) r u)) (K := K) ((((((((congrFun (u2_ne (by omega)) 900).trans (congrFun (u2_ne (by omega)) 900)).trans (congrFun (uR_ne (by omega)) 900)).trans (congrFun (u2_ne (by omega)) 900)).trans (congrFun (uR_ne (by omega)) 900)).trans (congrFun (hP13.2.2.2.2.2.1 _ (by omega)) 900)).trans (congrFun (fr_Kinit (by omega)) 900)).trans hK) (by omega) (j := i13) (by omega)) (by decide) (congrArg Value.int (((((((congrFun (u2_ne (by omega)) 0).trans (congrFun (u2_ne (by omega)) 0)).trans (congrFun (uR_ne (by omega)) 0)).trans (congrFun (u2_ne (by omega)) 0)).trans (congrFun (uR_ne (by omega)) 0)).trans (congrFun (hP13.2.2.2.2.2.1 _ (by omega)) 0)).trans (congrFun (fr_Kinit (by omega)) 0))) ?_
          refine xx_wid (k' := kA + 6) (n' := nA + (23 + 2 * (i13 + i13 / 2 + 10))) (by omega) (by omega) ?_
          refine sw_callVx (k' := 6) (n' := 23 + 2 * (i13 + i13 / 2 + 10)) (as := [.int (σ (5200 + i13) 0)]) (st := []) (st2 := []) O (ct_X11_close hl (z := z) (σ := u2 (u2 (uR (u2 (uR s13 (8000 + 500 + (2 * i13 + 1)) (s13 (6100 + i13))) 8000 23 (nI (2 * i13 + 1))) (8000 + 700 + (2 * i13 + 1)) ((u2 (uR s13 (8000 + 500 + (2 * i13 + 1)) (s13 (6100 + i13))) 8000 23 (nI (2 * i13 + 1))) (6300 + i13))) 8000 24 (nI (2 * i13 + 1))) (8000 + 500 + (2 * i13 + 1)) j (f_with ((uR s13 (8000 + 500 + (2 * i13 + 1)) (s13 (6100 + i13))) (8000 + 500 + (2 * i13 + 1)) j) r u)) hbs (b := 8000) (fun r9 a9 b9 => hfr r9 (by omega) (by omega)) (.inr rfl) ((((((congrFun (u2_ne (by omega)) 20).trans (u2_oi (by decide))).trans (congrFun (uR_ne (by omega)) 20)).trans (u2_oi (by decide))).trans (congrFun (uR_ne (by omega)) 20)).trans hP13.1) (g := 2 * i13 + 1) ((((congrFun (u2_ne (by omega)) 23).trans (u2_oi (by decide))).trans (congrFun (uR_ne (by omega)) 23)).trans rfl) (by omega) (w := 2 * i13 + 1) ((congrFun (u2_ne (by omega)) 24).trans rfl) (by omega) (R := R) ((((((((congrFun (u2_ne (by omega)) 900).trans (congrFun (u2_ne (by omega)) 900)).trans (congrFun (uR_ne (by omega)) 900)).trans (congrFun (u2_ne (by omega)) 900)).trans (congrFun (uR_ne (by omega)) 900)).trans (congrFun (hP13.2.2.2.2.2.1 _ (by omega)) 900)).trans (congrFun (fr_Kinit (by omega)) 900)).trans hR) (by omega) (B := B) ((((((((congrFun (u2_ne (by omega)) 900).trans (congrFun (u2_ne (by omega)) 900)).trans (congrFun (uR_ne (by omega)) 900)).trans (congrFun (u2_ne (by omega)) 900)).trans (congrFun (uR_ne (by omega)) 900)).trans (congrFun (hP13.2.2.2.2.2.1 _ (by omega)) 900)).trans (congrFun (fr_Kinit (by omega)) 900)).trans hB) (by omega) (n := i13) ((((((congrFun (u2_ne (by omega)) 21).trans (u2_oi (by decide))).trans (congrFun (uR_ne (by omega)) 21)).trans (u2_oi (by decide))).trans (congrFun (uR_ne (by omega)) 21)).trans hP13.2.1) (by omega) ((((((congrFun (u2_ne (by omega)) 22).trans (u2_oi (by decide))).trans (congrFun (uR_ne (by omega)) 22)).trans (u2_oi (by decide))).trans (congrFun (uR_ne (by omega)) 22)).trans hP13.2.2.1) (x := σ (5200 + i13) 0) (hA2 i13 s13 hi13 hP13.2.2.2.2.2.2)) ce_X11_close ml_X14_188 iv_X11_close cl_X11 rfl ((setM_of (by omega) (lq_clk (.inr rfl) (fl1 ((((((congrFun (u2_ne (by omega)) 20).trans (u2_oi (by decide))).trans (congrFun (uR_ne (by omega)) 20)).trans (u2_oi (by decide))).trans (congrFun (uR_ne (by omega)) 20)).trans hP13.1)) (g := 2 * i13 + 1) ((((congrFun (u2_ne (by omega)) 23).trans (u2_oi (by decide))).trans (congrFun (uR_ne (by omega)) 23)).trans rfl) (by omega) (w := 2 * i13 + 1) ((congrFun (u2_ne (by omega)) 24).trans rfl) (by omega) _))) (xx_dt dd_X14_runAnew 58 rfl) (by decide) rfl rfl (Nat.le_of_ble_eq_true rfl) rfl ?_
          refine sw_iinc (y := nI (i13 + 1)) (ls2 := [.ref 5000, .int x, .int (nI j), .int (nI r), .int u, .ref 8000, .int (nI (i13 + 1))]) O (xx_dt dd_X14_runAnew 59 rfl) rfl (nI_1 _) (by decide) rfl ?_
          refine sw_goto (tgt := 13) O (xx_dt dd_X14_runAnew 60 rfl) (by decide) ?_
          refine xx_wid (k' := 0 + 8 * (K - (i13 + 1))) (n' := rmN (K - (i13 + 1)) (i13 + 1)) (by omega) (by omega) ?_
          exact kk13 (g_Kclose (u2 (u2 (uR (u2 (uR s13 (8000 + 500 + (2 * i13 + 1)) (s13 (6100 + i13))) 8000 23 (nI (2 * i13 + 1))) (8000 + 700 + (2 * i13 + 1)) ((u2 (uR s13 (8000 + 500 + (2 * i13 + 1)) (s13 (6100 + i13))) 8000 23 (nI (2 * i13 + 1))) (6300 + i13))) 8000 24 (nI (2 * i13 + 1))) (8000 + 500 + (2 * i13 + 1)) j (f_with ((uR s13 (8000 + 500 + (2 * i13 + 1)) (s13 (6100 + i13))) (8000 + 500 + (2 * i13 + 1)) j) r u)) (σ (5200 + i13) 0) 8000 R B (2 * i13 + 1) (2 * i13 + 1) i13) (by simp only [if_pos q2, if_pos q3])
  · show SW Y _ _ (setM z s13 h) 13 [.ref 5000, .int x, .int (nI j), .int (nI r), .int u, .ref 8000, .int (nI K)] []
    refine xx_wid (k' := 0) (n' := 0) (by show _ ≤ 0 + 8 * (K - K); omega) (by show _ ≤ rmN (K - K) K; omega) ?_
    have hZ13 := hP13
    refine sw_iload O (xx_dt dd_X14_runAnew 7 rfl) rfl ?_
    refine sw_aload_n O (xx_dt dd_X14_runAnew 8 rfl) rfl ?_
    refine sw_get (v := .ref 5003) O (xx_dt dd_X14_runAnew 9 rfl) cl_X14 fl_X14_30 (lm_mod (σ := s13)) (by decide) rfl ?_
    refine sw_callVL (ci := 6) (as := []) (st := [.int (nI K)]) (st2 := [.int (nI K), .int (nI K)]) O (ct_AL_size hl (lm_5003 (σ := s13) (K := K) (((congrFun (hP13.2.2.2.2.2.1 _ (by omega)) 900).trans (congrFun (fr_Kinit (by omega)) 900)).trans hK) (by omega))) ce_Jx4a65c_size_8abf5 ml_X14_57 iv_Jx4a65c_size_8abf5 cl_Jx4a65c rfl (lm_5003 (σ := s13) (K := K) (((congrFun (hP13.2.2.2.2.2.1 _ (by omega)) 900).trans (congrFun (fr_Kinit (by omega)) 900)).trans hK) (by omega)) (xx_dt dd_X14_runAnew 10 rfl) (by decide) rfl rfl (Nat.le_of_ble_eq_true rfl) rfl ?_
    refine sw_icmp_ge (tgt := 139) O (xx_dt dd_X14_runAnew 11 rfl) (by decide) (fun q1 => ?_) (fun q1 => ?_)
    · refine sw_dum (ls2 := [.ref 5000, .int x, .int (nI j), .int (nI r), .int u, .ref 8000, xx_d]) ⟨.inr rfl, .inr rfl, .inr rfl, .inr rfl, .inr rfl, .inr rfl, .inl rfl, trivial⟩ ?_
      refine xx_wid (k' := 0) (n' := 0) (by omega) (by omega) ?_
      exact kx13
    · exact absurd (Int32.le_refl _) q1
  · show SW Y _ _ (setM z (x_MrunAnew_13 σ x j r u R B K (g_Kinit σ 8000 R B)) h) 139 [.ref 5000, .int x, .int (nI j), .int (nI r), .int u, .ref 8000, xx_d] []
    refine sw_aload O (xx_dt dd_X14_runAnew 61 rfl) rfl ?_
    exact sw_aret O (xx_dt dd_X14_runAnew 62 rfl) rfl (.inl ⟨_, rfl⟩) (by rw [hQ]; exact ⟨rfl, by unfold g_MrunAnew; rfl⟩)
end
section
/-! ===== the reference: anew ===== -/
theorem xitB_at {S : Type} {step : Nat → S → S ⊕ S} (P : Nat → S → Prop) {N : Nat} (h : ∀ i s, i < N → P i s → (∀ s', step i s = .inl s' → P (i + 1) s') ∧ ∀ s', step i s = .inr s' → P i s') : ∀ (f i : Nat) (s : S), i + f = N → P i s → ∃ m, m ≤ N ∧ P m (xitB step f i s)
  | 0, i, s, e, hP => ⟨i, by omega, hP⟩
  | f + 1, i, s, e, hP => by
    unfold xitB
    split
    · rename_i s' e'
      exact xitB_at P h f (i + 1) s' (by omega) ((h i s (by omega) hP).1 s' e')
    · rename_i s' e'
      exact ⟨i, by omega, (h i s (by omega) hP).2 s' e'⟩
theorem drop8 {z : Int64} {τ : XS9} {h : XH} (hfr : ∀ r, 5000 ≤ r → r < 20010 → h r = none) : xx_sub (setM z (u2 τ 8000 20 0) h) (setM z τ h) := by
  intro r c hc
  by_cases e1 : 5000 ≤ r ∧ r < 20010
  · have hn := hfr r e1.1 e1.2
    unfold setM at hc ⊢
    rw [if_pos e1] at hc ⊢
    by_cases h9 : r < 8000 ∨ 9000 ≤ r
    · rw [u2_ne (by omega), lyQ_8 (C := ctl (u2 τ 8000 20 0)) (C' := ctl τ) (fun q i hq => by unfold ctl; rw [u2_ne hq]) h9] at hc
      exact hc
    · have f1 : lyQ z (ctl (u2 τ 8000 20 0)) r (u2 τ 8000 20 0 r) = none := by
        have e9 : ctl (u2 τ 8000 20 0) 8000 20 = 0 := rfl
        unfold lyQ
        rw [if_neg (by omega), if_neg (by omega), if_neg (by omega), if_neg (by omega), if_neg (by omega), if_neg (by omega), if_neg (by omega), if_neg (by omega), if_neg (by omega), if_neg (by omega), if_neg (by omega), if_neg (by omega), if_neg (by omega), if_pos (show r < 9000 by omega), if_pos e9]
      rw [f1, hn] at hc
      cases hc
  · rw [setM_out e1] at hc ⊢
    exact hc
theorem mem_eq.frame8 {σ τ0 τ' : XS9} (h : mem_eq σ τ0) (hf : ∀ q, (q < 8000 ∨ 9000 ≤ q) → τ' q = τ0 q) (h8 : τ' 8000 20 = 0) : mem_eq σ τ' := by
  refine ⟨fun q i h1 h2 h3 => ?_, ⟨⟨by rw [hf 9000 (by omega)]; exact h.2.1.1.1, h.2.1.1.2⟩, h8, h.2.1.2.2⟩, fun q h1 h2 => by rw [hf q (by omega)]; exact h.2.2 q h1 h2⟩
  rw [← h.1 q i h1 h2 h3]
  unfold ctl
  by_cases e : q < 8000 ∨ 9000 ≤ q
  · rw [hf q e]
  · rw [show isCtl q i = false from notCtl (by omega) i]
    rfl
def AH (GA : Nat → XS9 → Prop) (σ : XS9) (x : Int32) (j r : Nat) (u : Int32) (R B K : Nat) : Prop := (∀ i j, i < K → j < 6 → σ (6300 + i) j = 0 ∨ σ (6300 + i) j = 1) ∧ GA 0 (g_Kinit σ 8000 R B) ∧ (∀ (i : Nat) (s s9 : XS9), i < K → GA i s → st_anew σ x j r u R B K i s = .inl s9 → GA (i + 1) s9) ∧ (∀ (i13 : Nat) (s13 : XS9), i13 < K → GA i13 s13 → ∀ i9 r9, i9 < B → r9 < R → 0 ≤ (f_of (x_Kclose_2 (u2 (uR (u2 (uR s13 (8000 + 500 + (2 * i13 + 1)) (s13 (6100 + i13))) 8000 23 (nI (2 * i13 + 1))) (8000 + 700 + (2 * i13 + 1)) ((u2 (uR s13 (8000 + 500 + (2 * i13 + 1)) (s13 (6100 + i13))) 8000 23 (nI (2 * i13 + 1))) (6300 + i13))) 8000 24 (nI (2 * i13 + 1))) 8000 R B (2 * i13 + 1) (2 * i13 + 1) i13 (u2 (uR (u2 (uR s13 (8000 + 500 + (2 * i13 + 1)) (s13 (6100 + i13))) 8000 23 (nI (2 * i13 + 1))) (8000 + 700 + (2 * i13 + 1)) ((u2 (uR s13 (8000 + 500 + (2 * i13 + 1)) (s13 (6100 + i13))) 8000 23 (nI (2 * i13 + 1))) (6300 + i13))) 8000 24 (nI (2 * i13 + 1))) (8000 + 500 + (2 * i13 + 1)) i9) r9).toInt) ∧ (∀ (i13 : Nat) (s13 : XS9), i13 < K → GA i13 s13 → ∀ i9 r9, i9 < B → r9 < R → 0 ≤ (f_of (x_Kclose_2 (u2 (u2 (uR (u2 (uR s13 (8000 + 500 + (2 * i13 + 1)) (s13 (6100 + i13))) 8000 23 (nI (2 * i13 + 1))) (8000 + 700 + (2 * i13 + 1)) ((u2 (uR s13 (8000 + 500 + (2 * i13 + 1)) (s13 (6100 + i13))) 8000 23 (nI (2 * i13 + 1))) (6300 + i13))) 8000 24 (nI (2 * i13 + 1))) (8000 + 500 + (2 * i13 + 1)) j (f_with ((uR s13 (8000 + 500 + (2 * i13 + 1)) (s13 (6100 + i13))) (8000 + 500 + (2 * i13 + 1)) j) r u)) 8000 R B (2 * i13 + 1) (2 * i13 + 1) i13 (u2 (u2 (uR (u2 (uR s13 (8000 + 500 + (2 * i13 + 1)) (s13 (6100 + i13))) 8000 23 (nI (2 * i13 + 1))) (8000 + 700 + (2 * i13 + 1)) ((u2 (uR s13 (8000 + 500 + (2 * i13 + 1)) (s13 (6100 + i13))) 8000 23 (nI (2 * i13 + 1))) (6300 + i13))) 8000 24 (nI (2 * i13 + 1))) (8000 + 500 + (2 * i13 + 1)) j (f_with ((uR s13 (8000 + 500 + (2 * i13 + 1)) (s13 (6100 + i13))) (8000 + 500 + (2 * i13 + 1)) j) r u)) (8000 + 500 + (2 * i13 + 1)) i9) r9).toInt)
theorem ct_anewH {l : Launch} {h : XH} (hl : l.stackTraces = false) {z : Int64} {σ : XS9} {x u : Int32} {j r R B K : Nat} {GA : Nat → XS9 → Prop} (hbs : xx_bs h) (hfr : ∀ r, 5000 ≤ r → r < 20010 → h r = none) (hR : σ 5001 900 = nI R) (hR5 : R ≤ 5) (hB : σ 5002 900 = nI B) (hB6 : B ≤ 6) (hK : σ 5003 900 = nI K) (hK60 : K ≤ 60) (hk8 : σ 8000 20 = 0) (hj : j < 6) (hr : r < 6) (ha : AH GA σ x j r u R B K) : XEx l m_X14_runAnew 10 490 8638 [.ref 5000, .int x, .int (nI j), .int (nI r), .int u] (setM z σ h) (some (.ref 8000)) (setM z (g_MrunAnew σ x j r u R B K) h) := ct_X14_runAnew hl hbs hfr hR hR5 hB hB6 hK hK60 hk8 hj hr ha.1 ha.2.1 ha.2.2.1 ha.2.2.2.1 ha.2.2.2.2
def PA9 (S0 : XS9) (I : Nat) (s : XS9) : Prop := s 8000 20 = nI 1 ∧ s 8000 21 = nI I ∧ s 8000 22 = nI I ∧ s 8000 23 = nI (2 * I) ∧ s 8000 24 = nI (2 * I) ∧ ∀ q, (q < 8000 ∨ 9000 ≤ q) → s q = S0 q
theorem fr_Kinit8 {σ : XS9} {R B q : Nat} (h : q < 8000 ∨ 9000 ≤ q) : g_Kinit σ 8000 R B q = σ q := fr_Kinit (by omega)
theorem anew_out {σ : XS9} {x u : Int32} {j r R B K : Nat} {GA : Nat → XS9 → Prop} (hK60 : K ≤ 60) (ha : AH GA σ x j r u R B K) : ∃ m, m ≤ K ∧ PA9 σ m (g_MrunAnew σ x j r u R B K) := by
  obtain ⟨a1, hG0, hG, a2, a3⟩ := ha
  have t := xitB_at (step := st_anew σ x j r u R B K) (fun I s => s 8000 20 = nI 1 ∧ s 8000 21 = nI I ∧ s 8000 22 = nI I ∧ s 8000 23 = nI (2 * I) ∧ s 8000 24 = nI (2 * I) ∧ (∀ q, (q < 8000 ∨ 9000 ≤ q) → s q = (g_Kinit σ 8000 R B) q) ∧ GA I s) (N := K) (fun i13 s13 hi13 hP13 => ⟨fun s' e' => by
    have hg9 := hG i13 s13 s' hi13 hP13.2.2.2.2.2.2 e'
    revert e'
    unfold st_anew
    (try dsimp only)
    (repeat' split) <;> intro e' <;> first | (cases e'; done) | (have e9 := Sum.inl.inj e'; subst e9; exact anew_step (by omega) (by simp (disch := omega) only [u2_ne, uR_ne, u2_nj]; exact hP13.1) (fun q hq => by simp (disch := omega) only [u2_ne, uR_ne]; exact hP13.2.2.2.2.2.1 q hq) hg9), fun s' e' => by
    revert e'
    unfold st_anew
    (try dsimp only)
    (repeat' split) <;> intro e' <;> first | (cases e'; done) | (have e9 := Sum.inr.inj e'; subst e9; exact hP13)⟩) K 0 (g_Kinit σ 8000 R B) (by omega) ⟨(Kinit_c (σ := σ) (R := R) (B := B)).1, (Kinit_c (σ := σ) (R := R) (B := B)).2.1, (Kinit_c (σ := σ) (R := R) (B := B)).2.2.1, (Kinit_c (σ := σ) (R := R) (B := B)).2.2.2.1, (Kinit_c (σ := σ) (R := R) (B := B)).2.2.2.2, fun _ _ => rfl, hG0⟩
  obtain ⟨m, hm, b1, b2, b3, b4, b5, b6, b7⟩ := t
  exact ⟨m, hm, b1, b2, b3, b4, b5, fun q hq => (b6 q hq).trans (fr_Kinit8 hq)⟩
theorem fr_MrunAnew {σ : XS9} {x u : Int32} {j r R B K : Nat} {m9 q : Nat} (hc : PA9 σ m9 (g_MrunAnew σ x j r u R B K)) (h : q < 8000 ∨ 9000 ≤ q) : g_MrunAnew σ x j r u R B K q = σ q := hc.2.2.2.2.2 q h
def x_Manew_76 (σ : XS9) (x y v u : Int32) (R B K : Nat) (s0 : Int32) : Int32 := xit (fun i76 s76 => s76 + ((g_MrunAnew (u2 σ 5000 0 0) (nI (rn x + 1)) (cn y) (cn v) u R B K) (8000 + 1) i76)) R 0 s0
def f_Manew (σ : XS9) (x y v u : Int32) (R B K : Nat) : Int32 := (if n_rd x K then (if n_lt y B then (if n_lt v R then (if n_bt u 0 5 then (x_Manew_76 σ x y v u R B K 0) else 0) else 0) else 0) else 0)
def g_Manew (σ : XS9) (x y v u : Int32) (R B K : Nat) : XS9 := (if n_rd x K then (if n_lt y B then (if n_lt v R then (if n_bt u 0 5 then u2 (g_MrunAnew (u2 σ 5000 0 0) (nI (rn x + 1)) (cn y) (cn v) u R B K) 8000 20 0 else u2 (u2 σ 5000 0 0) 5000 0 2) else u2 (u2 σ 5000 0 0) 5000 0 1) else u2 (u2 σ 5000 0 0) 5000 0 1) else u2 (u2 σ 5000 0 0) 5000 0 1)
theorem ct_X14_anew {l : Launch} {h : XH} (hl : l.stackTraces = false) {z : Int64} {σ : XS9} (hbs : xx_bs h) (hfr : ∀ r, 5000 ≤ r → r < 20010 → h r = none) (hme : mem_eq σ σ) {R : Nat} (hR : σ 5001 900 = nI R) (hR5 : R ≤ 5) {B : Nat} (hB : σ 5002 900 = nI B) (hB6 : B ≤ 6) {K : Nat} (hK : σ 5003 900 = nI K) (hK60 : K ≤ 60) {x y v u : Int32} {GA : Nat → XS9 → Prop} (ha9 : n_rd x K → n_lt y B → n_lt v R → n_bt u 0 5 → AH GA (u2 σ 5000 0 0) (nI (rn x + 1)) (cn y) (cn v) u R B K)  : XEx l m_X14_anew 11 490 8638 [.ref 5000, .int x, .int y, .int v, .int u] (setM z σ h) (some (.int (f_Manew σ x y v u R B K))) (setM z (g_Manew σ x y v u R B K) h) := by
  refine XMet.of hl rfl rfl (Nat.le_of_ble_eq_true rfl) (fun Y O hh hQ => ?_)
  refine sw_cls (fun hcl => ?_)
  show SW Y 490 8638 (setM z σ h) 0 [.ref 5000, .int x, .int y, .int v, .int u, xx_d, xx_d, xx_d, xx_d, xx_d] []
  refine sw_aload_n O (xx_dt dd_X14_anew 0 rfl) rfl ?_
  refine sw_iconst (x := 0) O (xx_dt dd_X14_anew 1 rfl) (by decide) ?_
  refine sw_put (h2 := setM z (u2 σ 5000 0 0) h) O (xx_dt dd_X14_anew 2 rfl) cl_X14 fl_X14_46 (lm_mod (σ := σ)) (by decide) (by omega) rfl (fun _ => ⟨rfl, rfl⟩) (pm_mod (σ := σ) (by omega)) ?_
  refine sw_aload_n O (xx_dt dd_X14_anew 3 rfl) rfl ?_
  refine sw_iload_n O (xx_dt dd_X14_anew 4 rfl) rfl ?_
  refine sw_callVx (as := [.int x]) (st := []) (st2 := [.int (bZ (n_rd x K))]) O (ct_X14_isRound hl (z := z) (σ := u2 σ 5000 0 0) hbs (K := K) hK (by omega) (x := x)) ce_X14_isRound ml_X14_314 iv_X14_isRound cl_X14 rfl (lm_mod (σ := u2 σ 5000 0 0)) (xx_dt dd_X14_anew 5 rfl) (by decide) rfl rfl (Nat.le_of_ble_eq_true rfl) rfl ?_
  refine sw_if_eqB (tgt := 29) O (xx_dt dd_X14_anew 6 rfl) (by decide) (fun q1 => ?_) (fun q1 => ?_)
  · refine sw_aload_n O (xx_dt dd_X14_anew 15 rfl) rfl ?_
    refine sw_iconst (x := 1) O (xx_dt dd_X14_anew 16 rfl) (by decide) ?_
    refine sw_callVx (as := [.int 1]) (st := []) (st2 := [.int 0]) O (ct_X14_refuse hl (z := z) (σ := u2 σ 5000 0 0) hbs (x := 1)) ce_X14_refuse ml_X14_74 iv_X14_refuse cl_X14 rfl (lm_mod (σ := u2 σ 5000 0 0)) (xx_dt dd_X14_anew 17 rfl) (by decide) rfl rfl (Nat.le_of_ble_eq_true rfl) rfl ?_
    exact sw_iret O (xx_dt dd_X14_anew 18 rfl) rfl rfl (by rw [hQ]; exact ⟨by unfold f_Manew; simp only [if_neg q1], by unfold g_Manew; simp only [if_neg q1]⟩)
  · have hc10 := q1
    refine sw_lsE (ls2 := [.ref 5000, .int (nI (rn x + 1)), .int y, .int v, .int u, xx_d, xx_d, xx_d, xx_d, xx_d]) (by rw [← hc10.1]) ?_
    have hd10 := hc10.2
    refine sw_aload_n O (xx_dt dd_X14_anew 7 rfl) rfl ?_
    refine sw_iload_n O (xx_dt dd_X14_anew 8 rfl) rfl ?_
    refine sw_callVx (as := [.int y]) (st := []) (st2 := [.int (bZ (n_lt y B))]) O (ct_X14_isBidder hl (z := z) (σ := u2 σ 5000 0 0) hbs (B := B) hB (by omega) (x := y)) ce_X14_isBidder ml_X14_156 iv_X14_isBidder cl_X14 rfl (lm_mod (σ := u2 σ 5000 0 0)) (xx_dt dd_X14_anew 9 rfl) (by decide) rfl rfl (Nat.le_of_ble_eq_true rfl) rfl ?_
    refine sw_if_eqB (tgt := 29) O (xx_dt dd_X14_anew 10 rfl) (by decide) (fun q2 => ?_) (fun q2 => ?_)
    · refine sw_aload_n O (xx_dt dd_X14_anew 15 rfl) rfl ?_
      refine sw_iconst (x := 1) O (xx_dt dd_X14_anew 16 rfl) (by decide) ?_
      refine sw_callVx (as := [.int 1]) (st := []) (st2 := [.int 0]) O (ct_X14_refuse hl (z := z) (σ := u2 σ 5000 0 0) hbs (x := 1)) ce_X14_refuse ml_X14_74 iv_X14_refuse cl_X14 rfl (lm_mod (σ := u2 σ 5000 0 0)) (xx_dt dd_X14_anew 17 rfl) (by decide) rfl rfl (Nat.le_of_ble_eq_true rfl) rfl ?_
      exact sw_iret O (xx_dt dd_X14_anew 18 rfl) rfl rfl (by rw [hQ]; exact ⟨by unfold f_Manew; simp only [if_pos q1, if_neg q2], by unfold g_Manew; simp only [if_pos q1, if_neg q2]⟩)
    · have hc18 := q2
      refine sw_lsE (ls2 := [.ref 5000, .int (nI (rn x + 1)), .int (nI (cn y)), .int v, .int u, xx_d, xx_d, xx_d, xx_d, xx_d]) (by rw [← hc18.1]) ?_
      have hd18 := hc18.2
      refine sw_aload_n O (xx_dt dd_X14_anew 11 rfl) rfl ?_
      refine sw_iload_n O (xx_dt dd_X14_anew 12 rfl) rfl ?_
      refine sw_callVx (as := [.int v]) (st := []) (st2 := [.int (bZ (n_lt v R))]) O (ct_X14_isRegion hl (z := z) (σ := u2 σ 5000 0 0) hbs (R := R) hR (by omega) (x := v)) ce_X14_isRegion ml_X14_91 iv_X14_isRegion cl_X14 rfl (lm_mod (σ := u2 σ 5000 0 0)) (xx_dt dd_X14_anew 13 rfl) (by decide) rfl rfl (Nat.le_of_ble_eq_true rfl) rfl ?_
      refine sw_if_neB (tgt := 35) O (xx_dt dd_X14_anew 14 rfl) (by decide) (fun q3 => ?_) (fun q3 => ?_)
      · have hc26 := q3
        refine sw_lsE (ls2 := [.ref 5000, .int (nI (rn x + 1)), .int (nI (cn y)), .int (nI (cn v)), .int u, xx_d, xx_d, xx_d, xx_d, xx_d]) (by rw [← hc26.1]) ?_
        have hd26 := hc26.2
        refine sw_iload O (xx_dt dd_X14_anew 19 rfl) rfl ?_
        refine sw_iconst (x := 0) O (xx_dt dd_X14_anew 20 rfl) (by decide) ?_
        refine sw_iconst (x := 5) O (xx_dt dd_X14_anew 21 rfl) (by decide) ?_
        refine sw_callSx (as := [.int u, .int 0, .int 5]) (st := []) (st2 := [.int (bZ (n_bt u 0 5))]) O (ct_X14_is hl) ce_X14_is ml_X14_70 st_X14_is (xx_dt dd_X14_anew 22 rfl) (by decide) rfl rfl (Nat.le_of_ble_eq_true rfl) rfl ?_
        refine sw_if_neB (tgt := 51) O (xx_dt dd_X14_anew 23 rfl) (by decide) (fun q4 => ?_) (fun q4 => ?_)
        · refine sw_iconst (x := 0) O (xx_dt dd_X14_anew 28 rfl) (by decide) ?_
          refine sw_istore (ls2 := [.ref 5000, .int (nI (rn x + 1)), .int (nI (cn y)), .int (nI (cn v)), .int u, .int 0, xx_d, xx_d, xx_d, xx_d]) O (xx_dt dd_X14_anew 29 rfl) (by decide) rfl ?_
          refine sw_aload_n O (xx_dt dd_X14_anew 30 rfl) rfl ?_
          refine sw_iload_n O (xx_dt dd_X14_anew 31 rfl) rfl ?_
          refine sw_iload_n O (xx_dt dd_X14_anew 32 rfl) rfl ?_
          refine sw_iload_n O (xx_dt dd_X14_anew 33 rfl) rfl ?_
          refine sw_iload O (xx_dt dd_X14_anew 34 rfl) rfl ?_
          have ha := ha9 q1 q2 q3 q4
          obtain ⟨m9, hm9, hc9⟩ := anew_out hK60 ha
          refine sw_callVx (as := [.int (nI (rn x + 1)), .int (nI (cn y)), .int (nI (cn v)), .int u]) (st := []) (st2 := [.ref 8000]) O (ct_anewH hl (z := z) (σ := u2 σ 5000 0 0) hbs hfr  hR (by omega)  hB (by omega)  hK (by omega) hme.2.1.2.2 (j := cn y) (by omega) (r := cn v) (by omega) ha) ce_X14_runAnew ml_X14_390 iv_X14_runAnew cl_X14 rfl (lm_mod (σ := u2 σ 5000 0 0)) (xx_dt dd_X14_anew 35 rfl) (by decide) rfl rfl (Nat.le_of_ble_eq_true rfl) rfl ?_
          refine sw_get (v := .ref (8000 + 1)) O (xx_dt dd_X14_anew 36 rfl) cl_X11 fl_X14_176 (lm_clk (σ := g_MrunAnew (u2 σ 5000 0 0) (nI (rn x + 1)) (cn y) (cn v) u R B K) (b := 8000) (.inr rfl) (fl1 hc9.1) (g := 2 * m9) hc9.2.2.2.1 (by omega) (w := 2 * m9) hc9.2.2.2.2.1 (by omega)) (by decide) rfl ?_
          refine sw_astore (ls2 := [.ref 5000, .int (nI (rn x + 1)), .int (nI (cn y)), .int (nI (cn v)), .int u, .int 0, .ref (8000 + 1), xx_d, xx_d, xx_d]) O (xx_dt dd_X14_anew 37 rfl) (by decide) rfl ?_
          refine sw_aload O (xx_dt dd_X14_anew 38 rfl) rfl ?_
          refine sw_alen O (xx_dt dd_X14_anew 39 rfl) (by omega) (by omega) ((im_kpr (z := z) (σ := g_MrunAnew (u2 σ 5000 0 0) (nI (rn x + 1)) (cn y) (cn v) u R B K) (b := 8000) (.inr rfl) hc9.1 (R := R) ((congrFun (fr_MrunAnew hc9 (by omega)) 900).trans hR) (by omega)).get _) ?_
          refine sw_istore (ls2 := [.ref 5000, .int (nI (rn x + 1)), .int (nI (cn y)), .int (nI (cn v)), .int u, .int 0, .ref (8000 + 1), .int (nI R), xx_d, xx_d]) O (xx_dt dd_X14_anew 40 rfl) (by decide) rfl ?_
          refine sw_iconst (x := 0) O (xx_dt dd_X14_anew 41 rfl) (by decide) ?_
          refine sw_istore (ls2 := [.ref 5000, .int (nI (rn x + 1)), .int (nI (cn y)), .int (nI (cn v)), .int u, .int 0, .ref (8000 + 1), .int (nI R), .int 0, xx_d]) O (xx_dt dd_X14_anew 42 rfl) (by decide) rfl ?_
          refine sw_for (S := Int32) (fun i76 s76 => s76 + ((g_MrunAnew (u2 σ 5000 0 0) (nI (rn x + 1)) (cn y) (cn v) u R B K) (8000 + 1) i76)) (fun _ _ => True) (hp := fun _ => setM z (g_MrunAnew (u2 σ 5000 0 0) (nI (rn x + 1)) (cn y) (cn v) u R B K) h) (hd := 76) (lc := fun i76 s76 => [.ref 5000, .int (nI (rn x + 1)), .int (nI (cn y)), .int (nI (cn v)), .int u, .int s76, .ref (8000 + 1), .int (nI R), .int (nI i76), xx_d]) (N := R) (fun i76 s76 hi76 hP76 => ⟨trivial, fun kk76 => ?_⟩) R 0 0 (by omega) (trivial) (fun hP76 => ?_)
          · refine sw_iload O (xx_dt dd_X14_anew 43 rfl) rfl ?_
            refine sw_iload O (xx_dt dd_X14_anew 44 rfl) rfl ?_
            refine sw_icmp_ge (tgt := 103) O (xx_dt dd_X14_anew 45 rfl) (by decide) (fun q5 => ?_) (fun q5 => ?_)
            · exact absurd q5 (nI_ge (b := R) hi76 (by omega))
            · refine sw_aload O (xx_dt dd_X14_anew 46 rfl) rfl ?_
              refine sw_iload O (xx_dt dd_X14_anew 47 rfl) rfl ?_
              refine sw_iaload (v := .int ((g_MrunAnew (u2 σ 5000 0 0) (nI (rn x + 1)) (cn y) (cn v) u R B K) (8000 + 1) i76)) O (xx_dt dd_X14_anew 48 rfl) ((im_kpr (z := z) (σ := g_MrunAnew (u2 σ 5000 0 0) (nI (rn x + 1)) (cn y) (cn v) u R B K) (b := 8000) (.inr rfl) hc9.1 (R := R) ((congrFun (fr_MrunAnew hc9 (by omega)) 900).trans hR) (by omega)).get _) (pk_in i76 _ (by omega)) (by rw [nI_clamp (by omega)]; try exact rfl) ?_
              refine sw_istore (ls2 := [.ref 5000, .int (nI (rn x + 1)), .int (nI (cn y)), .int (nI (cn v)), .int u, .int s76, .ref (8000 + 1), .int (nI R), .int (nI i76), .int ((g_MrunAnew (u2 σ 5000 0 0) (nI (rn x + 1)) (cn y) (cn v) u R B K) (8000 + 1) i76)]) O (xx_dt dd_X14_anew 49 rfl) (by decide) rfl ?_
              refine sw_iload O (xx_dt dd_X14_anew 50 rfl) rfl ?_
              refine sw_iload O (xx_dt dd_X14_anew 51 rfl) rfl ?_
              refine sw_iadd O (xx_dt dd_X14_anew 52 rfl) ?_
              refine sw_istore (ls2 := [.ref 5000, .int (nI (rn x + 1)), .int (nI (cn y)), .int (nI (cn v)), .int u, .int (s76 + ((g_MrunAnew (u2 σ 5000 0 0) (nI (rn x + 1)) (cn y) (cn v) u R B K) (8000 + 1) i76)), .ref (8000 + 1), .int (nI R), .int (nI i76), .int ((g_MrunAnew (u2 σ 5000 0 0) (nI (rn x + 1)) (cn y) (cn v) u R B K) (8000 + 1) i76)]) O (xx_dt dd_X14_anew 53 rfl) (by decide) rfl ?_
              refine sw_iinc (y := nI (i76 + 1)) (ls2 := [.ref 5000, .int (nI (rn x + 1)), .int (nI (cn y)), .int (nI (cn v)), .int u, .int (s76 + ((g_MrunAnew (u2 σ 5000 0 0) (nI (rn x + 1)) (cn y) (cn v) u R B K) (8000 + 1) i76)), .ref (8000 + 1), .int (nI R), .int (nI (i76 + 1)), .int ((g_MrunAnew (u2 σ 5000 0 0) (nI (rn x + 1)) (cn y) (cn v) u R B K) (8000 + 1) i76)]) O (xx_dt dd_X14_anew 54 rfl) rfl (nI_1 _) (by decide) rfl ?_
              refine sw_goto (tgt := 76) O (xx_dt dd_X14_anew 55 rfl) (by decide) ?_
              refine sw_dum (ls2 := [.ref 5000, .int (nI (rn x + 1)), .int (nI (cn y)), .int (nI (cn v)), .int u, .int (s76 + ((g_MrunAnew (u2 σ 5000 0 0) (nI (rn x + 1)) (cn y) (cn v) u R B K) (8000 + 1) i76)), .ref (8000 + 1), .int (nI R), .int (nI (i76 + 1)), xx_d]) ⟨.inr rfl, .inr rfl, .inr rfl, .inr rfl, .inr rfl, .inr rfl, .inr rfl, .inr rfl, .inr rfl, .inl rfl, trivial⟩ ?_
              exact kk76
          · show SW Y _ _ (setM z (g_MrunAnew (u2 σ 5000 0 0) (nI (rn x + 1)) (cn y) (cn v) u R B K) h) 76 [.ref 5000, .int (nI (rn x + 1)), .int (nI (cn y)), .int (nI (cn v)), .int u, .int (x_Manew_76 σ x y v u R B K 0), .ref (8000 + 1), .int (nI R), .int (nI R), xx_d] []
            refine sw_iload O (xx_dt dd_X14_anew 43 rfl) rfl ?_
            refine sw_iload O (xx_dt dd_X14_anew 44 rfl) rfl ?_
            refine sw_icmp_ge (tgt := 103) O (xx_dt dd_X14_anew 45 rfl) (by decide) (fun q5 => ?_) (fun q5 => ?_)
            · refine sw_iload O (xx_dt dd_X14_anew 56 rfl) rfl ?_
              have me9 : mem_eq σ (u2 (g_MrunAnew (u2 σ 5000 0 0) (nI (rn x + 1)) (cn y) (cn v) u R B K) 8000 20 0) := (mem_eq.frame8 (τ0 := u2 σ 5000 0 0) (mem_eq.int (r := 5000) (i := 0) (x := 0) hme rfl) (fun q h9 => by rw [u2_ne (by omega)]; exact hc9.2.2.2.2.2 q h9) u2_v)
              exact sw_iretD (h' := setM z (u2 (g_MrunAnew (u2 σ 5000 0 0) (nI (rn x + 1)) (cn y) (cn v) u R B K) 8000 20 0) h) O (xx_dt dd_X14_anew 57 rfl) rfl rfl (drop8 hfr) (me9.cls hcl) (by rw [hh]; exact fun r hr => me9.dom hr) (by rw [hQ]; exact ⟨by unfold f_Manew; simp only [if_pos q1, if_pos q2, if_pos q3, if_pos q4], by unfold g_Manew; simp only [if_pos q1, if_pos q2, if_pos q3, if_pos q4]⟩)
            · exact absurd (Int32.le_refl _) q5
        · refine sw_aload_n O (xx_dt dd_X14_anew 24 rfl) rfl ?_
          refine sw_iconst (x := 2) O (xx_dt dd_X14_anew 25 rfl) (by decide) ?_
          refine sw_callVx (as := [.int 2]) (st := []) (st2 := [.int 0]) O (ct_X14_refuse hl (z := z) (σ := u2 σ 5000 0 0) hbs (x := 2)) ce_X14_refuse ml_X14_74 iv_X14_refuse cl_X14 rfl (lm_mod (σ := u2 σ 5000 0 0)) (xx_dt dd_X14_anew 26 rfl) (by decide) rfl rfl (Nat.le_of_ble_eq_true rfl) rfl ?_
          exact sw_iret O (xx_dt dd_X14_anew 27 rfl) rfl rfl (by rw [hQ]; exact ⟨by unfold f_Manew; simp only [if_pos q1, if_pos q2, if_pos q3, if_neg q4], by unfold g_Manew; simp only [if_pos q1, if_pos q2, if_pos q3, if_neg q4]⟩)
      · refine sw_aload_n O (xx_dt dd_X14_anew 15 rfl) rfl ?_
        refine sw_iconst (x := 1) O (xx_dt dd_X14_anew 16 rfl) (by decide) ?_
        refine sw_callVx (as := [.int 1]) (st := []) (st2 := [.int 0]) O (ct_X14_refuse hl (z := z) (σ := u2 σ 5000 0 0) hbs (x := 1)) ce_X14_refuse ml_X14_74 iv_X14_refuse cl_X14 rfl (lm_mod (σ := u2 σ 5000 0 0)) (xx_dt dd_X14_anew 17 rfl) (by decide) rfl rfl (Nat.le_of_ble_eq_true rfl) rfl ?_
        exact sw_iret O (xx_dt dd_X14_anew 18 rfl) rfl rfl (by rw [hQ]; exact ⟨by unfold f_Manew; simp only [if_pos q1, if_pos q2, if_neg q3], by unfold g_Manew; simp only [if_pos q1, if_pos q2, if_neg q3]⟩)
end
section
/-! ===== the reference: isLogged ===== -/
theorem ct_anew0 {l : Launch} {h : XH} (hl : l.stackTraces = false) {z : Int64} {σ : XS9} {R B K : Nat} {GA : Nat → XS9 → Prop} (hbs : xx_bs h) (hfr : ∀ r, 5000 ≤ r → r < 20010 → h r = none) (hR : σ 5001 900 = nI R) (hR5 : R ≤ 5) (hB : σ 5002 900 = nI B) (hB6 : B ≤ 6) (hK : σ 5003 900 = nI K) (hK60 : K ≤ 60) (hk8 : σ 8000 20 = 0) (ha : AH GA σ (-1) 0 0 0 R B K) : XEx l m_X14_runAnew 10 490 8638 [.ref 5000, .int (-1), .int 0, .int 0, .int 0] (setM z σ h) (some (.ref 8000)) (setM z (g_MrunAnew σ (-1) 0 0 0 R B K) h) := ct_anewH (j := 0) (r := 0) hl hbs hfr hR hR5 hB hB6 hK hK60 hk8 (by omega) (by omega) ha
def x_MisLogged_11 (σ : XS9) (R B K : Nat) (s0 : Unit) : Unit ⊕ Int32 := xitR (fun i11 s11 => (if ((g_MrunAnew σ (-1) 0 0 0 R B K) (8000 + 1) i11) = (σ (7000 + 1) i11) then .inl () else .inr 0)) R 0 s0
def x_MisLogged_50 (σ : XS9) (R B K : Nat) (s0 : Unit) : Unit ⊕ Int32 := xitR (fun i50 s50 => (if ((g_MrunAnew σ (-1) 0 0 0 R B K) (8000 + 2) i50) = (σ (7000 + 2) i50) then .inl () else .inr 0)) B 0 s0
def f_MisLogged (σ : XS9) (R B K : Nat) : Int32 := (match (x_MisLogged_11 σ R B K ()) with | .inl s11 => (match (x_MisLogged_50 σ R B K ()) with | .inl s50 => 1 | .inr r50 => r50) | .inr r11 => r11)
theorem ct_X14_isLogged {l : Launch} {h : XH} (hl : l.stackTraces = false) {z : Int64} {σ : XS9} (hbs : xx_bs h) (hfr : ∀ r, 5000 ≤ r → r < 20010 → h r = none) (hme : mem_eq σ σ) {R : Nat} (hR : σ 5001 900 = nI R) (hR5 : R ≤ 5) {B : Nat} (hB : σ 5002 900 = nI B) (hB6 : B ≤ 6) {K : Nat} (hK : σ 5003 900 = nI K) (hK60 : K ≤ 60) (hf : σ 7000 20 = nI 1) (hf5 : σ 7000 25 = nI 1) {g : Nat} (hg : σ 7000 23 = nI g) (hg1 : g < 200) {w : Nat} (hw : σ 7000 24 = nI w) (hw1 : w < 200) {GA : Nat → XS9 → Prop} (ha : AH GA σ (-1) 0 0 0 R B K)  : XEx l m_X14_isLogged 11 490 8638 [.ref 5000] (setM z σ h) (some (.int (f_MisLogged σ R B K))) (setM z (u2 (g_MrunAnew σ (-1) 0 0 0 R B K) 8000 20 0) h) := by
  refine XMet.of hl rfl rfl (Nat.le_of_ble_eq_true rfl) (fun Y O hh hQ => ?_)
  refine sw_cls (fun hcl => ?_)
  show SW Y 490 8638 (setM z σ h) 0 [.ref 5000, xx_d, xx_d] []
  refine sw_aload_n O (xx_dt dd_X14_isLogged 0 rfl) rfl ?_
  refine sw_iconst (x := (-1)) O (xx_dt dd_X14_isLogged 1 rfl) (by decide) ?_
  refine sw_iconst (x := 0) O (xx_dt dd_X14_isLogged 2 rfl) (by decide) ?_
  refine sw_iconst (x := 0) O (xx_dt dd_X14_isLogged 3 rfl) (by decide) ?_
  refine sw_iconst (x := 0) O (xx_dt dd_X14_isLogged 4 rfl) (by decide) ?_
  obtain ⟨m9, hm9, hc9⟩ := anew_out hK60 ha
  refine sw_callVx (as := [.int (-1), .int 0, .int 0, .int 0]) (st := []) (st2 := [.ref 8000]) O (ct_anew0 hl (z := z) (σ := σ) hbs hfr  hR (by omega)  hB (by omega)  hK (by omega) hme.2.1.2.2 ha) ce_X14_runAnew ml_X14_390 iv_X14_runAnew cl_X14 rfl (lm_modC (σ := σ) (fl1 hf5)) (xx_dt dd_X14_isLogged 5 rfl) (by decide) rfl rfl (Nat.le_of_ble_eq_true rfl) rfl ?_
  refine sw_astore_n (ls2 := [.ref 5000, .ref 8000, xx_d]) O (xx_dt dd_X14_isLogged 6 rfl) (by decide) rfl ?_
  refine sw_iconst (x := 0) O (xx_dt dd_X14_isLogged 7 rfl) (by decide) ?_
  refine sw_istore_n (ls2 := [.ref 5000, .ref 8000, .int 0]) O (xx_dt dd_X14_isLogged 8 rfl) (by decide) rfl ?_
  refine sw_forR (S := Unit) (R := Int32) (fun i11 s11 => (if ((g_MrunAnew σ (-1) 0 0 0 R B K) (8000 + 1) i11) = (σ (7000 + 1) i11) then .inl () else .inr 0)) (fun _ _ => True) (FR := fun r9 => f_MisLogged σ R B K = r9) (hp := fun _ => setM z (g_MrunAnew σ (-1) 0 0 0 R B K) h) (hd := 11) (lc := fun i11 s11 => [.ref 5000, .ref 8000, .int (nI i11)]) (N := R) (fun i11 s11 hi11 hP11 => ⟨fun _ _ => trivial, fun kk11 kr11 => ?_⟩) R 0 () (by omega) (trivial) (fun sN11 eN11 hP11 => ?_) (fun r11 eN11 => ?_)
  · refine sw_iload_n O (xx_dt dd_X14_isLogged 9 rfl) rfl ?_
    refine sw_aload_n O (xx_dt dd_X14_isLogged 10 rfl) rfl ?_
    refine sw_get (v := .ref 5001) O (xx_dt dd_X14_isLogged 11 rfl) cl_X14 fl_X14_23 (lm_modC (σ := g_MrunAnew σ (-1) 0 0 0 R B K) (fl1 ((congrFun (fr_MrunAnew hc9 (by omega)) 25).trans hf5))) (by decide) rfl ?_
    refine sw_callVL (ci := 6) (as := []) (st := [.int (nI i11)]) (st2 := [.int (nI R), .int (nI i11)]) O (ct_AL_size hl (lm_5001 (σ := g_MrunAnew σ (-1) 0 0 0 R B K) (R := R) ((congrFun (fr_MrunAnew hc9 (by omega)) 900).trans hR) (by omega))) ce_Jx4a65c_size_8abf5 ml_X14_57 iv_Jx4a65c_size_8abf5 cl_Jx4a65c rfl (lm_5001 (σ := g_MrunAnew σ (-1) 0 0 0 R B K) (R := R) ((congrFun (fr_MrunAnew hc9 (by omega)) 900).trans hR) (by omega)) (xx_dt dd_X14_isLogged 12 rfl) (by decide) rfl rfl (Nat.le_of_ble_eq_true rfl) rfl ?_
    refine sw_icmp_ge (tgt := 48) O (xx_dt dd_X14_isLogged 13 rfl) (by decide) (fun q1 => ?_) (fun q1 => ?_)
    · exact absurd q1 (nI_ge (b := R) hi11 (by omega))
    · refine sw_aload_n O (xx_dt dd_X14_isLogged 14 rfl) rfl ?_
      refine sw_get (v := .ref (8000 + 1)) O (xx_dt dd_X14_isLogged 15 rfl) cl_X11 fl_X14_176 (lm_clk (σ := g_MrunAnew σ (-1) 0 0 0 R B K) (b := 8000) (.inr rfl) (fl1 hc9.1) (g := 2 * m9) hc9.2.2.2.1 (by omega) (w := 2 * m9) hc9.2.2.2.2.1 (by omega)) (by decide) rfl ?_
      refine sw_iload_n O (xx_dt dd_X14_isLogged 16 rfl) rfl ?_
      refine sw_iaload (v := .int ((g_MrunAnew σ (-1) 0 0 0 R B K) (8000 + 1) i11)) O (xx_dt dd_X14_isLogged 17 rfl) ((im_kpr (z := z) (σ := g_MrunAnew σ (-1) 0 0 0 R B K) (b := 8000) (.inr rfl) hc9.1 (R := R) ((congrFun (fr_MrunAnew hc9 (by omega)) 900).trans hR) (by omega)).get _) (pk_in i11 _ (by omega)) (by rw [nI_clamp (by omega)]; try exact rfl) ?_
      refine sw_aload_n O (xx_dt dd_X14_isLogged 18 rfl) rfl ?_
      refine sw_get (v := .ref 7000) O (xx_dt dd_X14_isLogged 19 rfl) cl_X14 fl_X14_141 (lm_modC (σ := g_MrunAnew σ (-1) 0 0 0 R B K) (fl1 ((congrFun (fr_MrunAnew hc9 (by omega)) 25).trans hf5))) (by decide) rfl ?_
      refine sw_get (v := .ref (7000 + 1)) O (xx_dt dd_X14_isLogged 20 rfl) cl_X11 fl_X14_176 (lm_clk (σ := g_MrunAnew σ (-1) 0 0 0 R B K) (b := 7000) (.inl rfl) (fl1 ((congrFun (fr_MrunAnew hc9 (by omega)) 20).trans hf)) (g := g) ((congrFun (fr_MrunAnew hc9 (by omega)) 23).trans hg) (by omega) (w := w) ((congrFun (fr_MrunAnew hc9 (by omega)) 24).trans hw) (by omega)) (by decide) rfl ?_
      refine sw_iload_n O (xx_dt dd_X14_isLogged 21 rfl) rfl ?_
      refine sw_iaload (v := .int (σ (7000 + 1) i11)) O (xx_dt dd_X14_isLogged 22 rfl) ((im_kpr (z := z) (σ := g_MrunAnew σ (-1) 0 0 0 R B K) (b := 7000) (.inl rfl) ((congrFun (fr_MrunAnew hc9 (by omega)) 20).trans hf) (R := R) ((congrFun (fr_MrunAnew hc9 (by omega)) 900).trans hR) (by omega)).get _) (pk_in i11 _ (by omega)) (by rw [nI_clamp (by omega)]; exact (congrArg Value.int (congrFun (fr_MrunAnew hc9 (by omega)) i11))) ?_
      refine sw_icmp_eq (tgt := 42) O (xx_dt dd_X14_isLogged 23 rfl) (by decide) (fun q2 => ?_) (fun q2 => ?_)
      · refine sw_iinc (y := nI (i11 + 1)) (ls2 := [.ref 5000, .ref 8000, .int (nI (i11 + 1))]) O (xx_dt dd_X14_isLogged 26 rfl) rfl (nI_1 _) (by decide) rfl ?_
        refine sw_goto (tgt := 11) O (xx_dt dd_X14_isLogged 27 rfl) (by decide) ?_
        exact kk11 () (by simp only [if_pos q2])
      · refine sw_iconst (x := 0) O (xx_dt dd_X14_isLogged 24 rfl) (by decide) ?_
        have me9 : mem_eq σ (u2 (g_MrunAnew σ (-1) 0 0 0 R B K) 8000 20 0) := (mem_eq.frame8 (τ0 := σ) hme (fun q h9 => by rw [u2_ne (by omega)]; exact hc9.2.2.2.2.2 q h9) u2_v)
        exact sw_iretD (h' := setM z (u2 (g_MrunAnew σ (-1) 0 0 0 R B K) 8000 20 0) h) O (xx_dt dd_X14_isLogged 25 rfl) rfl rfl (drop8 hfr) (me9.cls hcl) (by rw [hh]; exact fun r hr => me9.dom hr) (by rw [hQ]; exact ⟨by rw [kr11 0 (by simp only [if_neg q2])], rfl⟩)
  · show SW Y _ _ (setM z (g_MrunAnew σ (-1) 0 0 0 R B K) h) 11 [.ref 5000, .ref 8000, .int (nI R)] []
    refine sw_iload_n O (xx_dt dd_X14_isLogged 9 rfl) rfl ?_
    refine sw_aload_n O (xx_dt dd_X14_isLogged 10 rfl) rfl ?_
    refine sw_get (v := .ref 5001) O (xx_dt dd_X14_isLogged 11 rfl) cl_X14 fl_X14_23 (lm_modC (σ := g_MrunAnew σ (-1) 0 0 0 R B K) (fl1 ((congrFun (fr_MrunAnew hc9 (by omega)) 25).trans hf5))) (by decide) rfl ?_
    refine sw_callVL (ci := 6) (as := []) (st := [.int (nI R)]) (st2 := [.int (nI R), .int (nI R)]) O (ct_AL_size hl (lm_5001 (σ := g_MrunAnew σ (-1) 0 0 0 R B K) (R := R) ((congrFun (fr_MrunAnew hc9 (by omega)) 900).trans hR) (by omega))) ce_Jx4a65c_size_8abf5 ml_X14_57 iv_Jx4a65c_size_8abf5 cl_Jx4a65c rfl (lm_5001 (σ := g_MrunAnew σ (-1) 0 0 0 R B K) (R := R) ((congrFun (fr_MrunAnew hc9 (by omega)) 900).trans hR) (by omega)) (xx_dt dd_X14_isLogged 12 rfl) (by decide) rfl rfl (Nat.le_of_ble_eq_true rfl) rfl ?_
    refine sw_icmp_ge (tgt := 48) O (xx_dt dd_X14_isLogged 13 rfl) (by decide) (fun q1 => ?_) (fun q1 => ?_)
    · refine sw_iconst (x := 0) O (xx_dt dd_X14_isLogged 28 rfl) (by decide) ?_
      refine sw_istore_n (ls2 := [.ref 5000, .ref 8000, .int 0]) O (xx_dt dd_X14_isLogged 29 rfl) (by decide) rfl ?_
      refine sw_forR (S := Unit) (R := Int32) (fun i50 s50 => (if ((g_MrunAnew σ (-1) 0 0 0 R B K) (8000 + 2) i50) = (σ (7000 + 2) i50) then .inl () else .inr 0)) (fun _ _ => True) (FR := fun r9 => f_MisLogged σ R B K = r9) (hp := fun _ => setM z (g_MrunAnew σ (-1) 0 0 0 R B K) h) (hd := 50) (lc := fun i50 s50 => [.ref 5000, .ref 8000, .int (nI i50)]) (N := B) (fun i50 s50 hi50 hP50 => ⟨fun _ _ => trivial, fun kk50 kr50 => ?_⟩) B 0 () (by omega) (trivial) (fun sN50 eN50 hP50 => ?_) (fun r50 eN50 => ?_)
      · refine sw_iload_n O (xx_dt dd_X14_isLogged 30 rfl) rfl ?_
        refine sw_aload_n O (xx_dt dd_X14_isLogged 31 rfl) rfl ?_
        refine sw_get (v := .ref 5002) O (xx_dt dd_X14_isLogged 32 rfl) cl_X14 fl_X14_27 (lm_modC (σ := g_MrunAnew σ (-1) 0 0 0 R B K) (fl1 ((congrFun (fr_MrunAnew hc9 (by omega)) 25).trans hf5))) (by decide) rfl ?_
        refine sw_callVL (ci := 6) (as := []) (st := [.int (nI i50)]) (st2 := [.int (nI B), .int (nI i50)]) O (ct_AL_size hl (lm_5002 (σ := g_MrunAnew σ (-1) 0 0 0 R B K) (B := B) ((congrFun (fr_MrunAnew hc9 (by omega)) 900).trans hB) (by omega))) ce_Jx4a65c_size_8abf5 ml_X14_57 iv_Jx4a65c_size_8abf5 cl_Jx4a65c rfl (lm_5002 (σ := g_MrunAnew σ (-1) 0 0 0 R B K) (B := B) ((congrFun (fr_MrunAnew hc9 (by omega)) 900).trans hB) (by omega)) (xx_dt dd_X14_isLogged 33 rfl) (by decide) rfl rfl (Nat.le_of_ble_eq_true rfl) rfl ?_
        refine sw_icmp_ge (tgt := 87) O (xx_dt dd_X14_isLogged 34 rfl) (by decide) (fun q3 => ?_) (fun q3 => ?_)
        · exact absurd q3 (nI_ge (b := B) hi50 (by omega))
        · refine sw_aload_n O (xx_dt dd_X14_isLogged 35 rfl) rfl ?_
          refine sw_get (v := .ref (8000 + 2)) O (xx_dt dd_X14_isLogged 36 rfl) cl_X11 fl_X14_192 (lm_clk (σ := g_MrunAnew σ (-1) 0 0 0 R B K) (b := 8000) (.inr rfl) (fl1 hc9.1) (g := 2 * m9) hc9.2.2.2.1 (by omega) (w := 2 * m9) hc9.2.2.2.2.1 (by omega)) (by decide) rfl ?_
          refine sw_iload_n O (xx_dt dd_X14_isLogged 37 rfl) rfl ?_
          refine sw_iaload (v := .int ((g_MrunAnew σ (-1) 0 0 0 R B K) (8000 + 2) i50)) O (xx_dt dd_X14_isLogged 38 rfl) ((im_khe (z := z) (σ := g_MrunAnew σ (-1) 0 0 0 R B K) (b := 8000) (.inr rfl) hc9.1).get _) (pk_in i50 _ (by omega)) (by rw [nI_clamp (by omega)]; try exact rfl) ?_
          refine sw_aload_n O (xx_dt dd_X14_isLogged 39 rfl) rfl ?_
          refine sw_get (v := .ref 7000) O (xx_dt dd_X14_isLogged 40 rfl) cl_X14 fl_X14_141 (lm_modC (σ := g_MrunAnew σ (-1) 0 0 0 R B K) (fl1 ((congrFun (fr_MrunAnew hc9 (by omega)) 25).trans hf5))) (by decide) rfl ?_
          refine sw_get (v := .ref (7000 + 2)) O (xx_dt dd_X14_isLogged 41 rfl) cl_X11 fl_X14_192 (lm_clk (σ := g_MrunAnew σ (-1) 0 0 0 R B K) (b := 7000) (.inl rfl) (fl1 ((congrFun (fr_MrunAnew hc9 (by omega)) 20).trans hf)) (g := g) ((congrFun (fr_MrunAnew hc9 (by omega)) 23).trans hg) (by omega) (w := w) ((congrFun (fr_MrunAnew hc9 (by omega)) 24).trans hw) (by omega)) (by decide) rfl ?_
          refine sw_iload_n O (xx_dt dd_X14_isLogged 42 rfl) rfl ?_
          refine sw_iaload (v := .int (σ (7000 + 2) i50)) O (xx_dt dd_X14_isLogged 43 rfl) ((im_khe (z := z) (σ := g_MrunAnew σ (-1) 0 0 0 R B K) (b := 7000) (.inl rfl) ((congrFun (fr_MrunAnew hc9 (by omega)) 20).trans hf)).get _) (pk_in i50 _ (by omega)) (by rw [nI_clamp (by omega)]; exact (congrArg Value.int (congrFun (fr_MrunAnew hc9 (by omega)) i50))) ?_
          refine sw_icmp_eq (tgt := 81) O (xx_dt dd_X14_isLogged 44 rfl) (by decide) (fun q4 => ?_) (fun q4 => ?_)
          · refine sw_iinc (y := nI (i50 + 1)) (ls2 := [.ref 5000, .ref 8000, .int (nI (i50 + 1))]) O (xx_dt dd_X14_isLogged 47 rfl) rfl (nI_1 _) (by decide) rfl ?_
            refine sw_goto (tgt := 50) O (xx_dt dd_X14_isLogged 48 rfl) (by decide) ?_
            exact kk50 () (by simp only [if_pos q4])
          · refine sw_iconst (x := 0) O (xx_dt dd_X14_isLogged 45 rfl) (by decide) ?_
            have me9 : mem_eq σ (u2 (g_MrunAnew σ (-1) 0 0 0 R B K) 8000 20 0) := (mem_eq.frame8 (τ0 := σ) hme (fun q h9 => by rw [u2_ne (by omega)]; exact hc9.2.2.2.2.2 q h9) u2_v)
            exact sw_iretD (h' := setM z (u2 (g_MrunAnew σ (-1) 0 0 0 R B K) 8000 20 0) h) O (xx_dt dd_X14_isLogged 46 rfl) rfl rfl (drop8 hfr) (me9.cls hcl) (by rw [hh]; exact fun r hr => me9.dom hr) (by rw [hQ]; exact ⟨by rw [kr50 0 (by simp only [if_neg q4])], rfl⟩)
      · show SW Y _ _ (setM z (g_MrunAnew σ (-1) 0 0 0 R B K) h) 50 [.ref 5000, .ref 8000, .int (nI B)] []
        refine sw_iload_n O (xx_dt dd_X14_isLogged 30 rfl) rfl ?_
        refine sw_aload_n O (xx_dt dd_X14_isLogged 31 rfl) rfl ?_
        refine sw_get (v := .ref 5002) O (xx_dt dd_X14_isLogged 32 rfl) cl_X14 fl_X14_27 (lm_modC (σ := g_MrunAnew σ (-1) 0 0 0 R B K) (fl1 ((congrFun (fr_MrunAnew hc9 (by omega)) 25).trans hf5))) (by decide) rfl ?_
        refine sw_callVL (ci := 6) (as := []) (st := [.int (nI B)]) (st2 := [.int (nI B), .int (nI B)]) O (ct_AL_size hl (lm_5002 (σ := g_MrunAnew σ (-1) 0 0 0 R B K) (B := B) ((congrFun (fr_MrunAnew hc9 (by omega)) 900).trans hB) (by omega))) ce_Jx4a65c_size_8abf5 ml_X14_57 iv_Jx4a65c_size_8abf5 cl_Jx4a65c rfl (lm_5002 (σ := g_MrunAnew σ (-1) 0 0 0 R B K) (B := B) ((congrFun (fr_MrunAnew hc9 (by omega)) 900).trans hB) (by omega)) (xx_dt dd_X14_isLogged 33 rfl) (by decide) rfl rfl (Nat.le_of_ble_eq_true rfl) rfl ?_
        refine sw_icmp_ge (tgt := 87) O (xx_dt dd_X14_isLogged 34 rfl) (by decide) (fun q3 => ?_) (fun q3 => ?_)
        · refine sw_iconst (x := 1) O (xx_dt dd_X14_isLogged 49 rfl) (by decide) ?_
          have me9 : mem_eq σ (u2 (g_MrunAnew σ (-1) 0 0 0 R B K) 8000 20 0) := (mem_eq.frame8 (τ0 := σ) hme (fun q h9 => by rw [u2_ne (by omega)]; exact hc9.2.2.2.2.2 q h9) u2_v)
          exact sw_iretD (h' := setM z (u2 (g_MrunAnew σ (-1) 0 0 0 R B K) 8000 20 0) h) O (xx_dt dd_X14_isLogged 50 rfl) rfl rfl (drop8 hfr) (me9.cls hcl) (by rw [hh]; exact fun r hr => me9.dom hr) (by rw [hQ]; exact ⟨by unfold f_MisLogged; simp only [x_MisLogged_11, eN11, x_MisLogged_50, eN50], rfl⟩)
        · exact absurd (Int32.le_refl _) q3
      · unfold f_MisLogged; simp only [x_MisLogged_50, x_MisLogged_11, eN11, eN50]
    · exact absurd (Int32.le_refl _) q1
  · unfold f_MisLogged; simp only [x_MisLogged_11, eN11]
end
section
/-! ===== the reference: add ===== -/
theorem lyQ_z {z y : Int64} {C : XS9} {r : Nat} {s : Nat → Int32} (hr : r ≠ 5000) : lyQ z C r s = lyQ y C r s := by
  unfold lyQ
  by_cases u : r < 5010
  · rw [if_pos u, if_pos u]
    split <;> first | rfl | (exfalso; omega)
  · rw [if_neg u, if_neg u]
theorem pm_sum {z y : Int64} {σ : XS9} {h : XH} : xx_up (setM z σ h) 5000 (20, 17, updV (fun k => match k with | 8 => .ref 5001 | 9 => .ref 5002 | 10 => .ref 5003 | 11 => .ref 5004 | 12 => (if σ 7000 25 = 0 then .null else .ref 7000) | 13 => .ref 5005 | 14 => .ref 5006 | 15 => .ref 5007 | 16 => .long z | k => .int ((σ 5000) k)) 16 (.long y)) = setM y σ h := by
  funext q
  unfold xx_up
  by_cases a : q = 5000
  · rw [if_pos a, a, lm_mod]
    congr 3
    funext k
    unfold updV
    by_cases e : k = 16
    · subst e; rfl
    · rw [if_neg e]
      match k, e with
      | 0, _ | 1, _ | 2, _ | 3, _ | 4, _ | 5, _ | 6, _ | 7, _ | 8, _ | 9, _ | 10, _ | 11, _ | 12, _ | 13, _ | 14, _ | 15, _ => rfl
      | 16, e => exact absurd rfl e
      | _ + 17, _ => rfl
  · rw [if_neg a]
    unfold setM
    rw [lyQ_z (z := z) (y := y) a]
theorem ct_X14_add {l : Launch} {h : XH} (hl : l.stackTraces = false) {z : Int64} {σ : XS9} {v : Int64} : XEx l m_X14_add 0 0 0 [.ref 5000, .long v] (setM z σ h) none (setM ((z * 31) + v) σ h) := by
  refine XMet.of hl rfl rfl (Nat.le_of_ble_eq_true rfl) (fun Y O hh hQ => ?_)
  show SW Y 0 0 (setM z σ h) 0 [.ref 5000, .long v, xx_d] []
  refine sw_aload_n O (xx_dt dd_X14_add 0 rfl) rfl ?_
  refine sw_aload_n O (xx_dt dd_X14_add 1 rfl) rfl ?_
  refine sw_get (v := .long z) O (xx_dt dd_X14_add 2 rfl) cl_X14 fl_X14_407 (lm_mod (σ := σ)) (by decide) rfl ?_
  refine sw_ldc2 O ct_X14_411 (xx_dt dd_X14_add 3 rfl) ?_
  refine sw_lmul O (xx_dt dd_X14_add 4 rfl) ?_
  refine sw_lload_n O (xx_dt dd_X14_add 5 rfl) rfl ?_
  refine sw_ladd O (xx_dt dd_X14_add 6 rfl) ?_
  refine sw_put (h2 := setM ((z * 31) + v) σ h) O (xx_dt dd_X14_add 7 rfl) cl_X14 fl_X14_407 (lm_mod (σ := σ)) (by decide) (by omega) rfl (fun _ => ⟨rfl, rfl⟩) pm_sum ?_
  exact sw_ret O (xx_dt dd_X14_add 8 rfl) rfl (by rw [hQ]; exact ⟨rfl, rfl⟩)
end
section
/-! ===== loops with an early return and allocation; a temporary dropped in the midst ===== -/
theorem sw_forRV {Y : XY} {kf nf : Nat → Nat} {S R : Type} (step : Nat → S → S ⊕ R) (P : Nat → S → Prop) {FR : R → Prop} {hd : Nat} {hp : S → XH} {lc : Nat → S → List Value} {N : Nat}
    (hstep : ∀ i s, i < N → P i s → (∀ s', step i s = .inl s' → P (i + 1) s') ∧ ((∀ s', step i s = .inl s' → SW Y (kf (i + 1)) (nf (i + 1)) (hp s') hd (lc (i + 1) s') []) → (∀ r, step i s = .inr r → FR r) → SW Y (kf i) (nf i) (hp s) hd (lc i s) [])) :
    ∀ (f i : Nat) (s : S), i + f = N → P i s → (∀ s', xitR step f i s = .inl s' → P N s' → SW Y (kf N) (nf N) (hp s') hd (lc N s') []) → (∀ r, xitR step f i s = .inr r → FR r) → SW Y (kf i) (nf i) (hp s) hd (lc i s) []
  | 0, i, s, e, hP, kk, kr => by
    obtain rfl : i = N := by omega
    exact kk s rfl hP
  | f + 1, i, s, e, hP, kk, kr => by
    obtain ⟨h1, h2⟩ := hstep i s (by omega) hP
    refine h2 (fun s' e' => sw_forRV step P hstep f (i + 1) s' (by omega) (h1 s' e') (fun s'' e'' => kk s'' ?_) (fun r e'' => kr r ?_)) (fun r e' => kr r ?_)
    · show (match step i s with | .inl s' => xitR step f (i + 1) s' | .inr r => .inr r) = _
      rw [e']; exact e''
    · show (match step i s with | .inl s' => xitR step f (i + 1) s' | .inr r => .inr r) = _
      rw [e']; exact e''
    · show (match step i s with | .inl s' => xitR step f (i + 1) s' | .inr r => .inr r) = _
      rw [e']
/-- the memory as it was before a temporary was made -/
theorem subT {z : Int64} {σ τ : XS9} {h : XH} {q : Nat} (hq : 20000 ≤ q ∧ q < 20010) (h0 : σ q 20 = 0) (hτ : ∀ r, r ≠ q → τ r = σ r) (hfr : ∀ r, 5000 ≤ r → r < 20010 → h r = none) : xx_sub (setM z σ h) (setM z τ h) := by
  intro r c hc
  by_cases e : r = q
  · subst e
    rw [setM_tn hq h0, hfr r (by omega) (by omega)] at hc
    cases hc
  · have t : setM z τ h r = setM z σ h r := by
      unfold setM
      rw [hτ r e, lyQ_ctl (C := ctl τ) (C' := ctl σ) (fun p i hp => by unfold ctl; rw [hτ p (by omega)]) (.inr (.inr fun i => by unfold ctl; rw [hτ r e]))]
    rw [t]
    exact hc
theorem in_mod {z : Int64} {σ : XS9} {h : XH} : xx_in (setM z σ h) (.ref 5000) := by
  show (setM z σ h 5000).isSome = true
  rw [lm_mod]
  rfl
end
section
/-! ===== what was made and dropped leaves the memory as it was ===== -/
theorem setM_same {z : Int64} {σ τ : XS9} {h : XH} (e : mem_eq σ τ) (h1 : ∀ q, (q < 8000 ∨ 9010 ≤ q) → (q < 20000 ∨ 20010 ≤ q) → τ q = σ q) : setM z τ h = setM z σ h := by
  funext r
  unfold setM
  rw [e.lq]
  by_cases a : (r < 8000 ∨ 9010 ≤ r) ∧ (r < 20000 ∨ 20010 ≤ r)
  · rw [h1 r a.1 a.2]
  · have N : ∀ s, lyQ z (ctl σ) r s = none := fun s => by
      by_cases b : r < 9000
      · obtain ⟨i, rfl⟩ : ∃ i, r = 8000 + i := ⟨r - 8000, by omega⟩
        exact noq_K (.inr rfl) e.2.1.2.2 (by omega) s
      · by_cases c : r < 9010
        · have e9 : ctl σ 9000 20 = 0 := e.2.1.1.2
          unfold lyQ
          rw [if_neg (by omega), if_neg (by omega), if_neg (by omega), if_neg (by omega), if_neg (by omega), if_neg (by omega), if_neg (by omega), if_neg (by omega), if_neg (by omega), if_neg (by omega), if_neg (by omega), if_neg (by omega), if_neg (by omega), if_neg (by omega), if_pos c, if_pos e9]
        · have hq : 20000 ≤ r ∧ r < 20010 := by omega
          have e8 : ctl σ r 20 = 0 := (ctl_at (by rw [tmpCtl hq]; rfl)).trans (e.2.2 r hq.1 hq.2).2
          rw [lq_tmp hq, if_pos e8]
    rw [N, N]
theorem ct_isLogged {l : Launch} {h : XH} (hl : l.stackTraces = false) {z : Int64} {σ : XS9} (hbs : xx_bs h) (hfr : ∀ r, 5000 ≤ r → r < 20010 → h r = none) (hme : mem_eq σ σ) {R : Nat} (hR : σ 5001 900 = nI R) (hR5 : R ≤ 5) {B : Nat} (hB : σ 5002 900 = nI B) (hB6 : B ≤ 6) {K : Nat} (hK : σ 5003 900 = nI K) (hK60 : K ≤ 60) (hf : σ 7000 20 = nI 1) (hf5 : σ 7000 25 = nI 1) {g : Nat} (hg : σ 7000 23 = nI g) (hg1 : g < 200) {w : Nat} (hw : σ 7000 24 = nI w) (hw1 : w < 200) {GA : Nat → XS9 → Prop} (ha : AH GA σ (-1) 0 0 0 R B K) : XEx l m_X14_isLogged 11 490 8638 [.ref 5000] (setM z σ h) (some (.int (f_MisLogged σ R B K))) (setM z σ h) := by
  have t := ct_X14_isLogged hl (z := z) (σ := σ) hbs hfr hme hR hR5 hB hB6 hK hK60 hf hf5 hg hg1 hw hw1 ha
  obtain ⟨m9, hm9, hc9⟩ := anew_out hK60 ha
  rwa [setM_same (σ := σ) (τ := u2 (g_MrunAnew σ (-1) 0 0 0 R B K) 8000 20 0) (mem_eq.frame8 (τ0 := σ) hme (fun q h9 => by rw [u2_ne (by omega)]; exact hc9.2.2.2.2.2 q h9) u2_v) (fun q h1 h2 => by
    rcases h1 with h1 | h1
    · rw [u2_ne (by omega)]; exact hc9.2.2.2.2.2 q (.inl h1)
    · rw [u2_ne (by omega)]; exact hc9.2.2.2.2.2 q (.inr (by omega)))] at t
theorem mem_same0 {σ : XS9} (hme : mem_eq σ σ) : mem_eq (u2 σ 5000 0 0) (u2 σ 5000 0 0) := by
  refine ⟨fun _ _ _ _ _ => rfl, ⟨⟨?_, ?_⟩, ?_, ?_⟩, fun q a b => ?_⟩
  · rw [u2_ne (by omega)]; exact hme.2.1.1.1
  · rw [u2_ne (by omega)]; exact hme.2.1.1.1
  · rw [u2_ne (by omega)]; exact hme.2.1.2.1
  · rw [u2_ne (by omega)]; exact hme.2.1.2.1
  · rw [u2_ne (by omega)]; exact hme.2.2 q a b
def t_anew (x y v u : Int32) (R B K : Nat) : Int32 := if n_rd x K then (if n_lt y B then (if n_lt v R then (if n_bt u 0 5 then 0 else 2) else 1) else 1) else 1
theorem ct_anew {l : Launch} {h : XH} (hl : l.stackTraces = false) {z : Int64} {σ : XS9} (hbs : xx_bs h) (hfr : ∀ r, 5000 ≤ r → r < 20010 → h r = none) (hme : mem_eq σ σ) {R : Nat} (hR : σ 5001 900 = nI R) (hR5 : R ≤ 5) {B : Nat} (hB : σ 5002 900 = nI B) (hB6 : B ≤ 6) {K : Nat} (hK : σ 5003 900 = nI K) (hK60 : K ≤ 60) {x y v u : Int32} {GA : Nat → XS9 → Prop} (ha9 : n_rd x K → n_lt y B → n_lt v R → n_bt u 0 5 → AH GA (u2 σ 5000 0 0) (nI (rn x + 1)) (cn y) (cn v) u R B K) : XEx l m_X14_anew 11 490 8638 [.ref 5000, .int x, .int y, .int v, .int u] (setM z σ h) (some (.int (f_Manew σ x y v u R B K))) (setM z (u2 (u2 σ 5000 0 0) 5000 0 (t_anew x y v u R B K)) h) := by
  have t := ct_X14_anew hl (z := z) (σ := σ) hbs hfr hme hR hR5 hB hB6 hK hK60 ha9
  have e0 : u2 (u2 σ 5000 0 0) 5000 0 0 = u2 σ 5000 0 0 := by
    funext q i
    by_cases a : q = 5000
    · rw [a]
      by_cases b : i = 0
      · rw [b, u2_v, u2_v]
      · rw [u2_nj b]
    · rw [u2_ne a]
  unfold g_Manew at t
  unfold t_anew
  by_cases a1 : n_rd x K
  · by_cases a2 : n_lt y B
    · by_cases a3 : n_lt v R
      · by_cases a4 : n_bt u 0 5
        · have ha := ha9 a1 a2 a3 a4
          obtain ⟨m9, hm9, hc9⟩ := anew_out hK60 ha
          have e : setM z (u2 (g_MrunAnew (u2 σ 5000 0 0) (nI (rn x + 1)) (cn y) (cn v) u R B K) 8000 20 0) h = setM z (u2 σ 5000 0 0) h := setM_same (σ := u2 σ 5000 0 0) (mem_eq.frame8 (τ0 := u2 σ 5000 0 0) (mem_same0 hme) (fun q h9 => by rw [u2_ne (by omega)]; exact hc9.2.2.2.2.2 q h9) u2_v) (fun q h1 h2 => by
            rcases h1 with h1 | h1
            · rw [u2_ne (by omega)]; exact hc9.2.2.2.2.2 q (.inl h1)
            · rw [u2_ne (by omega)]; exact hc9.2.2.2.2.2 q (.inr (by omega)))
          rw [if_pos a1, if_pos a2, if_pos a3, if_pos a4, e] at t
          rw [if_pos a1, if_pos a2, if_pos a3, if_pos a4, e0]
          exact t
        · rw [if_pos a1, if_pos a2, if_pos a3, if_neg a4] at t
          rw [if_pos a1, if_pos a2, if_pos a3, if_neg a4]
          exact t
      · rw [if_pos a1, if_pos a2, if_neg a3] at t
        rw [if_pos a1, if_pos a2, if_neg a3]
        exact t
    · rw [if_pos a1, if_neg a2] at t
      rw [if_pos a1, if_neg a2]
      exact t
  · rw [if_neg a1] at t
    rw [if_neg a1]
    exact t
end
