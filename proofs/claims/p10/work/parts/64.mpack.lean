/-! ===== the reference packs stations ===== -/
theorem u2_s {σ : XS9} {r i j : Nat} {x : Int32} (h : j ≠ i) : u2 σ r i x r j = σ r j := u2_oi h
def x_MpkStep_3 (x : Int32) (fr C : Nat) (s0 : Nat) : Nat := xitB (fun i3 s3 => (if (nI C) ≤ (nI s3) then .inr s3 else (if ((x >>> ((nI s3) &&& 31)) &&& 1) = 0 then .inl (s3 + 1) else .inr s3))) (C - fr) 0 s0
def x_MpkStep_51 (σ : XS9) (f_rec : XS9 → Nat → Int32) (g_rec : XS9 → Nat → XS9) (x : Int32) (fr C : Nat) (rg : Nat → Nat) (qa ch : Nat) (s0 : XS9) : XS9 ⊕ (XS9 × Int32) := xitR (fun i51 s51 => (if (f_MisFree s51 (s51 qa i51) (x_MpkStep_3 x fr C fr) rg) = 0 then .inl s51 else (if (f_rec (u2 s51 qa i51 ((s51 qa i51) ||| (1 <<< ((nI ((x_MpkStep_3 x fr C fr))) &&& 31)))) ((x_MpkStep_3 x fr C fr) + 1)) = 0 then (if (((g_rec (u2 s51 qa i51 ((s51 qa i51) ||| (1 <<< ((nI ((x_MpkStep_3 x fr C fr))) &&& 31)))) ((x_MpkStep_3 x fr C fr) + 1)) qa i51) &&& ((1 <<< ((nI ((x_MpkStep_3 x fr C fr))) &&& 31)) ^^^ (-1))) = 0 then .inr (u2 (g_rec (u2 s51 qa i51 ((s51 qa i51) ||| (1 <<< ((nI ((x_MpkStep_3 x fr C fr))) &&& 31)))) ((x_MpkStep_3 x fr C fr) + 1)) qa i51 (((g_rec (u2 s51 qa i51 ((s51 qa i51) ||| (1 <<< ((nI ((x_MpkStep_3 x fr C fr))) &&& 31)))) ((x_MpkStep_3 x fr C fr) + 1)) qa i51) &&& ((1 <<< ((nI ((x_MpkStep_3 x fr C fr))) &&& 31)) ^^^ (-1))), 0) else .inl (u2 (g_rec (u2 s51 qa i51 ((s51 qa i51) ||| (1 <<< ((nI ((x_MpkStep_3 x fr C fr))) &&& 31)))) ((x_MpkStep_3 x fr C fr) + 1)) qa i51 (((g_rec (u2 s51 qa i51 ((s51 qa i51) ||| (1 <<< ((nI ((x_MpkStep_3 x fr C fr))) &&& 31)))) ((x_MpkStep_3 x fr C fr) + 1)) qa i51) &&& ((1 <<< ((nI ((x_MpkStep_3 x fr C fr))) &&& 31)) ^^^ (-1))))) else .inr (u2 (g_rec (u2 s51 qa i51 ((s51 qa i51) ||| (1 <<< ((nI ((x_MpkStep_3 x fr C fr))) &&& 31)))) ((x_MpkStep_3 x fr C fr) + 1)) qa i51 (((g_rec (u2 s51 qa i51 ((s51 qa i51) ||| (1 <<< ((nI ((x_MpkStep_3 x fr C fr))) &&& 31)))) ((x_MpkStep_3 x fr C fr) + 1)) qa i51) &&& ((1 <<< ((nI ((x_MpkStep_3 x fr C fr))) &&& 31)) ^^^ (-1))), 1)))) ch 0 s0
def f_MpkStep (σ : XS9) (f_rec : XS9 → Nat → Int32) (g_rec : XS9 → Nat → XS9) (x : Int32) (fr C : Nat) (rg : Nat → Nat) (qa ch : Nat) : Int32 := (if (nI ((x_MpkStep_3 x fr C fr))) = (nI C) then 1 else (match (x_MpkStep_51 σ f_rec g_rec x fr C rg qa ch σ) with | .inl s51 => 0 | .inr r51 => r51.2))
def g_MpkStep (σ : XS9) (f_rec : XS9 → Nat → Int32) (g_rec : XS9 → Nat → XS9) (x : Int32) (fr C : Nat) (rg : Nat → Nat) (qa ch : Nat) : XS9 := (if (nI ((x_MpkStep_3 x fr C fr))) = (nI C) then σ else (match (x_MpkStep_51 σ f_rec g_rec x fr C rg qa ch σ) with | .inl s51 => s51 | .inr r51 => r51.1))
theorem ct_MpkStep {l : Launch} {h : XH} (hl : l.stackTraces = false) {z : Int64} {σ : XS9} (hbs : xx_bs h) {R : Nat} (hR : σ 5001 900 = nI R) (hR5 : R ≤ 5) {C : Nat} (hS : σ 5004 900 = nI (2 * C)) (hC10 : C ≤ 10) {rg : Nat → Nat} (hrg : ∀ q, q < C → σ 5004 (2 * q) = nI (rg q) ∧ rg q < R) {qa ch : Nat} (hqa : 20000 ≤ qa ∧ qa < 20010) (hqf : σ qa 20 = nI 1) (hqn : σ qa 21 = nI ch) (hch : ch ≤ 6) {f_rec : XS9 → Nat → Int32} {g_rec : XS9 → Nat → XS9} (fr_rec : ∀ {σ : XS9} {fr q : Nat}, q ≠ qa → g_rec σ fr q = σ q) (fr_rec20 : ∀ {σ : XS9} {fr : Nat}, (g_rec σ fr qa 20 = σ qa 20) ∧ g_rec σ fr qa 21 = σ qa 21) {x : Int32} {fr : Nat} (hfr2 : fr ≤ C) {d0 : Nat} (hd0 : 6 ≤ d0) (ih : ∀ (σ : XS9) (fr1 : Nat), fr < fr1 → fr1 ≤ C → σ qa 20 = nI 1 → σ qa 21 = nI ch → σ 5001 900 = nI R → σ 5004 900 = nI (2 * C) → (∀ q, q < C → σ 5004 (2 * q) = nI (rg q) ∧ rg q < R) → XEx l m_X14_canPack d0 0 0 [.ref 5000, .int x, .int (nI fr1), .ref qa] (setM z σ h) (some (.int (f_rec σ fr1))) (setM z (g_rec σ fr1) h))  : XEx l m_X14_canPack (d0 + 1) 0 0 [.ref 5000, .int x, .int (nI fr), .ref qa] (setM z σ h) (some (.int (f_MpkStep σ f_rec g_rec x fr C rg qa ch))) (setM z (g_MpkStep σ f_rec g_rec x fr C rg qa ch) h) := by
  refine XMet.of hl rfl rfl (Nat.le_of_ble_eq_true rfl) (fun Y O hh hQ => ?_)
  show SW Y 0 0 (setM z σ h) 0 [.ref 5000, .int x, .int (nI fr), .ref qa, xx_d, xx_d, xx_d] []
  refine sw_iload_n O (xx_dt dd_X14_canPack 0 rfl) rfl ?_
  refine sw_istore (ls2 := [.ref 5000, .int x, .int (nI fr), .ref qa, .int (nI fr), xx_d, xx_d]) O (xx_dt dd_X14_canPack 1 rfl) (by decide) rfl ?_
  refine sw_forB (S := Nat) (fun i3 s3 => (if (nI C) ≤ (nI s3) then .inr s3 else (if ((x >>> ((nI s3) &&& 31)) &&& 1) = 0 then .inl (s3 + 1) else .inr s3))) (fun i s => s = fr + i) (fun (s : Nat) => fr ≤ s ∧ s ≤ C) (hp := fun _ => setM z σ h) (hd := 3) (lc := fun i3 s3 => [.ref 5000, .int x, .int (nI fr), .ref qa, .int (nI s3), xx_d, xx_d]) (ex := 32) (lx := fun s3 => [.ref 5000, .int x, .int (nI fr), .ref qa, .int (nI s3), xx_d, xx_d]) (N := (C - fr)) (fun i3 s3 hi3 hP3 => ⟨⟨(by intro s' e'; revert e'; (try dsimp only); (repeat' split) <;> intro e' <;> first | (cases e'; done) | (have e9 := Sum.inl.inj e'; subst e9; have h9 : s3 = fr + i3 := hP3; show s3 + 1 = fr + (i3 + 1); omega)), (by intro s' e'; revert e'; (try dsimp only); (repeat' split) <;> intro e' <;> first | (cases e'; done) | (have e9 := Sum.inr.inj e'; subst e9; have h9 : s3 = fr + i3 := hP3; exact ⟨by omega, by omega⟩))⟩, fun kk3 kb3 => ?_⟩) (fun s3 hP3 => ⟨(show fr ≤ s3 ∧ s3 ≤ C from by have h9 : s3 = fr + (C - fr) := hP3; omega), fun kx3 => ?_⟩) (C - fr) 0 fr (by omega) (rfl) (fun hP3 => ?_)
  · refine sw_iload O (xx_dt dd_X14_canPack 2 rfl) rfl ?_
    refine sw_aload_n O (xx_dt dd_X14_canPack 3 rfl) rfl ?_
    refine sw_get (v := .ref 5004) O (xx_dt dd_X14_canPack 4 rfl) cl_X14 fl_X14_33 (lm_mod (σ := σ)) (by decide) rfl ?_
    refine sw_callVL (ci := 6) (as := []) (st := [.int (nI s3)]) (st2 := [.int (nI (2 * C)), .int (nI s3)]) O (ct_AL_size hl (lm_5004 (σ := σ) (S := 2 * C) hS (by omega))) ce_Jx4a65c_size_8abf5 ml_X14_57 iv_Jx4a65c_size_8abf5 cl_Jx4a65c rfl (lm_5004 (σ := σ) (S := 2 * C) hS (by omega)) (xx_dt dd_X14_canPack 5 rfl) (by omega) rfl rfl (Nat.le_of_ble_eq_true rfl) rfl ?_
    refine sw_iconst (x := 2) O (xx_dt dd_X14_canPack 6 rfl) (by decide) ?_
    refine sw_idiv O (xx_dt dd_X14_canPack 7 rfl) (by first | decide | assumption) ?_
    have hx13 := trivial
    rw [nI_half (by omega)]
    have h9 : s3 = fr + i3 := hP3
    refine sw_icmp_ge (tgt := 32) O (xx_dt dd_X14_canPack 8 rfl) (by decide) (fun q2 => ?_) (fun q2 => ?_)
    · have hfq2 : C ≤ s3 := (nI_leI (a := C) (b := s3) (by omega) (by omega)).mp q2
      exact kb3 s3 (by simp only [if_pos q2])
    · have hfq2 : ¬ C ≤ s3 := fun e => q2 ((nI_leI (a := C) (b := s3) (by omega) (by omega)).mpr e)
      refine sw_iload_n O (xx_dt dd_X14_canPack 9 rfl) rfl ?_
      refine sw_iload O (xx_dt dd_X14_canPack 10 rfl) rfl ?_
      refine sw_ishr O (xx_dt dd_X14_canPack 11 rfl) ?_
      refine sw_iconst (x := 1) O (xx_dt dd_X14_canPack 12 rfl) (by decide) ?_
      refine sw_iand O (xx_dt dd_X14_canPack 13 rfl) ?_
      refine sw_if_ne (tgt := 32) O (xx_dt dd_X14_canPack 14 rfl) (by decide) (fun q3 => ?_) (fun q3 => ?_)
      · exact kb3 s3 (by simp only [if_neg q2, if_neg q3])
      · refine sw_iinc (y := nI (s3 + 1)) (ls2 := [.ref 5000, .int x, .int (nI fr), .ref qa, .int (nI (s3 + 1)), xx_d, xx_d]) O (xx_dt dd_X14_canPack 15 rfl) rfl (nI_1 _) (by decide) rfl ?_
        refine sw_goto (tgt := 3) O (xx_dt dd_X14_canPack 16 rfl) (by decide) ?_
        exact kk3 (s3 + 1) (by simp only [if_neg q2, if_pos q3])
  · show SW Y _ _ (setM z σ h) 3 [.ref 5000, .int x, .int (nI fr), .ref qa, .int (nI s3), xx_d, xx_d] []
    have hZ3 := hP3
    refine sw_iload O (xx_dt dd_X14_canPack 2 rfl) rfl ?_
    refine sw_aload_n O (xx_dt dd_X14_canPack 3 rfl) rfl ?_
    refine sw_get (v := .ref 5004) O (xx_dt dd_X14_canPack 4 rfl) cl_X14 fl_X14_33 (lm_mod (σ := σ)) (by decide) rfl ?_
    refine sw_callVL (ci := 6) (as := []) (st := [.int (nI s3)]) (st2 := [.int (nI (2 * C)), .int (nI s3)]) O (ct_AL_size hl (lm_5004 (σ := σ) (S := 2 * C) hS (by omega))) ce_Jx4a65c_size_8abf5 ml_X14_57 iv_Jx4a65c_size_8abf5 cl_Jx4a65c rfl (lm_5004 (σ := σ) (S := 2 * C) hS (by omega)) (xx_dt dd_X14_canPack 5 rfl) (by omega) rfl rfl (Nat.le_of_ble_eq_true rfl) rfl ?_
    refine sw_iconst (x := 2) O (xx_dt dd_X14_canPack 6 rfl) (by decide) ?_
    refine sw_idiv O (xx_dt dd_X14_canPack 7 rfl) (by first | decide | assumption) ?_
    have hx13 := trivial
    rw [nI_half (by omega)]
    refine sw_icmp_ge (tgt := 32) O (xx_dt dd_X14_canPack 8 rfl) (by decide) (fun q1 => ?_) (fun q1 => ?_)
    · exact kx3
    · exact absurd ((nI_leI (a := C) (b := s3) (by omega) (by have h9 : s3 = fr + (C - fr) := hP3; omega)).mpr (by have h9 : s3 = fr + (C - fr) := hP3; omega)) q1
  · show SW Y _ _ (setM z σ h) 32 [.ref 5000, .int x, .int (nI fr), .ref qa, .int (nI ((x_MpkStep_3 x fr C fr))), xx_d, xx_d] []
    refine sw_iload O (xx_dt dd_X14_canPack 17 rfl) rfl ?_
    refine sw_aload_n O (xx_dt dd_X14_canPack 18 rfl) rfl ?_
    refine sw_get (v := .ref 5004) O (xx_dt dd_X14_canPack 19 rfl) cl_X14 fl_X14_33 (lm_mod (σ := σ)) (by decide) rfl ?_
    refine sw_callVL (ci := 6) (as := []) (st := [.int (nI ((x_MpkStep_3 x fr C fr)))]) (st2 := [.int (nI (2 * C)), .int (nI ((x_MpkStep_3 x fr C fr)))]) O (ct_AL_size hl (lm_5004 (σ := σ) (S := 2 * C) hS (by omega))) ce_Jx4a65c_size_8abf5 ml_X14_57 iv_Jx4a65c_size_8abf5 cl_Jx4a65c rfl (lm_5004 (σ := σ) (S := 2 * C) hS (by omega)) (xx_dt dd_X14_canPack 20 rfl) (by omega) rfl rfl (Nat.le_of_ble_eq_true rfl) rfl ?_
    refine sw_iconst (x := 2) O (xx_dt dd_X14_canPack 21 rfl) (by decide) ?_
    refine sw_idiv O (xx_dt dd_X14_canPack 22 rfl) (by first | decide | assumption) ?_
    have hx42 := trivial
    rw [nI_half (by omega)]
    refine sw_icmp_ne (tgt := 48) O (xx_dt dd_X14_canPack 23 rfl) (by decide) (fun q4 => ?_) (fun q4 => ?_)
    · have hs9 : (x_MpkStep_3 x fr C fr) < C := by
        have h8 : (x_MpkStep_3 x fr C fr) ≤ C := hP3.2
        rcases Nat.lt_or_ge (x_MpkStep_3 x fr C fr) C with h7 | h7
        · exact h7
        · exact absurd (congrArg nI (Nat.le_antisymm h8 h7)) q4
      have hs8 : fr ≤ (x_MpkStep_3 x fr C fr) := hP3.1
      refine sw_iconst (x := 0) O (xx_dt dd_X14_canPack 26 rfl) (by decide) ?_
      refine sw_istore (ls2 := [.ref 5000, .int x, .int (nI fr), .ref qa, .int (nI ((x_MpkStep_3 x fr C fr))), .int 0, xx_d]) O (xx_dt dd_X14_canPack 27 rfl) (by decide) rfl ?_
      refine sw_forR (S := XS9) (R := (XS9 × Int32)) (fun i51 s51 => (if (f_MisFree s51 (s51 qa i51) (x_MpkStep_3 x fr C fr) rg) = 0 then .inl s51 else (if (f_rec (u2 s51 qa i51 ((s51 qa i51) ||| (1 <<< ((nI ((x_MpkStep_3 x fr C fr))) &&& 31)))) ((x_MpkStep_3 x fr C fr) + 1)) = 0 then (if (((g_rec (u2 s51 qa i51 ((s51 qa i51) ||| (1 <<< ((nI ((x_MpkStep_3 x fr C fr))) &&& 31)))) ((x_MpkStep_3 x fr C fr) + 1)) qa i51) &&& ((1 <<< ((nI ((x_MpkStep_3 x fr C fr))) &&& 31)) ^^^ (-1))) = 0 then .inr (u2 (g_rec (u2 s51 qa i51 ((s51 qa i51) ||| (1 <<< ((nI ((x_MpkStep_3 x fr C fr))) &&& 31)))) ((x_MpkStep_3 x fr C fr) + 1)) qa i51 (((g_rec (u2 s51 qa i51 ((s51 qa i51) ||| (1 <<< ((nI ((x_MpkStep_3 x fr C fr))) &&& 31)))) ((x_MpkStep_3 x fr C fr) + 1)) qa i51) &&& ((1 <<< ((nI ((x_MpkStep_3 x fr C fr))) &&& 31)) ^^^ (-1))), 0) else .inl (u2 (g_rec (u2 s51 qa i51 ((s51 qa i51) ||| (1 <<< ((nI ((x_MpkStep_3 x fr C fr))) &&& 31)))) ((x_MpkStep_3 x fr C fr) + 1)) qa i51 (((g_rec (u2 s51 qa i51 ((s51 qa i51) ||| (1 <<< ((nI ((x_MpkStep_3 x fr C fr))) &&& 31)))) ((x_MpkStep_3 x fr C fr) + 1)) qa i51) &&& ((1 <<< ((nI ((x_MpkStep_3 x fr C fr))) &&& 31)) ^^^ (-1))))) else .inr (u2 (g_rec (u2 s51 qa i51 ((s51 qa i51) ||| (1 <<< ((nI ((x_MpkStep_3 x fr C fr))) &&& 31)))) ((x_MpkStep_3 x fr C fr) + 1)) qa i51 (((g_rec (u2 s51 qa i51 ((s51 qa i51) ||| (1 <<< ((nI ((x_MpkStep_3 x fr C fr))) &&& 31)))) ((x_MpkStep_3 x fr C fr) + 1)) qa i51) &&& ((1 <<< ((nI ((x_MpkStep_3 x fr C fr))) &&& 31)) ^^^ (-1))), 1)))) (fun _ s51 => s51 qa 20 = nI 1 ∧ s51 qa 21 = nI ch ∧ (∀ q, q ≠ qa → s51 q = σ q)) (FR := fun r9 => f_MpkStep σ f_rec g_rec x fr C rg qa ch = r9.2 ∧ g_MpkStep σ f_rec g_rec x fr C rg qa ch = r9.1) (hp := fun s51 => setM z s51 h) (hd := 51) (lc := fun i51 s51 => [.ref 5000, .int x, .int (nI fr), .ref qa, .int (nI ((x_MpkStep_3 x fr C fr))), .int (nI i51), xx_d]) (N := ch) (fun i51 s51 hi51 hP51 => ⟨(by intro s' e'; revert e'; (try dsimp only); (repeat' split) <;> intro e' <;> first | (cases e'; done) | (have e9 := Sum.inl.inj e'; subst e9; (refine ⟨?_, ?_, ?_⟩ <;> (first | exact hP51.1 | exact hP51.2.1 | exact hP51.2.2 | exact (by rw [u2_oi (by omega)]; first | exact hP51.1 | exact hP51.2.1) | exact (by first | (simp (disch := omega) only [fr_rec20.1, fr_rec20.2, u2_s]; first | exact hP51.1 | exact hP51.2.1)) | exact (fun q9 hq9 => by (simp (disch := omega) only [u2_ne, uR_ne, fr_fill, fr_Ctake, fr_rec]); exact hP51.2.2 q9 hq9) | exact hi51 | exact .inl rfl | exact .inr rfl | (simp (disch := omega) only [u2_ne, uR_ne, fr_fill, fr_Ctake, fr_rec]; first | exact hP51.1 | exact hP51.2.1 | exact hP51.2.2 | exact (by rw [u2_oi (by omega)]; first | exact hP51.1 | exact hP51.2.1) | exact (by first | (simp (disch := omega) only [fr_rec20.1, fr_rec20.2, u2_s]; first | exact hP51.1 | exact hP51.2.1)) | exact (fun q9 hq9 => by (simp (disch := omega) only [u2_ne, uR_ne, fr_fill, fr_Ctake, fr_rec]); exact hP51.2.2 q9 hq9))))) | (have e9 := Sum.inr.inj e'; subst e9; (refine ⟨?_, ?_, ?_⟩ <;> (first | exact hP51.1 | exact hP51.2.1 | exact hP51.2.2 | exact (by rw [u2_oi (by omega)]; first | exact hP51.1 | exact hP51.2.1) | exact (by first | (simp (disch := omega) only [fr_rec20.1, fr_rec20.2, u2_s]; first | exact hP51.1 | exact hP51.2.1)) | exact (fun q9 hq9 => by (simp (disch := omega) only [u2_ne, uR_ne, fr_fill, fr_Ctake, fr_rec]); exact hP51.2.2 q9 hq9) | exact hi51 | exact .inl rfl | exact .inr rfl | (simp (disch := omega) only [u2_ne, uR_ne, fr_fill, fr_Ctake, fr_rec]; first | exact hP51.1 | exact hP51.2.1 | exact hP51.2.2 | exact (by rw [u2_oi (by omega)]; first | exact hP51.1 | exact hP51.2.1) | exact (by first | (simp (disch := omega) only [fr_rec20.1, fr_rec20.2, u2_s]; first | exact hP51.1 | exact hP51.2.1)) | exact (fun q9 hq9 => by (simp (disch := omega) only [u2_ne, uR_ne, fr_fill, fr_Ctake, fr_rec]); exact hP51.2.2 q9 hq9)))))), fun kk51 kr51 => ?_⟩) ch 0 σ (by omega) (⟨(show σ qa 20 = nI 1 from hqf), (show σ qa 21 = nI ch from hqn), (fun _ _ => rfl)⟩) (fun sN51 eN51 hP51 => ?_) (fun r51 eN51 => ?_)
      · refine sw_iload O (xx_dt dd_X14_canPack 28 rfl) rfl ?_
        refine sw_aload_n O (xx_dt dd_X14_canPack 29 rfl) rfl ?_
        refine sw_alen O (xx_dt dd_X14_canPack 30 rfl) (by omega) (by omega) ((lm_tmp (z := z) (σ := s51) (h := h) (q := qa) (by omega) (fl1 hP51.1) hP51.2.1 (by omega)).get _) ?_
        refine sw_icmp_ge (tgt := 132) O (xx_dt dd_X14_canPack 31 rfl) (by decide) (fun q5 => ?_) (fun q5 => ?_)
        · exact absurd q5 (nI_ge (b := ch) hi51 (by omega))
        · refine sw_aload_n O (xx_dt dd_X14_canPack 32 rfl) rfl ?_
          refine sw_aload_n O (xx_dt dd_X14_canPack 33 rfl) rfl ?_
          refine sw_iload O (xx_dt dd_X14_canPack 34 rfl) rfl ?_
          refine sw_iaload (v := .int (s51 qa i51)) O (xx_dt dd_X14_canPack 35 rfl) ((lm_tmp (z := z) (σ := s51) (h := h) (q := qa) (by omega) (fl1 hP51.1) hP51.2.1 (by omega)).get _) (pk_in i51 _ (by omega)) (by rw [nI_clamp (by omega)]; try exact rfl) ?_
          refine sw_iload O (xx_dt dd_X14_canPack 36 rfl) rfl ?_
          refine sw_callVx (as := [.int (s51 qa i51), .int (nI ((x_MpkStep_3 x fr C fr)))]) (st := []) (st2 := [.int (f_MisFree s51 (s51 qa i51) (x_MpkStep_3 x fr C fr) rg)]) O (ct_X14_isFree hl (z := z) (σ := s51) hbs (R := R) ((congrFun (hP51.2.2 _ (by omega)) 900).trans hR) (by omega) (C := C) ((congrFun (hP51.2.2 _ (by omega)) 900).trans hS) (by omega) (rg := rg) (fun j9 hj9 => by rw [show s51 5004 = σ 5004 from (hP51.2.2 _ (by omega))]; exact hrg j9 hj9) (x := s51 qa i51) (j := (x_MpkStep_3 x fr C fr)) (by omega)) ce_X14_isFree ml_X14_268 iv_X14_isFree cl_X14 rfl (lm_mod (σ := s51)) (xx_dt dd_X14_canPack 37 rfl) (by omega) rfl rfl (Nat.le_of_ble_eq_true rfl) rfl ?_
          refine sw_if_ne (tgt := 74) O (xx_dt dd_X14_canPack 38 rfl) (by decide) (fun q6 => ?_) (fun q6 => ?_)
          · refine sw_aload_n O (xx_dt dd_X14_canPack 40 rfl) rfl ?_
            refine sw_iload O (xx_dt dd_X14_canPack 41 rfl) rfl ?_
            refine sw_dup2 O (xx_dt dd_X14_canPack 42 rfl) rfl rfl ?_
            refine sw_iaload (v := .int (s51 qa i51)) O (xx_dt dd_X14_canPack 43 rfl) ((lm_tmp (z := z) (σ := s51) (h := h) (q := qa) (by omega) (fl1 hP51.1) hP51.2.1 (by omega)).get _) (pk_in i51 _ (by omega)) (by rw [nI_clamp (by omega)]; try exact rfl) ?_
            refine sw_iconst (x := 1) O (xx_dt dd_X14_canPack 44 rfl) (by decide) ?_
            refine sw_iload O (xx_dt dd_X14_canPack 45 rfl) rfl ?_
            refine sw_ishl O (xx_dt dd_X14_canPack 46 rfl) ?_
            refine sw_ior O (xx_dt dd_X14_canPack 47 rfl) ?_
            refine sw_iastore (h2 := setM z (u2 s51 qa i51 ((s51 qa i51) ||| (1 <<< ((nI ((x_MpkStep_3 x fr C fr))) &&& 31)))) h) O (xx_dt dd_X14_canPack 48 rfl) ((lm_tmp (z := z) (σ := s51) (h := h) (q := qa) (by omega) (fl1 hP51.1) hP51.2.1 (by omega)).get _) (pk_in i51 _ (by omega)) (by omega) (by rw [nI_clamp (by omega)]; exact ((lm_tmp (z := z) (σ := s51) (h := h) (q := qa) (by omega) (fl1 hP51.1) hP51.2.1 (by omega)).put (by omega))) ?_
            refine sw_aload_n O (xx_dt dd_X14_canPack 49 rfl) rfl ?_
            refine sw_iload_n O (xx_dt dd_X14_canPack 50 rfl) rfl ?_
            refine sw_iload O (xx_dt dd_X14_canPack 51 rfl) rfl ?_
            refine sw_iconst (x := 1) O (xx_dt dd_X14_canPack 52 rfl) (by decide) ?_
            refine sw_iadd O (xx_dt dd_X14_canPack 53 rfl) ?_
            rw [nI_a1 (x_MpkStep_3 x fr C fr)]
            refine sw_aload_n O (xx_dt dd_X14_canPack 54 rfl) rfl ?_
            refine sw_callVx (as := [.int x, .int (nI ((x_MpkStep_3 x fr C fr) + 1)), .ref qa]) (st := []) (st2 := [.int (f_rec (u2 s51 qa i51 ((s51 qa i51) ||| (1 <<< ((nI ((x_MpkStep_3 x fr C fr))) &&& 31)))) ((x_MpkStep_3 x fr C fr) + 1))]) O (ih (u2 s51 qa i51 ((s51 qa i51) ||| (1 <<< ((nI ((x_MpkStep_3 x fr C fr))) &&& 31)))) ((x_MpkStep_3 x fr C fr) + 1) (by omega) (by omega) ((u2_oi (by omega)).trans hP51.1) ((u2_oi (by omega)).trans hP51.2.1) (((congrFun (u2_ne (by omega)) 900).trans (congrFun (hP51.2.2 _ (by omega)) 900)).trans hR) (((congrFun (u2_ne (by omega)) 900).trans (congrFun (hP51.2.2 _ (by omega)) 900)).trans hS) (fun j9 hj9 => by rw [show (u2 s51 qa i51 ((s51 qa i51) ||| (1 <<< ((nI ((x_MpkStep_3 x fr C fr))) &&& 31)))) 5004 = σ 5004 from ((u2_ne (by omega)).trans (hP51.2.2 _ (by omega)))]; exact hrg j9 hj9)) ce_X14_canPack ml_X14_272 iv_X14_canPack cl_X14 rfl (lm_mod (σ := u2 s51 qa i51 ((s51 qa i51) ||| (1 <<< ((nI ((x_MpkStep_3 x fr C fr))) &&& 31))))) (xx_dt dd_X14_canPack 55 rfl) (by omega) rfl rfl (Nat.le_of_ble_eq_true rfl) rfl ?_
            refine sw_istore (ls2 := [.ref 5000, .int x, .int (nI fr), .ref qa, .int (nI ((x_MpkStep_3 x fr C fr))), .int (nI i51), .int (f_rec (u2 s51 qa i51 ((s51 qa i51) ||| (1 <<< ((nI ((x_MpkStep_3 x fr C fr))) &&& 31)))) ((x_MpkStep_3 x fr C fr) + 1))]) O (xx_dt dd_X14_canPack 56 rfl) (by decide) rfl ?_
            refine sw_aload_n O (xx_dt dd_X14_canPack 57 rfl) rfl ?_
            refine sw_iload O (xx_dt dd_X14_canPack 58 rfl) rfl ?_
            refine sw_dup2 O (xx_dt dd_X14_canPack 59 rfl) rfl rfl ?_
            refine sw_iaload (v := .int ((g_rec (u2 s51 qa i51 ((s51 qa i51) ||| (1 <<< ((nI ((x_MpkStep_3 x fr C fr))) &&& 31)))) ((x_MpkStep_3 x fr C fr) + 1)) qa i51)) O (xx_dt dd_X14_canPack 60 rfl) ((lm_tmp (z := z) (σ := g_rec (u2 s51 qa i51 ((s51 qa i51) ||| (1 <<< ((nI ((x_MpkStep_3 x fr C fr))) &&& 31)))) ((x_MpkStep_3 x fr C fr) + 1)) (h := h) (q := qa) (by omega) (fl1 (((fr_rec20.1).trans (u2_oi (by omega))).trans hP51.1)) (((fr_rec20.2).trans (u2_oi (by omega))).trans hP51.2.1) (by omega)).get _) (pk_in i51 _ (by omega)) (by rw [nI_clamp (by omega)]; try exact rfl) ?_
            refine sw_iconst (x := 1) O (xx_dt dd_X14_canPack 61 rfl) (by decide) ?_
            refine sw_iload O (xx_dt dd_X14_canPack 62 rfl) rfl ?_
            refine sw_ishl O (xx_dt dd_X14_canPack 63 rfl) ?_
            refine sw_iconst (x := (-1)) O (xx_dt dd_X14_canPack 64 rfl) (by decide) ?_
            refine sw_ixor O (xx_dt dd_X14_canPack 65 rfl) ?_
            refine sw_iand O (xx_dt dd_X14_canPack 66 rfl) ?_
            refine sw_iastore (h2 := setM z (u2 (g_rec (u2 s51 qa i51 ((s51 qa i51) ||| (1 <<< ((nI ((x_MpkStep_3 x fr C fr))) &&& 31)))) ((x_MpkStep_3 x fr C fr) + 1)) qa i51 (((g_rec (u2 s51 qa i51 ((s51 qa i51) ||| (1 <<< ((nI ((x_MpkStep_3 x fr C fr))) &&& 31)))) ((x_MpkStep_3 x fr C fr) + 1)) qa i51) &&& ((1 <<< ((nI ((x_MpkStep_3 x fr C fr))) &&& 31)) ^^^ (-1)))) h) O (xx_dt dd_X14_canPack 67 rfl) ((lm_tmp (z := z) (σ := g_rec (u2 s51 qa i51 ((s51 qa i51) ||| (1 <<< ((nI ((x_MpkStep_3 x fr C fr))) &&& 31)))) ((x_MpkStep_3 x fr C fr) + 1)) (h := h) (q := qa) (by omega) (fl1 (((fr_rec20.1).trans (u2_oi (by omega))).trans hP51.1)) (((fr_rec20.2).trans (u2_oi (by omega))).trans hP51.2.1) (by omega)).get _) (pk_in i51 _ (by omega)) (by omega) (by rw [nI_clamp (by omega)]; exact ((lm_tmp (z := z) (σ := g_rec (u2 s51 qa i51 ((s51 qa i51) ||| (1 <<< ((nI ((x_MpkStep_3 x fr C fr))) &&& 31)))) ((x_MpkStep_3 x fr C fr) + 1)) (h := h) (q := qa) (by omega) (fl1 (((fr_rec20.1).trans (u2_oi (by omega))).trans hP51.1)) (((fr_rec20.2).trans (u2_oi (by omega))).trans hP51.2.1) (by omega)).put (by omega))) ?_
            refine sw_iload O (xx_dt dd_X14_canPack 68 rfl) rfl ?_
            refine sw_if_eq (tgt := 117) O (xx_dt dd_X14_canPack 69 rfl) (by decide) (fun q7 => ?_) (fun q7 => ?_)
            · refine sw_aload_n O (xx_dt dd_X14_canPack 72 rfl) rfl ?_
              refine sw_iload O (xx_dt dd_X14_canPack 73 rfl) rfl ?_
              refine sw_iaload (v := .int (((g_rec (u2 s51 qa i51 ((s51 qa i51) ||| (1 <<< ((nI ((x_MpkStep_3 x fr C fr))) &&& 31)))) ((x_MpkStep_3 x fr C fr) + 1)) qa i51) &&& ((1 <<< ((nI ((x_MpkStep_3 x fr C fr))) &&& 31)) ^^^ (-1)))) O (xx_dt dd_X14_canPack 74 rfl) ((lm_tmp (z := z) (σ := u2 (g_rec (u2 s51 qa i51 ((s51 qa i51) ||| (1 <<< ((nI ((x_MpkStep_3 x fr C fr))) &&& 31)))) ((x_MpkStep_3 x fr C fr) + 1)) qa i51 (((g_rec (u2 s51 qa i51 ((s51 qa i51) ||| (1 <<< ((nI ((x_MpkStep_3 x fr C fr))) &&& 31)))) ((x_MpkStep_3 x fr C fr) + 1)) qa i51) &&& ((1 <<< ((nI ((x_MpkStep_3 x fr C fr))) &&& 31)) ^^^ (-1)))) (h := h) (q := qa) (by omega) (fl1 ((((u2_oi (by omega)).trans (fr_rec20.1)).trans (u2_oi (by omega))).trans hP51.1)) ((((u2_oi (by omega)).trans (fr_rec20.2)).trans (u2_oi (by omega))).trans hP51.2.1) (by omega)).get _) (pk_in i51 _ (by omega)) (by rw [nI_clamp (by omega)]; exact (congrArg Value.int u2_at)) ?_
              refine sw_if_ne (tgt := 126) O (xx_dt dd_X14_canPack 75 rfl) (by decide) (fun q8 => ?_) (fun q8 => ?_)
              · refine sw_iinc (y := nI (i51 + 1)) (ls2 := [.ref 5000, .int x, .int (nI fr), .ref qa, .int (nI ((x_MpkStep_3 x fr C fr))), .int (nI (i51 + 1)), .int (f_rec (u2 s51 qa i51 ((s51 qa i51) ||| (1 <<< ((nI ((x_MpkStep_3 x fr C fr))) &&& 31)))) ((x_MpkStep_3 x fr C fr) + 1))]) O (xx_dt dd_X14_canPack 78 rfl) rfl (nI_1 _) (by decide) rfl ?_
                refine sw_goto (tgt := 51) O (xx_dt dd_X14_canPack 79 rfl) (by decide) ?_
                refine sw_dum (ls2 := [.ref 5000, .int x, .int (nI fr), .ref qa, .int (nI ((x_MpkStep_3 x fr C fr))), .int (nI (i51 + 1)), xx_d]) ⟨.inr rfl, .inr rfl, .inr rfl, .inr rfl, .inr rfl, .inr rfl, .inl rfl, trivial⟩ ?_
                exact kk51 (u2 (g_rec (u2 s51 qa i51 ((s51 qa i51) ||| (1 <<< ((nI ((x_MpkStep_3 x fr C fr))) &&& 31)))) ((x_MpkStep_3 x fr C fr) + 1)) qa i51 (((g_rec (u2 s51 qa i51 ((s51 qa i51) ||| (1 <<< ((nI ((x_MpkStep_3 x fr C fr))) &&& 31)))) ((x_MpkStep_3 x fr C fr) + 1)) qa i51) &&& ((1 <<< ((nI ((x_MpkStep_3 x fr C fr))) &&& 31)) ^^^ (-1)))) (by simp only [if_neg q6, if_pos q7, if_neg q8])
              · refine sw_iconst (x := 0) O (xx_dt dd_X14_canPack 76 rfl) (by decide) ?_
                have kz := kr51 (u2 (g_rec (u2 s51 qa i51 ((s51 qa i51) ||| (1 <<< ((nI ((x_MpkStep_3 x fr C fr))) &&& 31)))) ((x_MpkStep_3 x fr C fr) + 1)) qa i51 (((g_rec (u2 s51 qa i51 ((s51 qa i51) ||| (1 <<< ((nI ((x_MpkStep_3 x fr C fr))) &&& 31)))) ((x_MpkStep_3 x fr C fr) + 1)) qa i51) &&& ((1 <<< ((nI ((x_MpkStep_3 x fr C fr))) &&& 31)) ^^^ (-1))), 0) (by simp only [if_neg q6, if_pos q7, if_pos q8])
                exact sw_iret O (xx_dt dd_X14_canPack 77 rfl) rfl rfl (by rw [hQ, kz.1, kz.2]; exact ⟨rfl, rfl⟩)
            · refine sw_iconst (x := 1) O (xx_dt dd_X14_canPack 70 rfl) (by decide) ?_
              have kz := kr51 (u2 (g_rec (u2 s51 qa i51 ((s51 qa i51) ||| (1 <<< ((nI ((x_MpkStep_3 x fr C fr))) &&& 31)))) ((x_MpkStep_3 x fr C fr) + 1)) qa i51 (((g_rec (u2 s51 qa i51 ((s51 qa i51) ||| (1 <<< ((nI ((x_MpkStep_3 x fr C fr))) &&& 31)))) ((x_MpkStep_3 x fr C fr) + 1)) qa i51) &&& ((1 <<< ((nI ((x_MpkStep_3 x fr C fr))) &&& 31)) ^^^ (-1))), 1) (by simp only [if_neg q6, if_neg q7])
              exact sw_iret O (xx_dt dd_X14_canPack 71 rfl) rfl rfl (by rw [hQ, kz.1, kz.2]; exact ⟨rfl, rfl⟩)
          · refine sw_goto (tgt := 126) O (xx_dt dd_X14_canPack 39 rfl) (by decide) ?_
            refine sw_iinc (y := nI (i51 + 1)) (ls2 := [.ref 5000, .int x, .int (nI fr), .ref qa, .int (nI ((x_MpkStep_3 x fr C fr))), .int (nI (i51 + 1)), xx_d]) O (xx_dt dd_X14_canPack 78 rfl) rfl (nI_1 _) (by decide) rfl ?_
            refine sw_goto (tgt := 51) O (xx_dt dd_X14_canPack 79 rfl) (by decide) ?_
            exact kk51 s51 (by simp only [if_pos q6])
      · show SW Y _ _ (setM z sN51 h) 51 [.ref 5000, .int x, .int (nI fr), .ref qa, .int (nI ((x_MpkStep_3 x fr C fr))), .int (nI ch), xx_d] []
        refine sw_iload O (xx_dt dd_X14_canPack 28 rfl) rfl ?_
        refine sw_aload_n O (xx_dt dd_X14_canPack 29 rfl) rfl ?_
        refine sw_alen O (xx_dt dd_X14_canPack 30 rfl) (by omega) (by omega) ((lm_tmp (z := z) (σ := sN51) (h := h) (q := qa) (by omega) (fl1 hP51.1) hP51.2.1 (by omega)).get _) ?_
        refine sw_icmp_ge (tgt := 132) O (xx_dt dd_X14_canPack 31 rfl) (by decide) (fun q5 => ?_) (fun q5 => ?_)
        · refine sw_iconst (x := 0) O (xx_dt dd_X14_canPack 80 rfl) (by decide) ?_
          exact sw_iret O (xx_dt dd_X14_canPack 81 rfl) rfl rfl (by rw [hQ]; exact ⟨by unfold f_MpkStep; simp only [if_neg q4, x_MpkStep_51, eN51], by unfold g_MpkStep; simp only [if_neg q4, x_MpkStep_51, eN51]⟩)
        · exact absurd (Int32.le_refl _) q5
      · exact ⟨by unfold f_MpkStep; simp only [if_neg q4, x_MpkStep_51, eN51], by unfold g_MpkStep; simp only [if_neg q4, x_MpkStep_51, eN51]⟩
    · refine sw_iconst (x := 1) O (xx_dt dd_X14_canPack 24 rfl) (by decide) ?_
      exact sw_iret O (xx_dt dd_X14_canPack 25 rfl) rfl rfl (by rw [hQ]; exact ⟨by unfold f_MpkStep; simp only [if_pos q4], by unfold g_MpkStep; simp only [if_pos q4]⟩)
theorem xitR_keepN {S R : Type} {step : Nat → S → S ⊕ R} {A : Type} (π : S → A) (πR : R → A) {N : Nat} (h : ∀ i s, i < N → (∀ s', step i s = .inl s' → π s' = π s) ∧ ∀ r, step i s = .inr r → πR r = π s) : ∀ (f i : Nat) (s : S), i + f = N → (∀ s', xitR step f i s = .inl s' → π s' = π s) ∧ ∀ r, xitR step f i s = .inr r → πR r = π s
  | 0, _, _, _ => ⟨fun s' e => by rw [← Sum.inl.inj e], fun r e => by cases e⟩
  | f + 1, i, s, hN => by
    unfold xitR
    cases e : step i s with
    | inl s' =>
      have := xitR_keepN π πR h f (i + 1) s' (by omega)
      exact ⟨fun t q => (this.1 t q).trans ((h i s (by omega)).1 s' e), fun r q => (this.2 r q).trans ((h i s (by omega)).1 s' e)⟩
    | inr r => exact ⟨fun t q => (by cases q), fun t q => by rw [← Sum.inr.inj q]; exact (h i s (by omega)).2 r e⟩
theorem fr_MpkStep {σ : XS9} {f_rec : XS9 → Nat → Int32} {g_rec : XS9 → Nat → XS9} {x : Int32} {fr C : Nat} {rg : Nat → Nat} {qa ch : Nat} (fr_rec : ∀ {σ : XS9} {fr q : Nat}, q ≠ qa → g_rec σ fr q = σ q) (fr_rec20 : ∀ {σ : XS9} {fr : Nat}, (g_rec σ fr qa 20 = σ qa 20) ∧ g_rec σ fr qa 21 = σ qa 21) (hch : ch ≤ 6) : (∀ q, q ≠ qa → g_MpkStep σ f_rec g_rec x fr C rg qa ch q = σ q) ∧ (g_MpkStep σ f_rec g_rec x fr C rg qa ch qa 20 = σ qa 20) ∧ g_MpkStep σ f_rec g_rec x fr C rg qa ch qa 21 = σ qa 21 := by
  have K : ∀ {A : Type} (π : XS9 → A), (∀ s i x, i < 6 → π (u2 s qa i x) = π s) → (∀ s fr, π (g_rec s fr) = π s) → π (g_MpkStep σ f_rec g_rec x fr C rg qa ch) = π σ := by
    intro A π h1 h2
    have H := xitR_keepN (step := (fun i51 s51 => (if (f_MisFree s51 (s51 qa i51) (x_MpkStep_3 x fr C fr) rg) = 0 then .inl s51 else (if (f_rec (u2 s51 qa i51 ((s51 qa i51) ||| (1 <<< ((nI ((x_MpkStep_3 x fr C fr))) &&& 31)))) ((x_MpkStep_3 x fr C fr) + 1)) = 0 then (if (((g_rec (u2 s51 qa i51 ((s51 qa i51) ||| (1 <<< ((nI ((x_MpkStep_3 x fr C fr))) &&& 31)))) ((x_MpkStep_3 x fr C fr) + 1)) qa i51) &&& ((1 <<< ((nI ((x_MpkStep_3 x fr C fr))) &&& 31)) ^^^ (-1))) = 0 then .inr (u2 (g_rec (u2 s51 qa i51 ((s51 qa i51) ||| (1 <<< ((nI ((x_MpkStep_3 x fr C fr))) &&& 31)))) ((x_MpkStep_3 x fr C fr) + 1)) qa i51 (((g_rec (u2 s51 qa i51 ((s51 qa i51) ||| (1 <<< ((nI ((x_MpkStep_3 x fr C fr))) &&& 31)))) ((x_MpkStep_3 x fr C fr) + 1)) qa i51) &&& ((1 <<< ((nI ((x_MpkStep_3 x fr C fr))) &&& 31)) ^^^ (-1))), 0) else .inl (u2 (g_rec (u2 s51 qa i51 ((s51 qa i51) ||| (1 <<< ((nI ((x_MpkStep_3 x fr C fr))) &&& 31)))) ((x_MpkStep_3 x fr C fr) + 1)) qa i51 (((g_rec (u2 s51 qa i51 ((s51 qa i51) ||| (1 <<< ((nI ((x_MpkStep_3 x fr C fr))) &&& 31)))) ((x_MpkStep_3 x fr C fr) + 1)) qa i51) &&& ((1 <<< ((nI ((x_MpkStep_3 x fr C fr))) &&& 31)) ^^^ (-1))))) else .inr (u2 (g_rec (u2 s51 qa i51 ((s51 qa i51) ||| (1 <<< ((nI ((x_MpkStep_3 x fr C fr))) &&& 31)))) ((x_MpkStep_3 x fr C fr) + 1)) qa i51 (((g_rec (u2 s51 qa i51 ((s51 qa i51) ||| (1 <<< ((nI ((x_MpkStep_3 x fr C fr))) &&& 31)))) ((x_MpkStep_3 x fr C fr) + 1)) qa i51) &&& ((1 <<< ((nI ((x_MpkStep_3 x fr C fr))) &&& 31)) ^^^ (-1))), 1))) : Nat → XS9 → XS9 ⊕ (XS9 × Int32))) π (fun r : XS9 × Int32 => π r.1) (N := ch) (fun i s hi => by
      refine ⟨fun s' e2 => ?_, fun r e2 => ?_⟩ <;> revert e2 <;> (try dsimp only) <;> (repeat' split) <;> intro e2 <;> first | (cases e2; done) | (have e9 := Sum.inl.inj e2; subst e9; first | rfl | (rw [h1 _ _ _ (by omega), h2, h1 _ _ _ (by omega)])) | (have e9 := Sum.inr.inj e2; subst e9; (try dsimp only); first | rfl | (rw [h1 _ _ _ (by omega), h2, h1 _ _ _ (by omega)])))
    unfold g_MpkStep
    split
    · rfl
    · have := H ch 0 σ (by omega)
      unfold x_MpkStep_51
      split
      · rename_i s e
        exact this.1 s e
      · rename_i r e
        exact this.2 r e
  refine ⟨fun q hq => K (fun s => s q) (fun s i x _ => u2_ne hq) (fun s fr => fr_rec hq), K (fun s => s qa 20) (fun s i x hi => u2_oi (by omega)) (fun s fr => fr_rec20.1), K (fun s => s qa 21) (fun s i x hi => u2_oi (by omega)) (fun s fr => fr_rec20.2)⟩
def fg_Mpk (x : Int32) (C : Nat) (rg : Nat → Nat) (qa ch : Nat) : Nat → (XS9 → Nat → Int32) × (XS9 → Nat → XS9)
  | 0 => (fun σ fr => f_MpkStep σ (fun _ _ => 0) (fun σ _ => σ) x fr C rg qa ch, fun σ fr => g_MpkStep σ (fun _ _ => 0) (fun σ _ => σ) x fr C rg qa ch)
  | f + 1 => (fun σ fr => f_MpkStep σ (fg_Mpk x C rg qa ch f).1 (fg_Mpk x C rg qa ch f).2 x fr C rg qa ch, fun σ fr => g_MpkStep σ (fg_Mpk x C rg qa ch f).1 (fg_Mpk x C rg qa ch f).2 x fr C rg qa ch)
theorem fr_Mpk {x : Int32} {C : Nat} {rg : Nat → Nat} {qa ch : Nat} (hch : ch ≤ 6) : ∀ (f : Nat) {σ : XS9} {fr : Nat}, (∀ q, q ≠ qa → (fg_Mpk x C rg qa ch f).2 σ fr q = σ q) ∧ ((fg_Mpk x C rg qa ch f).2 σ fr qa 20 = σ qa 20) ∧ (fg_Mpk x C rg qa ch f).2 σ fr qa 21 = σ qa 21
  | 0, σ, fr => fr_MpkStep (fun _ => rfl) ⟨rfl, rfl⟩ hch
  | f + 1, σ, fr => fr_MpkStep (fun h => (fr_Mpk hch f).1 _ h) (fr_Mpk hch f).2 hch
theorem bo_MpkStep {σ : XS9} {f_rec : XS9 → Nat → Int32} {g_rec : XS9 → Nat → XS9} {x : Int32} {fr C : Nat} {rg : Nat → Nat} {qa ch : Nat} : f_MpkStep σ f_rec g_rec x fr C rg qa ch = 0 ∨ f_MpkStep σ f_rec g_rec x fr C rg qa ch = 1 := by
  unfold f_MpkStep
  split
  · exact .inr rfl
  · split
    · exact .inl rfl
    · rename_i r e
      unfold x_MpkStep_51 at e
      refine xitR_all (P := fun r : XS9 × Int32 => r.2 = 0 ∨ r.2 = 1) (fun i s r e => ?_) _ _ _ _ e
      revert e
      (try dsimp only)
      (repeat' split) <;> intro e <;> first | (have e9 := Sum.inr.inj e; rw [← e9]; first | exact .inl rfl | exact .inr rfl) | (cases e; done)
theorem bo_Mpk {x : Int32} {C : Nat} {rg : Nat → Nat} {qa ch : Nat} : ∀ (f : Nat) (σ : XS9) (fr : Nat), (fg_Mpk x C rg qa ch f).1 σ fr = 0 ∨ (fg_Mpk x C rg qa ch f).1 σ fr = 1
  | 0, σ, fr => bo_MpkStep
  | f + 1, σ, fr => bo_MpkStep
theorem ct_Mpk {l : Launch} {h : XH} (hl : l.stackTraces = false) {z : Int64} (hbs : xx_bs h) {R : Nat} {C : Nat} {rg : Nat → Nat} {qa ch : Nat} {x : Int32} (hR5 : R ≤ 5) (hC10 : C ≤ 10) (hqa : 20000 ≤ qa ∧ qa < 20010) (hch : ch ≤ 6) : ∀ (f : Nat), ∀ (σ : XS9) (fr1 : Nat), C - fr1 ≤ f → fr1 ≤ C → σ qa 20 = nI 1 → σ qa 21 = nI ch → σ 5001 900 = nI R → σ 5004 900 = nI (2 * C) → (∀ q, q < C → σ 5004 (2 * q) = nI (rg q) ∧ rg q < R) → XEx l m_X14_canPack (f + 7) 0 0 [.ref 5000, .int x, .int (nI fr1), .ref qa] (setM z σ h) (some (.int ((fg_Mpk x C rg qa ch f).1 σ fr1))) (setM z ((fg_Mpk x C rg qa ch f).2 σ fr1) h)
  | 0, σ, fr, e, hfr, e1, e2, e3, e4, e5 => ct_MpkStep hl hbs e3 hR5 e4 hC10 e5 hqa e1 e2 hch (fun _ => rfl) ⟨rfl, rfl⟩ hfr (d0 := 6) (by omega) (fun σ fr1 h1 h2 _ _ _ _ _ => absurd h1 (by omega))
  | f + 1, σ, fr, e, hfr, e1, e2, e3, e4, e5 => ct_MpkStep hl hbs e3 hR5 e4 hC10 e5 hqa e1 e2 hch (fun h => (fr_Mpk hch f).1 _ h) (fr_Mpk hch f).2 hfr (d0 := f + 7) (by omega) (fun σ fr1 h1 h2 a1 a2 a3 a4 a5 => ct_Mpk hl hbs hR5 hC10 hqa hch f σ fr1 (by omega) h2 a1 a2 a3 a4 a5)
