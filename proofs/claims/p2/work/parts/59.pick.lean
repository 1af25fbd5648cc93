/-! ===== the reference's choice: all are gone through ===== -/
theorem fr_Ctake {σ : XS9} {j c : Nat} {x : Int32} {gr q : Nat} (h : q ≠ 9004 ∧ q ≠ 9005) : g_Ctake σ j c x gr q = σ q := by
  unfold g_Ctake x_Ctake_6
  exact xitB_keep (fun s : XS9 × Nat => s.1 q) (fun i s s' e => by
    revert e
    (try dsimp only)
    split <;> intro e <;> rcases e with e | e <;> first | (cases e; done) | (injection e with e; subst e; first | rfl | simp (disch := omega) only [u2_ne])) _ _ _
def x_CpickBase_62 (σ : XS9) (S : Nat) (x : Int32) (B : Nat) (s0 : XS9) : XS9 := xit (fun i62 s62 => u2 s62 9001 (B + i62) (-1)) (6 - B) 0 s0
def g_CpickBase (σ : XS9) (S : Nat) (x : Int32) (B : Nat) : XS9 := (if (σ 9000 5) < x then (x_CpickBase_62 σ S x B (uR (u2 (u2 σ 9003 S (if (σ 9003 S) < x then x else (σ 9003 S))) 9000 5 x) 9001 (va_cpy (σ 9002) (σ 9001) 0 0 6))) else u2 σ 9003 S (if (σ 9003 S) < x then x else (σ 9003 S)))
theorem ct_CpickBase {l : Launch} {h : XH} (hl : l.stackTraces = false) {z : Int64} {σ : XS9} (hbs : xx_bs h) (hc : σ 9000 20 = nI 1) {B : Nat} (hB : σ 5002 900 = nI B) (hB6 : B ≤ 6) {S : Nat} {x : Int32} (hS : S < 64) : XEx l m_X10_pick 2 0 0 [.ref 9000, .int (nI B), .int (nI S), .int x] (setM z σ h) (none) (setM z (g_CpickBase σ S x B) h) := by
  refine XMet.of hl rfl rfl (Nat.le_of_ble_eq_true rfl) (fun Y O hh hQ => ?_)
  show SW Y 0 0 (setM z σ h) 0 [.ref 9000, .int (nI B), .int (nI S), .int x, xx_d, xx_d] []
  refine sw_iload_n O (xx_dt dd_X10_pick 0 rfl) rfl ?_
  refine sw_aload_n O (xx_dt dd_X10_pick 1 rfl) rfl ?_
  refine sw_get (v := .ref 5000) O (xx_dt dd_X10_pick 2 rfl) cl_X10 fl_X10_3 (lm_9000 (σ := σ) (fl1 hc)) (by decide) rfl ?_
  refine sw_get (v := .ref 5002) O (xx_dt dd_X10_pick 3 rfl) cl_X14 fl_X10_67 (lm_mod (σ := σ)) (by decide) rfl ?_
  refine sw_callVL (ci := 6) (as := []) (st := [.int (nI B)]) (st2 := [.int (nI B), .int (nI B)]) O (ct_AL_size hl (lm_5002 (σ := σ) (B := B) hB (by omega))) ce_Jx4a65c_size_8abf5 ml_X10_39 iv_Jx4a65c_size_8abf5 cl_Jx4a65c rfl (lm_5002 (σ := σ) (B := B) hB (by omega)) (xx_dt dd_X10_pick 4 rfl) (by decide) rfl rfl (Nat.le_of_ble_eq_true rfl) rfl ?_
  refine sw_icmp_ne (tgt := 84) O (xx_dt dd_X10_pick 5 rfl) (by decide) (fun q1 => ?_) (fun q1 => ?_)
  · exact absurd q1 (fun e => e rfl)
  · refine sw_aload_n O (xx_dt dd_X10_pick 6 rfl) rfl ?_
    refine sw_get (v := .ref 9003) O (xx_dt dd_X10_pick 7 rfl) cl_X10 fl_X10_22 (lm_9000 (σ := σ) (fl1 hc)) (by decide) rfl ?_
    refine sw_iload_n O (xx_dt dd_X10_pick 8 rfl) rfl ?_
    refine sw_aload_n O (xx_dt dd_X10_pick 9 rfl) rfl ?_
    refine sw_get (v := .ref 9003) O (xx_dt dd_X10_pick 10 rfl) cl_X10 fl_X10_22 (lm_9000 (σ := σ) (fl1 hc)) (by decide) rfl ?_
    refine sw_iload_n O (xx_dt dd_X10_pick 11 rfl) rfl ?_
    refine sw_iaload (v := .int (σ 9003 S)) O (xx_dt dd_X10_pick 12 rfl) ((im_9003 (z := z) (σ := σ) hc).get _) (pk_in S _ (by omega)) (by rw [nI_clamp (by omega)]; try exact rfl) ?_
    refine sw_iload_n O (xx_dt dd_X10_pick 13 rfl) rfl ?_
    refine sw_max O mm_X10_61 (xx_dt dd_X10_pick 14 rfl) (by omega) (Nat.le_of_ble_eq_true rfl) ?_
    refine sw_iastore (h2 := setM z (u2 σ 9003 S (if (σ 9003 S) < x then x else (σ 9003 S))) h) O (xx_dt dd_X10_pick 15 rfl) ((im_9003 (z := z) (σ := σ) hc).get _) (pk_in S _ (by omega)) (by omega) (by rw [nI_clamp (by omega)]; exact ((im_9003 (z := z) (σ := σ) hc).put (by omega))) ?_
    refine sw_iload_n O (xx_dt dd_X10_pick 16 rfl) rfl ?_
    refine sw_aload_n O (xx_dt dd_X10_pick 17 rfl) rfl ?_
    refine sw_get (v := .int (σ 9000 5)) O (xx_dt dd_X10_pick 18 rfl) cl_X10 fl_X10_31 (lm_9000 (σ := u2 σ 9003 S (if (σ 9003 S) < x then x else (σ 9003 S))) (fl1 hc)) (by decide) rfl ?_
    refine sw_icmp_gt (tgt := 39) O (xx_dt dd_X10_pick 19 rfl) (by decide) (fun q2 => ?_) (fun q2 => ?_)
    · refine sw_aload_n O (xx_dt dd_X10_pick 21 rfl) rfl ?_
      refine sw_iload_n O (xx_dt dd_X10_pick 22 rfl) rfl ?_
      refine sw_put (h2 := setM z (u2 (u2 σ 9003 S (if (σ 9003 S) < x then x else (σ 9003 S))) 9000 5 x) h) O (xx_dt dd_X10_pick 23 rfl) cl_X10 fl_X10_31 (lm_9000 (σ := u2 σ 9003 S (if (σ 9003 S) < x then x else (σ 9003 S))) (fl1 hc)) (by decide) (by omega) rfl (fun _ => ⟨rfl, rfl⟩) (pm_cho (σ := u2 σ 9003 S (if (σ 9003 S) < x then x else (σ 9003 S))) hc) ?_
      refine sw_aload_n O (xx_dt dd_X10_pick 24 rfl) rfl ?_
      refine sw_get (v := .ref 9002) O (xx_dt dd_X10_pick 25 rfl) cl_X10 fl_X10_19 (lm_9000 (σ := u2 (u2 σ 9003 S (if (σ 9003 S) < x then x else (σ 9003 S))) 9000 5 x) (fl1 hc)) (by decide) rfl ?_
      refine sw_iconst (x := 0) O (xx_dt dd_X10_pick 26 rfl) (by decide) ?_
      refine sw_aload_n O (xx_dt dd_X10_pick 27 rfl) rfl ?_
      refine sw_get (v := .ref 9001) O (xx_dt dd_X10_pick 28 rfl) cl_X10 fl_X10_15 (lm_9000 (σ := u2 (u2 σ 9003 S (if (σ 9003 S) < x then x else (σ 9003 S))) 9000 5 x) (fl1 hc)) (by decide) rfl ?_
      refine sw_iconst (x := 0) O (xx_dt dd_X10_pick 29 rfl) (by decide) ?_
      refine sw_bipush (x := 6) O (xx_dt dd_X10_pick 30 rfl) (by decide) ?_
      refine sw_copy (h2' := setM z (uR (u2 (u2 σ 9003 S (if (σ 9003 S) < x then x else (σ 9003 S))) 9000 5 x) 9001 (va_cpy (σ 9002) (σ 9001) 0 0 6)) h) O ay_X10_70 (xx_dt dd_X10_pick 31 rfl) ((im_9002 (z := z) (σ := u2 (u2 σ 9003 S (if (σ 9003 S) < x then x else (σ 9003 S))) 9000 5 x) hc).getE rfl) ((im_9001 (z := z) (σ := u2 (u2 σ 9003 S (if (σ 9003 S) < x then x else (σ 9003 S))) 9000 5 x) hc).getE rfl) (by omega) (by decide) (by decide) (by decide) (by decide) (by decide) (by omega) (by decide +kernel) ((im_9001 (z := z) (σ := u2 (u2 σ 9003 S (if (σ 9003 S) < x then x else (σ 9003 S))) 9000 5 x) hc).putR (by omega)) ?_
      refine sw_iload_n O (xx_dt dd_X10_pick 32 rfl) rfl ?_
      refine sw_istore (ls2 := [.ref 9000, .int (nI B), .int (nI S), .int x, .int (nI B), xx_d]) O (xx_dt dd_X10_pick 33 rfl) (by decide) rfl ?_
      refine sw_for (S := XS9) (fun i62 s62 => u2 s62 9001 (B + i62) (-1)) (fun _ s62 => s62 9000 20 = nI 1) (hp := fun s62 => setM z s62 h) (hd := 62) (lc := fun i62 s62 => [.ref 9000, .int (nI B), .int (nI S), .int x, .int (nI (B + i62)), xx_d]) (N := (6 - B)) (fun i62 s62 hi62 hP62 => ⟨(by (try dsimp only); (repeat' split) <;> first | exact hP62 | (simp (disch := omega) only [u2_ne, uR_ne, fr_fill, fr_Ctake]; exact hP62)), fun kk62 => ?_⟩) (6 - B) 0 (uR (u2 (u2 σ 9003 S (if (σ 9003 S) < x then x else (σ 9003 S))) 9000 5 x) 9001 (va_cpy (σ 9002) (σ 9001) 0 0 6)) (by omega) (hc) (fun hP62 => ?_)
      · refine sw_iload O (xx_dt dd_X10_pick 34 rfl) rfl ?_
        refine sw_bipush (x := 6) O (xx_dt dd_X10_pick 35 rfl) (by decide) ?_
        refine sw_icmp_ge (tgt := 83) O (xx_dt dd_X10_pick 36 rfl) (by decide) (fun q3 => ?_) (fun q3 => ?_)
        · exact absurd q3 (nI_ge (a := B + i62) (b := 6) (by omega) (by omega))
        · refine sw_aload_n O (xx_dt dd_X10_pick 37 rfl) rfl ?_
          refine sw_get (v := .ref 9001) O (xx_dt dd_X10_pick 38 rfl) cl_X10 fl_X10_15 (lm_9000 (σ := s62) (fl1 hP62)) (by decide) rfl ?_
          refine sw_iload O (xx_dt dd_X10_pick 39 rfl) rfl ?_
          refine sw_iconst (x := (-1)) O (xx_dt dd_X10_pick 40 rfl) (by decide) ?_
          refine sw_iastore (h2 := setM z (u2 s62 9001 (B + i62) (-1)) h) O (xx_dt dd_X10_pick 41 rfl) ((im_9001 (z := z) (σ := s62) hP62).get _) (pk_in (B + i62) _ (by omega)) (by omega) (by rw [nI_clamp (by omega)]; exact ((im_9001 (z := z) (σ := s62) hP62).put (by omega))) ?_
          refine sw_iinc (y := nI (B + i62 + 1)) (ls2 := [.ref 9000, .int (nI B), .int (nI S), .int x, .int (nI (B + i62 + 1)), xx_d]) O (xx_dt dd_X10_pick 42 rfl) rfl (nI_1 _) (by decide) rfl ?_
          refine sw_goto (tgt := 62) O (xx_dt dd_X10_pick 43 rfl) (by decide) ?_
          exact kk62
      · show SW Y _ _ (setM z (x_CpickBase_62 σ S x B (uR (u2 (u2 σ 9003 S (if (σ 9003 S) < x then x else (σ 9003 S))) 9000 5 x) 9001 (va_cpy (σ 9002) (σ 9001) 0 0 6))) h) 62 [.ref 9000, .int (nI B), .int (nI S), .int x, .int (nI (B + (6 - B))), xx_d] []
        refine sw_iload O (xx_dt dd_X10_pick 34 rfl) rfl ?_
        refine sw_bipush (x := 6) O (xx_dt dd_X10_pick 35 rfl) (by decide) ?_
        refine sw_icmp_ge (tgt := 83) O (xx_dt dd_X10_pick 36 rfl) (by decide) (fun q3 => ?_) (fun q3 => ?_)
        · exact sw_ret O (xx_dt dd_X10_pick 44 rfl) rfl (by rw [hQ]; exact ⟨rfl, by unfold g_CpickBase; simp only [if_pos q2]⟩)
        · exact absurd ((nI_leI (a := 6) (b := B + (6 - B)) (by omega) (by omega)).mpr (by omega)) q3
    · exact sw_ret O (xx_dt dd_X10_pick 20 rfl) rfl (by rw [hQ]; exact ⟨rfl, by unfold g_CpickBase; simp only [if_neg q2]⟩)
theorem fr_CpickBase {σ : XS9} {S : Nat} {x : Int32} {B q : Nat} : ((q < 9000 ∨ 9005 < q) → g_CpickBase σ S x B q = σ q) ∧ g_CpickBase σ S x B 9000 20 = σ 9000 20 := by
  have H : ∀ s0 q, q ≠ 9001 → x_CpickBase_62 σ S x B s0 q = s0 q := fun s0 q e => xit_keep (fun s : XS9 => s q) (fun i s => by (try dsimp only); rw [u2_ne e]) _ _ _
  refine ⟨fun h => ?_, ?_⟩
  · unfold g_CpickBase
    (repeat' split) <;> first | rfl | simp (disch := omega) only [u2_ne, uR_ne, H]
  · unfold g_CpickBase
    (repeat' split) <;> first | rfl | (simp (disch := omega) only [u2_ne, uR_ne, H]; first | done | (rw [u2_oi (by decide)]; simp (disch := omega) only [u2_ne]))
