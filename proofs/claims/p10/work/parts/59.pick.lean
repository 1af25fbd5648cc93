/-! ===== the reference's choice: all are gone through ===== -/
theorem fr_Ctake {σ : XS9} {j c : Nat} {x : Int32} {gr q : Nat} (h : q ≠ 9004 ∧ q ≠ 9005) : g_Ctake σ j c x gr q = σ q := by
  unfold g_Ctake x_Ctake_6
  exact xitB_keep (fun s : XS9 × Nat => s.1 q) (fun i s s' e => by
    revert e
    (try dsimp only)
    split <;> intro e <;> rcases e with e | e <;> first | (cases e; done) | (injection e with e; subst e; first | rfl | simp (disch := omega) only [u2_ne])) _ _ _
def x_CpickBase_62 (σ : XS9) (S : Nat) (x : Int32) (B : Nat) (s0 : XS9) : XS9 := xit (fun i62 s62 => u2 s62 9001 (B + i62) (-1)) (6 - B) 0 s0
def g_CpickBase (σ : XS9) (S : Nat) (x : Int32) (B : Nat) : XS9 := (if (σ 9000 5) < x then (x_CpickBase_62 σ S x B (uR (u2 (u2 σ 9003 S (if (σ 9003 S) < x then x else (σ 9003 S))) 9000 5 x) 9001 (va_cpy (σ 9002) (σ 9001) 0 0 6))) else u2 σ 9003 S (if (σ 9003 S) < x then x else (σ 9003 S)))
theorem ct_CpickBase {l : Launch} {h : XH} (hl : l.stackTraces = false) {z : Int64} {σ : XS9} (hbs : xx_bs h) (hc : σ 9000 20 = nI 1) {B : Nat} (hB : σ 5002 900 = nI B) (hB6 : B ≤ 6) {S : Nat} {x : Int32} (hS : S < 64) : XEx l m_X10_pick 6 0 0 [.ref 9000, .int (nI B), .int (nI S), .int x] (setM z σ h) (none) (setM z (g_CpickBase σ S x B) h) := by
  refine XMet.of hl rfl rfl (Nat.le_of_ble_eq_true rfl) (fun Y O hh hQ => ?_)
  show SW Y 0 0 (setM z σ h) 0 [.ref 9000, .int (nI B), .int (nI S), .int x, xx_d, xx_d] []
  refine sw_iload_n O (xx_dt dd_X10_pick 0 rfl) rfl ?_
  refine sw_aload_n O (xx_dt dd_X10_pick 1 rfl) rfl ?_
  refine sw_get (v := .ref 5000) O (xx_dt dd_X10_pick 2 rfl) cl_X10 fl_X10_3 (lm_9000 (σ := σ) (fl1 hc)) (by decide) rfl ?_
  refine sw_get (v := .ref 5002) O (xx_dt dd_X10_pick 3 rfl) cl_X14 fl_X10_67 (lm_mod (σ := σ)) (by decide) rfl ?_
  refine sw_callVL (ci := 6) (as := []) (st := [.int (nI B)]) (st2 := [.int (nI B), .int (nI B)]) O (ct_AL_size hl (lm_5002 (σ := σ) (B := B) hB (by omega))) ce_Jx4a65c_size_8abf5 ml_X10_39 iv_Jx4a65c_size_8abf5 cl_Jx4a65c rfl (lm_5002 (σ := σ) (B := B) hB (by omega)) (xx_dt dd_X10_pick 4 rfl) (by decide) rfl rfl (Nat.le_of_ble_eq_true rfl) rfl ?_
  refine sw_icmp_ne (tgt := 84) O (xx_dt dd_X10_pick 5 rfl) (by decide) (fun q1 => ?_) (fun q1 => ?_)
  · exact absurd q1 (fun e => e rfl)
  · refine sw_aload_n O (xx_dt dd_X10_pick 6 rfl) rfl ?_
    refine sw_get (v := .ref 9003) O (xx_dt dd_X10_pick 7 rfl) cl_X10 fl_X10_22 (lm_9000 (σ := σ) (fl1 hc)) (by decide) rfl ?_
    refine sw_iload_n O (xx_dt dd_X10_pick 8 rfl) rfl ?_
    refine sw_aload_n O (xx_dt dd_X10_pick 9 rfl) rfl ?_
    refine sw_get (v := .ref 9003) O (xx_dt dd_X10_pick 10 rfl) cl_X10 fl_X10_22 (lm_9000 (σ := σ) (fl1 hc)) (by decide) rfl ?_
    refine sw_iload_n O (xx_dt dd_X10_pick 11 rfl) rfl ?_
    refine sw_iaload (v := .int (σ 9003 S)) O (xx_dt dd_X10_pick 12 rfl) ((im_9003 (z := z) (σ := σ) hc).get _) (pk_in S _ (by omega)) (by rw [nI_clamp (by omega)]; try exact rfl) ?_
    refine sw_iload_n O (xx_dt dd_X10_pick 13 rfl) rfl ?_
    refine sw_max O mm_X10_61 (xx_dt dd_X10_pick 14 rfl) (by omega) (Nat.le_of_ble_eq_true rfl) ?_
    refine sw_iastore (h2 := setM z (u2 σ 9003 S (if (σ 9003 S) < x then x else (σ 9003 S))) h) O (xx_dt dd_X10_pick 15 rfl) ((im_9003 (z := z) (σ := σ) hc).get _) (pk_in S _ (by omega)) (by omega) (by rw [nI_clamp (by omega)]; exact ((im_9003 (z := z) (σ := σ) hc).put (by omega))) ?_
    refine sw_iload_n O (xx_dt dd_X10_pick 16 rfl) rfl ?_
    refine sw_aload_n O (xx_dt dd_X10_pick 17 rfl) rfl ?_
    refine sw_get (v := .int (σ 9000 5)) O (xx_dt dd_X10_pick 18 rfl) cl_X10 fl_X10_31 (lm_9000 (σ := u2 σ 9003 S (if (σ 9003 S) < x then x else (σ 9003 S))) (fl1 hc)) (by decide) rfl ?_
    refine sw_icmp_gt (tgt := 39) O (xx_dt dd_X10_pick 19 rfl) (by decide) (fun q2 => ?_) (fun q2 => ?_)
    · refine sw_aload_n O (xx_dt dd_X10_pick 21 rfl) rfl ?_
      refine sw_iload_n O (xx_dt dd_X10_pick 22 rfl) rfl ?_
      refine sw_put (h2 := setM z (u2 (u2 σ 9003 S (if (σ 9003 S) < x then x else (σ 9003 S))) 9000 5 x) h) O (xx_dt dd_X10_pick 23 rfl) cl_X10 fl_X10_31 (lm_9000 (σ := u2 σ 9003 S (if (σ 9003 S) < x then x else (σ 9003 S))) (fl1 hc)) (by decide) (by omega) rfl (fun _ => ⟨rfl, rfl⟩) (pm_cho (σ := u2 σ 9003 S (if (σ 9003 S) < x then x else (σ 9003 S))) hc) ?_
      refine sw_aload_n O (xx_dt dd_X10_pick 24 rfl) rfl ?_
      refine sw_get (v := .ref 9002) O (xx_dt dd_X10_pick 25 rfl) cl_X10 fl_X10_19 (lm_9000 (σ := u2 (u2 σ 9003 S (if (σ 9003 S) < x then x else (σ 9003 S))) 9000 5 x) (fl1 hc)) (by decide) rfl ?_
      refine sw_iconst (x := 0) O (xx_dt dd_X10_pick 26 rfl) (by decide) ?_
      refine sw_aload_n O (xx_dt dd_X10_pick 27 rfl) rfl ?_
      refine sw_get (v := .ref 9001) O (xx_dt dd_X10_pick 28 rfl) cl_X10 fl_X10_15 (lm_9000 (σ := u2 (u2 σ 9003 S (if (σ 9003 S) < x then x else (σ 9003 S))) 9000 5 x) (fl1 hc)) (by decide) rfl ?_
      refine sw_iconst (x := 0) O (xx_dt dd_X10_pick 29 rfl) (by decide) ?_
      refine sw_bipush (x := 6) O (xx_dt dd_X10_pick 30 rfl) (by decide) ?_
      refine sw_copy (h2' := setM z (uR (u2 (u2 σ 9003 S (if (σ 9003 S) < x then x else (σ 9003 S))) 9000 5 x) 9001 (va_cpy (σ 9002) (σ 9001) 0 0 6)) h) O ay_X10_70 (xx_dt dd_X10_pick 31 rfl) ((im_9002 (z := z) (σ := u2 (u2 σ 9003 S (if (σ 9003 S) < x then x else (σ 9003 S))) 9000 5 x) hc).getE rfl) ((im_9001 (z := z) (σ := u2 (u2 σ 9003 S (if (σ 9003 S) < x then x else (σ 9003 S))) 9000 5 x) hc).getE rfl) (by omega) (by decide) (by decide) (by decide) (by decide) (by decide) (by omega) (by decide +kernel) ((im_9001 (z := z) (σ := u2 (u2 σ 9003 S (if (σ 9003 S) < x then x else (σ 9003 S))) 9000 5 x) hc).putR (by omega)) ?_
      refine sw_iload_n O (xx_dt dd_X10_pick 32 rfl) rfl ?_
      refine sw_istore (ls2 := [.ref 9000, .int (nI B), .int (nI S), .int x, .int (nI B), xx_d]) O (xx_dt dd_X10_pick 33 rfl) (by decide) rfl ?_
      refine sw_for (S := XS9) (fun i62 s62 => u2 s62 9001 (B + i62) (-1)) (fun _ s62 => s62 9000 20 = nI 1) (hp := fun s62 => setM z s62 h) (hd := 62) (lc := fun i62 s62 => [.ref 9000, .int (nI B), .int (nI S), .int x, .int (nI (B + i62)), xx_d]) (N := (6 - B)) (fun i62 s62 hi62 hP62 => ⟨(by (try dsimp only); (repeat' split) <;> first | exact hP62 | (simp (disch := omega) only [u2_ne, uR_ne, fr_fill, fr_Ctake]; exact hP62)), fun kk62 => ?_⟩) (6 - B) 0 (uR (u2 (u2 σ 9003 S (if (σ 9003 S) < x then x else (σ 9003 S))) 9000 5 x) 9001 (va_cpy (σ 9002) (σ 9001) 0 0 6)) (by omega) ((show (uR (u2 (u2 σ 9003 S (if (σ 9003 S) < x then x else (σ 9003 S))) 9000 5 x) 9001 (va_cpy (σ 9002) (σ 9001) 0 0 6)) 9000 20 = nI 1 from hc)) (fun hP62 => ?_)
      · refine sw_iload O (xx_dt dd_X10_pick 34 rfl) rfl ?_
        refine sw_bipush (x := 6) O (xx_dt dd_X10_pick 35 rfl) (by decide) ?_
        refine sw_icmp_ge (tgt := 83) O (xx_dt dd_X10_pick 36 rfl) (by decide) (fun q3 => ?_) (fun q3 => ?_)
        · exact absurd q3 (nI_ge (a := B + i62) (b := 6) (by omega) (by omega))
        · refine sw_aload_n O (xx_dt dd_X10_pick 37 rfl) rfl ?_
          refine sw_get (v := .ref 9001) O (xx_dt dd_X10_pick 38 rfl) cl_X10 fl_X10_15 (lm_9000 (σ := s62) (fl1 hP62)) (by decide) rfl ?_
          refine sw_iload O (xx_dt dd_X10_pick 39 rfl) rfl ?_
          refine sw_iconst (x := (-1)) O (xx_dt dd_X10_pick 40 rfl) (by decide) ?_
          refine sw_iastore (h2 := setM z (u2 s62 9001 (B + i62) (-1)) h) O (xx_dt dd_X10_pick 41 rfl) ((im_9001 (z := z) (σ := s62) hP62).get _) (pk_in (B + i62) _ (by omega)) (by omega) (by rw [nI_clamp (by omega)]; exact ((im_9001 (z := z) (σ := s62) hP62).put (by omega))) ?_
          refine sw_iinc (y := nI (B + i62 + 1)) (ls2 := [.ref 9000, .int (nI B), .int (nI S), .int x, .int (nI (B + i62 + 1)), xx_d]) O (xx_dt dd_X10_pick 42 rfl) rfl (nI_1 _) (by decide) rfl ?_
          refine sw_goto (tgt := 62) O (xx_dt dd_X10_pick 43 rfl) (by decide) ?_
          exact kk62
      · show SW Y _ _ (setM z (x_CpickBase_62 σ S x B (uR (u2 (u2 σ 9003 S (if (σ 9003 S) < x then x else (σ 9003 S))) 9000 5 x) 9001 (va_cpy (σ 9002) (σ 9001) 0 0 6))) h) 62 [.ref 9000, .int (nI B), .int (nI S), .int x, .int (nI (B + (6 - B))), xx_d] []
        refine sw_iload O (xx_dt dd_X10_pick 34 rfl) rfl ?_
        refine sw_bipush (x := 6) O (xx_dt dd_X10_pick 35 rfl) (by decide) ?_
        refine sw_icmp_ge (tgt := 83) O (xx_dt dd_X10_pick 36 rfl) (by decide) (fun q3 => ?_) (fun q3 => ?_)
        · exact sw_ret O (xx_dt dd_X10_pick 44 rfl) rfl (by rw [hQ]; exact ⟨rfl, by unfold g_CpickBase; simp only [if_pos q2]⟩)
        · exact absurd ((nI_leI (a := 6) (b := B + (6 - B)) (by omega) (by omega)).mpr (by omega)) q3
    · exact sw_ret O (xx_dt dd_X10_pick 20 rfl) rfl (by rw [hQ]; exact ⟨rfl, by unfold g_CpickBase; simp only [if_neg q2]⟩)
theorem fr_CpickBase {σ : XS9} {S : Nat} {x : Int32} {B q : Nat} : ((q < 9000 ∨ 9005 < q) → g_CpickBase σ S x B q = σ q) ∧ g_CpickBase σ S x B 9000 20 = σ 9000 20 := by
  have H : ∀ s0 q, q ≠ 9001 → x_CpickBase_62 σ S x B s0 q = s0 q := fun s0 q e => xit_keep (fun s : XS9 => s q) (fun i s => by (try dsimp only); rw [u2_ne e]) _ _ _
  refine ⟨fun h => ?_, ?_⟩
  · unfold g_CpickBase
    (repeat' split) <;> first | rfl | simp (disch := omega) only [u2_ne, uR_ne, H]
  · unfold g_CpickBase
    (repeat' split) <;> first | rfl | (simp (disch := omega) only [u2_ne, uR_ne, H]; first | done | (rw [u2_oi (by decide)]; simp (disch := omega) only [u2_ne]))
def x_CpickStep_119 (σ : XS9) (g_rec : XS9 → Nat → Int32 → XS9) (i S : Nat) (x : Int32) (B : Nat) (pk gr : Nat → Nat) (cd : Nat → Nat → Nat) (s0 : XS9) : XS9 := xitB (fun i119 s119 => (if (σ (5020 + i) 4) = 0 then (if (f_CcanTake s119 i (cd i i119) (gr i)) = 0 then .inl s119 else .inl (g_Ctake (g_rec (u2 (g_Ctake s119 i (cd i i119) 1 (gr i)) 9002 i (nI i119)) (S ||| 2 ^ i) (x + (f_Bamount (u2 (g_Ctake s119 i (cd i i119) 1 (gr i)) 9002 i (nI i119)) i i119))) i (cd i i119) (-1) (gr i))) else .inr s119)) (pk i) 0 s0
def g_CpickStep (σ : XS9) (g_rec : XS9 → Nat → Int32 → XS9) (i S : Nat) (x : Int32) (B : Nat) (pk gr : Nat → Nat) (cd : Nat → Nat → Nat) : XS9 := (x_CpickStep_119 σ g_rec i S x B pk gr cd (g_rec (u2 σ 9002 i (-1)) S x))
theorem ct_CpickStep {l : Launch} {h : XH} (hl : l.stackTraces = false) {z : Int64} {σ : XS9} (hbs : xx_bs h) (hc : σ 9000 20 = nI 1) {B : Nat} (hB : σ 5002 900 = nI B) (hB6 : B ≤ 6) {pk : Nat → Nat} (hpk : ∀ j, j < B → σ (5030 + j) 900 = nI (2 * pk j) ∧ pk j ≤ 6) {gr : Nat → Nat} (hgr : ∀ j, j < B → σ (5020 + j) 3 = nI (gr j) ∧ gr j < 4) {cd : Nat → Nat → Nat} (hcd : ∀ j k, j < B → k < pk j → σ (5030 + j) (2 * k) = nI (cd j k) ∧ cd j k < 7776) {g_rec : XS9 → Nat → Int32 → XS9} (fr_rec : ∀ {σ : XS9} {S : Nat} {x : Int32} {q : Nat}, (q < 9000 ∨ 9005 < q) → g_rec σ S x q = σ q) (fr_rec20 : ∀ {σ : XS9} {S : Nat} {x : Int32}, g_rec σ S x 9000 20 = σ 9000 20) {i S : Nat} {x : Int32} (hi : i < B) (hS : S < 64) {d0 : Nat} (hd0 : 6 ≤ d0) (ih : ∀ (σ : XS9) (S : Nat) (y x : Int32), y = nI S → S < 64 → σ 9000 20 = nI 1 → σ 5002 900 = nI B → (∀ j, j < B → σ (5030 + j) 900 = nI (2 * pk j) ∧ pk j ≤ 6) → (∀ j, j < B → σ (5020 + j) 3 = nI (gr j) ∧ gr j < 4) → (∀ j k, j < B → k < pk j → σ (5030 + j) (2 * k) = nI (cd j k) ∧ cd j k < 7776) → XEx l m_X10_pick d0 0 0 [.ref 9000, .int (nI (i + 1)), .int y, .int x] (setM z σ h) none (setM z (g_rec σ S x) h)) : XEx l m_X10_pick (d0 + 1) 0 0 [.ref 9000, .int (nI i), .int (nI S), .int x] (setM z σ h) (none) (setM z (g_CpickStep σ g_rec i S x B pk gr cd) h) := by
  refine XMet.of hl rfl rfl (Nat.le_of_ble_eq_true rfl) (fun Y O hh hQ => ?_)
  show SW Y 0 0 (setM z σ h) 0 [.ref 9000, .int (nI i), .int (nI S), .int x, xx_d, xx_d] []
  refine sw_iload_n O (xx_dt dd_X10_pick 0 rfl) rfl ?_
  refine sw_aload_n O (xx_dt dd_X10_pick 1 rfl) rfl ?_
  refine sw_get (v := .ref 5000) O (xx_dt dd_X10_pick 2 rfl) cl_X10 fl_X10_3 (lm_9000 (σ := σ) (fl1 hc)) (by decide) rfl ?_
  refine sw_get (v := .ref 5002) O (xx_dt dd_X10_pick 3 rfl) cl_X14 fl_X10_67 (lm_mod (σ := σ)) (by decide) rfl ?_
  refine sw_callVL (ci := 6) (as := []) (st := [.int (nI i)]) (st2 := [.int (nI B), .int (nI i)]) O (ct_AL_size hl (lm_5002 (σ := σ) (B := B) hB (by omega))) ce_Jx4a65c_size_8abf5 ml_X10_39 iv_Jx4a65c_size_8abf5 cl_Jx4a65c rfl (lm_5002 (σ := σ) (B := B) hB (by omega)) (xx_dt dd_X10_pick 4 rfl) (by omega) rfl rfl (Nat.le_of_ble_eq_true rfl) rfl ?_
  refine sw_icmp_ne (tgt := 84) O (xx_dt dd_X10_pick 5 rfl) (by decide) (fun q1 => ?_) (fun q1 => ?_)
  · refine sw_aload_n O (xx_dt dd_X10_pick 45 rfl) rfl ?_
    refine sw_get (v := .ref 5000) O (xx_dt dd_X10_pick 46 rfl) cl_X10 fl_X10_3 (lm_9000 (σ := σ) (fl1 hc)) (by decide) rfl ?_
    refine sw_get (v := .ref 5002) O (xx_dt dd_X10_pick 47 rfl) cl_X14 fl_X10_67 (lm_mod (σ := σ)) (by decide) rfl ?_
    refine sw_iload_n O (xx_dt dd_X10_pick 48 rfl) rfl ?_
    refine sw_callVL (ci := 6) (as := [.int (nI i)]) (st := []) (st2 := [.ref (5020 + i)]) O (ct_get hl hbs (lm_5002 (σ := σ) (B := B) hB (by omega)) (by omega) (i := i) (x := 5020 + i) (by omega) (by omega) rfl) ce_Jx4a65c_get_915e3 ml_X10_45 iv_Jx4a65c_get_915e3 cl_Jx4a65c rfl (lm_5002 (σ := σ) (B := B) hB (by omega)) (xx_dt dd_X10_pick 49 rfl) (by omega) rfl rfl (Nat.le_of_ble_eq_true rfl) rfl ?_
    refine sw_castO O (xx_dt dd_X10_pick 50 rfl) cl_X9 (lm_bid (σ := σ) (B := B) hB (by omega) (j := i) (by omega)) cw_X10_76 ?_
    refine sw_astore (ls2 := [.ref 9000, .int (nI i), .int (nI S), .int x, .ref (5020 + i), xx_d]) O (xx_dt dd_X10_pick 51 rfl) (by decide) rfl ?_
    refine sw_aload_n O (xx_dt dd_X10_pick 52 rfl) rfl ?_
    refine sw_get (v := .ref 9002) O (xx_dt dd_X10_pick 53 rfl) cl_X10 fl_X10_19 (lm_9000 (σ := σ) (fl1 hc)) (by decide) rfl ?_
    refine sw_iload_n O (xx_dt dd_X10_pick 54 rfl) rfl ?_
    refine sw_iconst (x := (-1)) O (xx_dt dd_X10_pick 55 rfl) (by decide) ?_
    refine sw_iastore (h2 := setM z (u2 σ 9002 i (-1)) h) O (xx_dt dd_X10_pick 56 rfl) ((im_9002 (z := z) (σ := σ) hc).get _) (pk_in i _ (by omega)) (by omega) (by rw [nI_clamp (by omega)]; exact ((im_9002 (z := z) (σ := σ) hc).put (by omega))) ?_
    refine sw_aload_n O (xx_dt dd_X10_pick 57 rfl) rfl ?_
    refine sw_iload_n O (xx_dt dd_X10_pick 58 rfl) rfl ?_
    refine sw_iconst (x := 1) O (xx_dt dd_X10_pick 59 rfl) (by decide) ?_
    refine sw_iadd O (xx_dt dd_X10_pick 60 rfl) ?_
    rw [nI_a1 i]
    refine sw_iload_n O (xx_dt dd_X10_pick 61 rfl) rfl ?_
    refine sw_iload_n O (xx_dt dd_X10_pick 62 rfl) rfl ?_
    refine sw_callVx (as := [.int (nI (i + 1)), .int (nI S), .int x]) (st := []) (st2 := []) O (ih (u2 σ 9002 i (-1)) S (nI S) x rfl (by omega) hc hB (fun j9 hj9 => by rw [(u2_ne (by omega))]; exact hpk j9 hj9) (fun j9 hj9 => by rw [show (u2 σ 9002 i (-1)) (5020 + j9) 3 = σ (5020 + j9) 3 from (congrFun (u2_ne (by omega)) 3)]; exact hgr j9 hj9) (fun j9 k9 hj9 hk9 => by rw [(u2_ne (by omega))]; exact hcd j9 k9 hj9 hk9)) ce_X10_pick ml_X10_57 iv_X10_pick cl_X10 rfl (lm_9000 (σ := u2 σ 9002 i (-1)) (fl1 hc)) (xx_dt dd_X10_pick 63 rfl) (by omega) rfl rfl (Nat.le_of_ble_eq_true rfl) rfl ?_
    refine sw_iconst (x := 0) O (xx_dt dd_X10_pick 64 rfl) (by decide) ?_
    refine sw_istore (ls2 := [.ref 9000, .int (nI i), .int (nI S), .int x, .ref (5020 + i), .int 0]) O (xx_dt dd_X10_pick 65 rfl) (by decide) rfl ?_
    refine sw_forB (S := XS9) (fun i119 s119 => (if (σ (5020 + i) 4) = 0 then (if (f_CcanTake s119 i (cd i i119) (gr i)) = 0 then .inl s119 else .inl (g_Ctake (g_rec (u2 (g_Ctake s119 i (cd i i119) 1 (gr i)) 9002 i (nI i119)) (S ||| 2 ^ i) (x + (f_Bamount (u2 (g_Ctake s119 i (cd i i119) 1 (gr i)) 9002 i (nI i119)) i i119))) i (cd i i119) (-1) (gr i))) else .inr s119)) (fun _ s119 => s119 9000 20 = nI 1 ∧ (∀ q, (q < 9000 ∨ 9005 < q) → s119 q = σ q)) (fun s119 => s119 9000 20 = nI 1 ∧ (∀ q, (q < 9000 ∨ 9005 < q) → s119 q = σ q)) (hp := fun s119 => setM z s119 h) (hd := 119) (lc := fun i119 s119 => [.ref 9000, .int (nI i), .int (nI S), .int x, .ref (5020 + i), .int (nI i119)]) (ex := 219) (lx := fun s119 => [.ref 9000, .int (nI i), .int (nI S), .int x, .ref (5020 + i), xx_d]) (N := (pk i)) (fun i119 s119 hi119 hP119 => ⟨⟨(by intro s' e'; revert e'; (try dsimp only); (repeat' split) <;> intro e' <;> first | (cases e'; done) | (have e9 := Sum.inl.inj e'; subst e9; (refine ⟨?_, ?_⟩ <;> (first | exact hP119.1 | exact hP119.2 | exact (fun q9 hq9 => by simp (disch := omega) only [u2_ne, fr_rec, fr_Ctake]; exact hP119.2 q9 hq9) | exact (by simp (disch := omega) only [u2_ne, fr_rec20, fr_Ctake]; exact hP119.1) | exact hi119 | exact .inl rfl | exact .inr rfl | (simp (disch := omega) only [u2_ne, uR_ne, fr_fill, fr_Ctake]; first | exact hP119.1 | exact hP119.2 | exact (fun q9 hq9 => by simp (disch := omega) only [u2_ne, fr_rec, fr_Ctake]; exact hP119.2 q9 hq9) | exact (by simp (disch := omega) only [u2_ne, fr_rec20, fr_Ctake]; exact hP119.1))))) | (have e9 := Sum.inr.inj e'; subst e9; (refine ⟨?_, ?_⟩ <;> (first | exact hP119.1 | exact hP119.2 | exact (fun q9 hq9 => by simp (disch := omega) only [u2_ne, fr_rec, fr_Ctake]; exact hP119.2 q9 hq9) | exact (by simp (disch := omega) only [u2_ne, fr_rec20, fr_Ctake]; exact hP119.1) | exact hi119 | exact .inl rfl | exact .inr rfl | (simp (disch := omega) only [u2_ne, uR_ne, fr_fill, fr_Ctake]; first | exact hP119.1 | exact hP119.2 | exact (fun q9 hq9 => by simp (disch := omega) only [u2_ne, fr_rec, fr_Ctake]; exact hP119.2 q9 hq9) | exact (by simp (disch := omega) only [u2_ne, fr_rec20, fr_Ctake]; exact hP119.1)))))), (by intro s' e'; revert e'; (try dsimp only); (repeat' split) <;> intro e' <;> first | (cases e'; done) | (have e9 := Sum.inl.inj e'; subst e9; (refine ⟨?_, ?_⟩ <;> (first | exact hP119.1 | exact hP119.2 | exact (fun q9 hq9 => by simp (disch := omega) only [u2_ne, fr_rec, fr_Ctake]; exact hP119.2 q9 hq9) | exact (by simp (disch := omega) only [u2_ne, fr_rec20, fr_Ctake]; exact hP119.1) | exact hi119 | exact .inl rfl | exact .inr rfl | (simp (disch := omega) only [u2_ne, uR_ne, fr_fill, fr_Ctake]; first | exact hP119.1 | exact hP119.2 | exact (fun q9 hq9 => by simp (disch := omega) only [u2_ne, fr_rec, fr_Ctake]; exact hP119.2 q9 hq9) | exact (by simp (disch := omega) only [u2_ne, fr_rec20, fr_Ctake]; exact hP119.1))))) | (have e9 := Sum.inr.inj e'; subst e9; (refine ⟨?_, ?_⟩ <;> (first | exact hP119.1 | exact hP119.2 | exact (fun q9 hq9 => by simp (disch := omega) only [u2_ne, fr_rec, fr_Ctake]; exact hP119.2 q9 hq9) | exact (by simp (disch := omega) only [u2_ne, fr_rec20, fr_Ctake]; exact hP119.1) | exact hi119 | exact .inl rfl | exact .inr rfl | (simp (disch := omega) only [u2_ne, uR_ne, fr_fill, fr_Ctake]; first | exact hP119.1 | exact hP119.2 | exact (fun q9 hq9 => by simp (disch := omega) only [u2_ne, fr_rec, fr_Ctake]; exact hP119.2 q9 hq9) | exact (by simp (disch := omega) only [u2_ne, fr_rec20, fr_Ctake]; exact hP119.1))))))⟩, fun kk119 kb119 => ?_⟩) (fun s119 hP119 => ⟨hP119, fun kx119 => ?_⟩) (pk i) 0 (g_rec (u2 σ 9002 i (-1)) S x) (by omega) (⟨(show (g_rec (u2 σ 9002 i (-1)) S x) 9000 20 = nI 1 from ((fr_rec20).trans hc)), (fun q hq => by simp (disch := omega) only [u2_ne, fr_rec])⟩) (fun hP119 => ?_)
    · refine sw_iload O (xx_dt dd_X10_pick 66 rfl) rfl ?_
      refine sw_aload O (xx_dt dd_X10_pick 67 rfl) rfl ?_
      have hq123 := (hpk i (by omega)).2
      refine sw_callVx (as := []) (st := [.int (nI i119)]) (st2 := [.int (nI (pk i)), .int (nI i119)]) O ((show XEx _ _ _ _ _ _ _ (some (.int (nI (pk i)))) _ from ct_X9_many hl (z := z) (σ := s119) hbs (B := B) ((congrFun (hP119.2 _ (by omega)) 900).trans hB) (by omega) (j := i) (by omega) (p := pk i) ((congrFun (hP119.2 _ (by omega)) 900).trans (hpk i (by omega)).1) (by have h9 := (hpk i (by omega)).2; omega))) ce_X9_many ml_X10_78 iv_X9_many cl_X9 rfl (lm_bid (σ := s119) (B := B) ((congrFun (hP119.2 _ (by omega)) 900).trans hB) (by omega) (j := i) (by omega)) (xx_dt dd_X10_pick 68 rfl) (by omega) rfl rfl (Nat.le_of_ble_eq_true rfl) rfl ?_
      refine sw_icmp_ge (tgt := 219) O (xx_dt dd_X10_pick 69 rfl) (by decide) (fun q2 => ?_) (fun q2 => ?_)
      · exact absurd q2 (nI_ge (b := (pk i)) hi119 (by omega))
      · have hk6 := (hpk i hi).2
        refine sw_aload O (xx_dt dd_X10_pick 70 rfl) rfl ?_
        refine sw_get (v := .int (σ (5020 + i) 4)) O (xx_dt dd_X10_pick 71 rfl) cl_X9 fl_X10_81 (lm_bid (σ := s119) (B := B) ((congrFun (hP119.2 _ (by omega)) 900).trans hB) (by omega) (j := i) (by omega)) (by decide) (congrArg Value.int (congrFun (hP119.2 _ (by omega)) 4)) ?_
        refine sw_if_ne (tgt := 219) O (xx_dt dd_X10_pick 72 rfl) (by decide) (fun q3 => ?_) (fun q3 => ?_)
        · refine sw_dum (ls2 := [.ref 9000, .int (nI i), .int (nI S), .int x, .ref (5020 + i), xx_d]) ⟨.inr rfl, .inr rfl, .inr rfl, .inr rfl, .inr rfl, .inl rfl, trivial⟩ ?_
          exact kb119 s119 (by simp only [if_neg q3])
        · refine sw_aload_n O (xx_dt dd_X10_pick 73 rfl) rfl ?_
          refine sw_aload O (xx_dt dd_X10_pick 74 rfl) rfl ?_
          refine sw_aload O (xx_dt dd_X10_pick 75 rfl) rfl ?_
          refine sw_iload O (xx_dt dd_X10_pick 76 rfl) rfl ?_
          have hk144 := (hcd i i119 (by omega) (by first | assumption | omega)).2
          refine sw_callVx (as := [.int (nI i119)]) (st := [.ref (5020 + i), .ref 9000]) (st2 := [.int (nI (cd i i119)), .ref (5020 + i), .ref 9000]) O (ct_codeN hl (z := z) (σ := s119) hbs (B := B) ((congrFun (hP119.2 _ (by omega)) 900).trans hB) (by omega) (j := i) (by omega) (p := pk i) ((congrFun (hP119.2 _ (by omega)) 900).trans (hpk i (by omega)).1) (by have h9 := (hpk i (by omega)).2; omega) (k := i119) (by first | omega | (have h9 := (hpk i (by omega)).2; omega)) (c := cd i i119) ((congrFun (hP119.2 _ (by omega)) (2 * i119)).trans (hcd i i119 (by omega) (by first | assumption | omega)).1)) ce_X9_code ml_X10_85 iv_X9_code cl_X9 rfl (lm_bid (σ := s119) (B := B) ((congrFun (hP119.2 _ (by omega)) 900).trans hB) (by omega) (j := i) (by omega)) (xx_dt dd_X10_pick 77 rfl) (by omega) rfl rfl (Nat.le_of_ble_eq_true rfl) rfl ?_
          refine sw_callVx (as := [.ref (5020 + i), .int (nI (cd i i119))]) (st := []) (st2 := [.int (f_CcanTake s119 i (cd i i119) (gr i))]) O (ct_X10_canTake hl (z := z) (σ := s119) hbs hP119.1 (B := B) ((congrFun (hP119.2 _ (by omega)) 900).trans hB) (by omega) (j := i) (by omega) (gr := gr i) ((congrFun (hP119.2 _ (by omega)) 3).trans (hgr i (by omega)).1) (by have h9 := (hgr i (by omega)).2; omega) (c := cd i i119) (by omega)) ce_X10_canTake ml_X10_89 iv_X10_canTake cl_X10 rfl (lm_9000 (σ := s119) (fl1 hP119.1)) (xx_dt dd_X10_pick 78 rfl) (by omega) rfl rfl (Nat.le_of_ble_eq_true rfl) rfl ?_
          refine sw_if_ne (tgt := 156) O (xx_dt dd_X10_pick 79 rfl) (by decide) (fun q4 => ?_) (fun q4 => ?_)
          · refine sw_aload_n O (xx_dt dd_X10_pick 81 rfl) rfl ?_
            refine sw_aload O (xx_dt dd_X10_pick 82 rfl) rfl ?_
            refine sw_aload O (xx_dt dd_X10_pick 83 rfl) rfl ?_
            refine sw_iload O (xx_dt dd_X10_pick 84 rfl) rfl ?_
            have hk163 := (hcd i i119 (by omega) (by first | assumption | omega)).2
            refine sw_callVx (as := [.int (nI i119)]) (st := [.ref (5020 + i), .ref 9000]) (st2 := [.int (nI (cd i i119)), .ref (5020 + i), .ref 9000]) O (ct_codeN hl (z := z) (σ := s119) hbs (B := B) ((congrFun (hP119.2 _ (by omega)) 900).trans hB) (by omega) (j := i) (by omega) (p := pk i) ((congrFun (hP119.2 _ (by omega)) 900).trans (hpk i (by omega)).1) (by have h9 := (hpk i (by omega)).2; omega) (k := i119) (by first | omega | (have h9 := (hpk i (by omega)).2; omega)) (c := cd i i119) ((congrFun (hP119.2 _ (by omega)) (2 * i119)).trans (hcd i i119 (by omega) (by first | assumption | omega)).1)) ce_X9_code ml_X10_85 iv_X9_code cl_X9 rfl (lm_bid (σ := s119) (B := B) ((congrFun (hP119.2 _ (by omega)) 900).trans hB) (by omega) (j := i) (by omega)) (xx_dt dd_X10_pick 85 rfl) (by omega) rfl rfl (Nat.le_of_ble_eq_true rfl) rfl ?_
            refine sw_iconst (x := 1) O (xx_dt dd_X10_pick 86 rfl) (by decide) ?_
            refine sw_callVx (as := [.ref (5020 + i), .int (nI (cd i i119)), .int 1]) (st := []) (st2 := []) O (ct_X10_take hl (z := z) (σ := s119) hbs hP119.1 (B := B) ((congrFun (hP119.2 _ (by omega)) 900).trans hB) (by omega) (j := i) (by omega) (gr := gr i) ((congrFun (hP119.2 _ (by omega)) 3).trans (hgr i (by omega)).1) (by have h9 := (hgr i (by omega)).2; omega) (c := cd i i119) (x := 1) (by omega)) ce_X10_take ml_X10_93 iv_X10_take cl_X10 rfl (lm_9000 (σ := s119) (fl1 hP119.1)) (xx_dt dd_X10_pick 87 rfl) (by omega) rfl rfl (Nat.le_of_ble_eq_true rfl) rfl ?_
            refine sw_aload_n O (xx_dt dd_X10_pick 88 rfl) rfl ?_
            refine sw_get (v := .ref 9002) O (xx_dt dd_X10_pick 89 rfl) cl_X10 fl_X10_19 (lm_9000 (σ := g_Ctake s119 i (cd i i119) 1 (gr i)) (fl1 ((congrFun (fr_Ctake (by omega)) 20).trans hP119.1))) (by decide) rfl ?_
            refine sw_iload_n O (xx_dt dd_X10_pick 90 rfl) rfl ?_
            refine sw_iload O (xx_dt dd_X10_pick 91 rfl) rfl ?_
            refine sw_iastore (h2 := setM z (u2 (g_Ctake s119 i (cd i i119) 1 (gr i)) 9002 i (nI i119)) h) O (xx_dt dd_X10_pick 92 rfl) ((im_9002 (z := z) (σ := g_Ctake s119 i (cd i i119) 1 (gr i)) ((congrFun (fr_Ctake (by omega)) 20).trans hP119.1)).get _) (pk_in i _ (by omega)) (by omega) (by rw [nI_clamp (by omega)]; exact ((im_9002 (z := z) (σ := g_Ctake s119 i (cd i i119) 1 (gr i)) ((congrFun (fr_Ctake (by omega)) 20).trans hP119.1)).put (by omega))) ?_
            refine sw_aload_n O (xx_dt dd_X10_pick 93 rfl) rfl ?_
            refine sw_iload_n O (xx_dt dd_X10_pick 94 rfl) rfl ?_
            refine sw_iconst (x := 1) O (xx_dt dd_X10_pick 95 rfl) (by decide) ?_
            refine sw_iadd O (xx_dt dd_X10_pick 96 rfl) ?_
            rw [nI_a1 i]
            refine sw_iload_n O (xx_dt dd_X10_pick 97 rfl) rfl ?_
            refine sw_iconst (x := 1) O (xx_dt dd_X10_pick 98 rfl) (by decide) ?_
            refine sw_iload_n O (xx_dt dd_X10_pick 99 rfl) rfl ?_
            refine sw_ishl O (xx_dt dd_X10_pick 100 rfl) ?_
            refine sw_ior O (xx_dt dd_X10_pick 101 rfl) ?_
            refine sw_iload_n O (xx_dt dd_X10_pick 102 rfl) rfl ?_
            refine sw_aload O (xx_dt dd_X10_pick 103 rfl) rfl ?_
            refine sw_iload O (xx_dt dd_X10_pick 104 rfl) rfl ?_
            refine sw_callVx (as := [.int (nI i119)]) (st := [.int x, .int ((nI S) ||| (1 <<< ((nI i) &&& 31))), .int (nI (i + 1)), .ref 9000]) (st2 := [.int (f_Bamount (u2 (g_Ctake s119 i (cd i i119) 1 (gr i)) 9002 i (nI i119)) i i119), .int x, .int ((nI S) ||| (1 <<< ((nI i) &&& 31))), .int (nI (i + 1)), .ref 9000]) O (ct_X9_amount hl (z := z) (σ := u2 (g_Ctake s119 i (cd i i119) 1 (gr i)) 9002 i (nI i119)) hbs (B := B) ((((congrFun (u2_ne (by omega)) 900).trans (congrFun (fr_Ctake (by omega)) 900)).trans (congrFun (hP119.2 _ (by omega)) 900)).trans hB) (by omega) (j := i) (by omega) (p := pk i) ((((congrFun (u2_ne (by omega)) 900).trans (congrFun (fr_Ctake (by omega)) 900)).trans (congrFun (hP119.2 _ (by omega)) 900)).trans (hpk i (by omega)).1) (by have h9 := (hpk i (by omega)).2; omega) (k := i119) (by first | omega | (have h9 := (hpk i (by omega)).2; omega))) ce_X9_amount ml_X10_97 iv_X9_amount cl_X9 rfl (lm_bid (σ := u2 (g_Ctake s119 i (cd i i119) 1 (gr i)) 9002 i (nI i119)) (B := B) ((((congrFun (u2_ne (by omega)) 900).trans (congrFun (fr_Ctake (by omega)) 900)).trans (congrFun (hP119.2 _ (by omega)) 900)).trans hB) (by omega) (j := i) (by omega)) (xx_dt dd_X10_pick 105 rfl) (by omega) rfl rfl (Nat.le_of_ble_eq_true rfl) rfl ?_
            refine sw_iadd O (xx_dt dd_X10_pick 106 rfl) ?_
            refine sw_callVx (as := [.int (nI (i + 1)), .int ((nI S) ||| (1 <<< ((nI i) &&& 31))), .int (x + (f_Bamount (u2 (g_Ctake s119 i (cd i i119) 1 (gr i)) 9002 i (nI i119)) i i119))]) (st := []) (st2 := []) O (ih (u2 (g_Ctake s119 i (cd i i119) 1 (gr i)) 9002 i (nI i119)) (S ||| 2 ^ i) ((nI S) ||| (1 <<< ((nI i) &&& 31))) (x + (f_Bamount (u2 (g_Ctake s119 i (cd i i119) 1 (gr i)) 9002 i (nI i119)) i i119)) (or_bit (S := S) (i := i) (by omega) (by omega)) (or_bit_lt (by omega) (by omega)) (((congrFun (u2_ne (by omega)) 20).trans (congrFun (fr_Ctake (by omega)) 20)).trans hP119.1) ((((congrFun (u2_ne (by omega)) 900).trans (congrFun (fr_Ctake (by omega)) 900)).trans (congrFun (hP119.2 _ (by omega)) 900)).trans hB) (fun j9 hj9 => by rw [(((u2_ne (by omega)).trans (fr_Ctake (by omega))).trans (hP119.2 _ (by omega)))]; exact hpk j9 hj9) (fun j9 hj9 => by rw [show (u2 (g_Ctake s119 i (cd i i119) 1 (gr i)) 9002 i (nI i119)) (5020 + j9) 3 = σ (5020 + j9) 3 from (((congrFun (u2_ne (by omega)) 3).trans (congrFun (fr_Ctake (by omega)) 3)).trans (congrFun (hP119.2 _ (by omega)) 3))]; exact hgr j9 hj9) (fun j9 k9 hj9 hk9 => by rw [(((u2_ne (by omega)).trans (fr_Ctake (by omega))).trans (hP119.2 _ (by omega)))]; exact hcd j9 k9 hj9 hk9)) ce_X10_pick ml_X10_57 iv_X10_pick cl_X10 rfl (lm_9000 (σ := u2 (g_Ctake s119 i (cd i i119) 1 (gr i)) 9002 i (nI i119)) (fl1 (((congrFun (u2_ne (by omega)) 20).trans (congrFun (fr_Ctake (by omega)) 20)).trans hP119.1))) (xx_dt dd_X10_pick 107 rfl) (by omega) rfl rfl (Nat.le_of_ble_eq_true rfl) rfl ?_
            refine sw_aload_n O (xx_dt dd_X10_pick 108 rfl) rfl ?_
            refine sw_aload O (xx_dt dd_X10_pick 109 rfl) rfl ?_
            refine sw_aload O (xx_dt dd_X10_pick 110 rfl) rfl ?_
            refine sw_iload O (xx_dt dd_X10_pick 111 rfl) rfl ?_
            have hk206 := (hcd i i119 (by omega) (by first | assumption | omega)).2
            refine sw_callVx (as := [.int (nI i119)]) (st := [.ref (5020 + i), .ref 9000]) (st2 := [.int (nI (cd i i119)), .ref (5020 + i), .ref 9000]) O (ct_codeN hl (z := z) (σ := g_rec (u2 (g_Ctake s119 i (cd i i119) 1 (gr i)) 9002 i (nI i119)) (S ||| 2 ^ i) (x + (f_Bamount (u2 (g_Ctake s119 i (cd i i119) 1 (gr i)) 9002 i (nI i119)) i i119))) hbs (B := B) (((((congrFun (fr_rec (by omega)) 900).trans (congrFun (u2_ne (by omega)) 900)).trans (congrFun (fr_Ctake (by omega)) 900)).trans (congrFun (hP119.2 _ (by omega)) 900)).trans hB) (by omega) (j := i) (by omega) (p := pk i) (((((congrFun (fr_rec (by omega)) 900).trans (congrFun (u2_ne (by omega)) 900)).trans (congrFun (fr_Ctake (by omega)) 900)).trans (congrFun (hP119.2 _ (by omega)) 900)).trans (hpk i (by omega)).1) (by have h9 := (hpk i (by omega)).2; omega) (k := i119) (by first | omega | (have h9 := (hpk i (by omega)).2; omega)) (c := cd i i119) (((((congrFun (fr_rec (by omega)) (2 * i119)).trans (congrFun (u2_ne (by omega)) (2 * i119))).trans (congrFun (fr_Ctake (by omega)) (2 * i119))).trans (congrFun (hP119.2 _ (by omega)) (2 * i119))).trans (hcd i i119 (by omega) (by first | assumption | omega)).1)) ce_X9_code ml_X10_85 iv_X9_code cl_X9 rfl (lm_bid (σ := g_rec (u2 (g_Ctake s119 i (cd i i119) 1 (gr i)) 9002 i (nI i119)) (S ||| 2 ^ i) (x + (f_Bamount (u2 (g_Ctake s119 i (cd i i119) 1 (gr i)) 9002 i (nI i119)) i i119))) (B := B) (((((congrFun (fr_rec (by omega)) 900).trans (congrFun (u2_ne (by omega)) 900)).trans (congrFun (fr_Ctake (by omega)) 900)).trans (congrFun (hP119.2 _ (by omega)) 900)).trans hB) (by omega) (j := i) (by omega)) (xx_dt dd_X10_pick 112 rfl) (by omega) rfl rfl (Nat.le_of_ble_eq_true rfl) rfl ?_
            refine sw_iconst (x := (-1)) O (xx_dt dd_X10_pick 113 rfl) (by decide) ?_
            refine sw_callVx (as := [.ref (5020 + i), .int (nI (cd i i119)), .int (-1)]) (st := []) (st2 := []) O (ct_X10_take hl (z := z) (σ := g_rec (u2 (g_Ctake s119 i (cd i i119) 1 (gr i)) 9002 i (nI i119)) (S ||| 2 ^ i) (x + (f_Bamount (u2 (g_Ctake s119 i (cd i i119) 1 (gr i)) 9002 i (nI i119)) i i119))) hbs ((((fr_rec20).trans (congrFun (u2_ne (by omega)) 20)).trans (congrFun (fr_Ctake (by omega)) 20)).trans hP119.1) (B := B) (((((congrFun (fr_rec (by omega)) 900).trans (congrFun (u2_ne (by omega)) 900)).trans (congrFun (fr_Ctake (by omega)) 900)).trans (congrFun (hP119.2 _ (by omega)) 900)).trans hB) (by omega) (j := i) (by omega) (gr := gr i) (((((congrFun (fr_rec (by omega)) 3).trans (congrFun (u2_ne (by omega)) 3)).trans (congrFun (fr_Ctake (by omega)) 3)).trans (congrFun (hP119.2 _ (by omega)) 3)).trans (hgr i (by omega)).1) (by have h9 := (hgr i (by omega)).2; omega) (c := cd i i119) (x := (-1)) (by omega)) ce_X10_take ml_X10_93 iv_X10_take cl_X10 rfl (lm_9000 (σ := g_rec (u2 (g_Ctake s119 i (cd i i119) 1 (gr i)) 9002 i (nI i119)) (S ||| 2 ^ i) (x + (f_Bamount (u2 (g_Ctake s119 i (cd i i119) 1 (gr i)) 9002 i (nI i119)) i i119))) (fl1 ((((fr_rec20).trans (congrFun (u2_ne (by omega)) 20)).trans (congrFun (fr_Ctake (by omega)) 20)).trans hP119.1))) (xx_dt dd_X10_pick 114 rfl) (by omega) rfl rfl (Nat.le_of_ble_eq_true rfl) rfl ?_
            refine sw_iinc (y := nI (i119 + 1)) (ls2 := [.ref 9000, .int (nI i), .int (nI S), .int x, .ref (5020 + i), .int (nI (i119 + 1))]) O (xx_dt dd_X10_pick 115 rfl) rfl (nI_1 _) (by decide) rfl ?_
            refine sw_goto (tgt := 119) O (xx_dt dd_X10_pick 116 rfl) (by decide) ?_
            exact kk119 (g_Ctake (g_rec (u2 (g_Ctake s119 i (cd i i119) 1 (gr i)) 9002 i (nI i119)) (S ||| 2 ^ i) (x + (f_Bamount (u2 (g_Ctake s119 i (cd i i119) 1 (gr i)) 9002 i (nI i119)) i i119))) i (cd i i119) (-1) (gr i)) (by simp only [if_pos q3, if_neg q4])
          · refine sw_goto (tgt := 213) O (xx_dt dd_X10_pick 80 rfl) (by decide) ?_
            refine sw_iinc (y := nI (i119 + 1)) (ls2 := [.ref 9000, .int (nI i), .int (nI S), .int x, .ref (5020 + i), .int (nI (i119 + 1))]) O (xx_dt dd_X10_pick 115 rfl) rfl (nI_1 _) (by decide) rfl ?_
            refine sw_goto (tgt := 119) O (xx_dt dd_X10_pick 116 rfl) (by decide) ?_
            exact kk119 s119 (by simp only [if_pos q3, if_pos q4])
    · show SW Y _ _ (setM z s119 h) 119 [.ref 9000, .int (nI i), .int (nI S), .int x, .ref (5020 + i), .int (nI ((pk i)))] []
      have hP119 : s119 9000 20 = nI 1 ∧ (∀ q, (q < 9000 ∨ 9005 < q) → s119 q = σ q) := hP119
      refine sw_iload O (xx_dt dd_X10_pick 66 rfl) rfl ?_
      refine sw_aload O (xx_dt dd_X10_pick 67 rfl) rfl ?_
      have hq123 := (hpk i (by omega)).2
      refine sw_callVx (as := []) (st := [.int (nI ((pk i)))]) (st2 := [.int (nI (pk i)), .int (nI ((pk i)))]) O ((show XEx _ _ _ _ _ _ _ (some (.int (nI (pk i)))) _ from ct_X9_many hl (z := z) (σ := s119) hbs (B := B) ((congrFun (hP119.2 _ (by omega)) 900).trans hB) (by omega) (j := i) (by omega) (p := pk i) ((congrFun (hP119.2 _ (by omega)) 900).trans (hpk i (by omega)).1) (by have h9 := (hpk i (by omega)).2; omega))) ce_X9_many ml_X10_78 iv_X9_many cl_X9 rfl (lm_bid (σ := s119) (B := B) ((congrFun (hP119.2 _ (by omega)) 900).trans hB) (by omega) (j := i) (by omega)) (xx_dt dd_X10_pick 68 rfl) (by omega) rfl rfl (Nat.le_of_ble_eq_true rfl) rfl ?_
      refine sw_icmp_ge (tgt := 219) O (xx_dt dd_X10_pick 69 rfl) (by decide) (fun q2 => ?_) (fun q2 => ?_)
      · refine sw_dum (ls2 := [.ref 9000, .int (nI i), .int (nI S), .int x, .ref (5020 + i), xx_d]) ⟨.inr rfl, .inr rfl, .inr rfl, .inr rfl, .inr rfl, .inl rfl, trivial⟩ ?_
        exact kx119
      · exact absurd (Int32.le_refl _) q2
    · show SW Y _ _ (setM z (x_CpickStep_119 σ g_rec i S x B pk gr cd (g_rec (u2 σ 9002 i (-1)) S x)) h) 219 [.ref 9000, .int (nI i), .int (nI S), .int x, .ref (5020 + i), xx_d] []
      exact sw_ret O (xx_dt dd_X10_pick 117 rfl) rfl (by rw [hQ]; exact ⟨rfl, by unfold g_CpickStep; rfl⟩)
  · exact absurd q1 (fun e => absurd (congrArg cn e) (by rw [cn_nI (by omega), cn_nI (by omega)]; omega))
theorem fr_CpickStep {σ : XS9} {g_rec : XS9 → Nat → Int32 → XS9} (fr_rec : ∀ {σ : XS9} {S : Nat} {x : Int32} {q : Nat}, (q < 9000 ∨ 9005 < q) → g_rec σ S x q = σ q) (fr_rec20 : ∀ {σ : XS9} {S : Nat} {x : Int32}, g_rec σ S x 9000 20 = σ 9000 20) {i S : Nat} {x : Int32} {B : Nat} {pk gr : Nat → Nat} {cd : Nat → Nat → Nat} {q : Nat} : ((q < 9000 ∨ 9005 < q) → g_CpickStep σ g_rec i S x B pk gr cd q = σ q) ∧ g_CpickStep σ g_rec i S x B pk gr cd 9000 20 = σ 9000 20 := by
  have H0 : ∀ s0 q, (q < 9000 ∨ 9005 < q) → (x_CpickStep_119 σ g_rec i S x B pk gr cd s0) q = s0 q := fun s0 q hq => xitB_keep (fun s : XS9 => s q) (fun i s s' e => by
    revert e
    (try dsimp only)
    (repeat' split) <;> intro e <;> rcases e with e | e <;> first | (cases e; done) | (injection e with e; subst e; first | rfl | simp (disch := omega) only [u2_ne, fr_rec, fr_Ctake])) _ _ _
  have H1 : ∀ s0, (x_CpickStep_119 σ g_rec i S x B pk gr cd s0) 9000 20 = s0 9000 20 := fun s0 => xitB_keep (fun s : XS9 => s 9000 20) (fun i s s' e => by
    revert e
    (try dsimp only)
    (repeat' split) <;> intro e <;> rcases e with e | e <;> first | (cases e; done) | (injection e with e; subst e; first | rfl | simp (disch := omega) only [u2_ne, fr_rec20, fr_Ctake])) _ _ _
  unfold g_CpickStep
  refine ⟨fun hq => ?_, ?_⟩
  · simp (disch := omega) only [H0, fr_rec, u2_ne]
  · simp (disch := omega) only [H1, fr_rec20, u2_ne]
def g_Cpick (B : Nat) (pk gr : Nat → Nat) (cd : Nat → Nat → Nat) : Nat → Nat → XS9 → Nat → Int32 → XS9
  | 0, _, σ, S, x => g_CpickBase σ S x B
  | f + 1, i, σ, S, x => g_CpickStep σ (fun σ S x => g_Cpick B pk gr cd f (i + 1) σ S x) i S x B pk gr cd
theorem fr2_Cpick {B : Nat} {pk gr : Nat → Nat} {cd : Nat → Nat → Nat} : ∀ (f i : Nat) {σ : XS9} {S : Nat} {x : Int32} {q : Nat}, ((q < 9000 ∨ 9005 < q) → g_Cpick B pk gr cd f i σ S x q = σ q) ∧ g_Cpick B pk gr cd f i σ S x 9000 20 = σ 9000 20
  | 0, i, σ, S, x, q => fr_CpickBase
  | f + 1, i, σ, S, x, q => fr_CpickStep (fun h => (fr2_Cpick f (i + 1)).1 h) (fr2_Cpick f (i + 1) (q := 0)).2
theorem ct_Cpick {l : Launch} {h : XH} (hl : l.stackTraces = false) {z : Int64} (hbs : xx_bs h) {B : Nat} {pk gr : Nat → Nat} {cd : Nat → Nat → Nat} (hB6 : B ≤ 6) : ∀ (f i : Nat), i + f = B → ∀ (σ : XS9) (S : Nat) (y x : Int32), y = nI S → S < 64 → σ 9000 20 = nI 1 → σ 5002 900 = nI B → (∀ j, j < B → σ (5030 + j) 900 = nI (2 * pk j) ∧ pk j ≤ 6) → (∀ j, j < B → σ (5020 + j) 3 = nI (gr j) ∧ gr j < 4) → (∀ j k, j < B → k < pk j → σ (5030 + j) (2 * k) = nI (cd j k) ∧ cd j k < 7776) → XEx l m_X10_pick (f + 6) 0 0 [.ref 9000, .int (nI i), .int y, .int x] (setM z σ h) none (setM z (g_Cpick B pk gr cd f i σ S x) h)
  | 0, i, e, σ, S, y, x, hy, hS, hc, hB, hpk, hgr, hcd => by
    subst hy
    obtain rfl : i = B := by omega
    exact ct_CpickBase hl hbs hc hB hB6 hS
  | f + 1, i, e, σ, S, y, x, hy, hS, hc, hB, hpk, hgr, hcd => by
    subst hy
    exact ct_CpickStep hl hbs hc hB hB6 hpk hgr hcd (fun h => (fr2_Cpick f (i + 1)).1 h) (fr2_Cpick f (i + 1) (q := 0)).2 (by omega) hS (d0 := f + 6) (by omega) (fun σ S y x e1 e2 e3 e4 e5 e6 e7 => ct_Cpick hl hbs hB6 f (i + 1) (by omega) σ S y x e1 e2 e3 e4 e5 e6 e7)
theorem fr_Cpick {B : Nat} {pk gr : Nat → Nat} {cd : Nat → Nat → Nat} {f i : Nat} {σ : XS9} {S : Nat} {x : Int32} {q : Nat} (h : q < 9000 ∨ 9005 < q) : g_Cpick B pk gr cd f i σ S x q = σ q := (fr2_Cpick f i).1 h
