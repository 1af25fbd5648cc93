/-! ===== the reference: what is only read, the model's ===== -/
theorem nB_lt {x : Int32} {C : Nat} (hC : C ≤ 10) : (¬ x < 0 ∧ x < (1 : Int32) <<< (nI C &&& 31)) ↔ n_lt x (2 ^ C) := by
  have e : (1 : Int32) <<< (nI C &&& 31) = nI (2 ^ C) := by
    have : ∀ a : Fin 11, (1 : Int32) <<< (nI a.1 &&& 31) = nI (2 ^ a.1) := by decide +kernel
    exact this ⟨C, by omega⟩
  have h2 : 2 ^ C ≤ 1024 := by
    have : ∀ a : Fin 11, 2 ^ a.1 ≤ 1024 := by decide
    exact this ⟨C, by omega⟩
  rw [e, n_lt_iff (by omega)]
def f_MareStations (σ : XS9) (x : Int32) (C : Nat) : Int32 := (if x < 0 then 0 else (if (1 <<< ((nI C) &&& 31)) ≤ x then 0 else 1))
theorem ct_areStations0 {l : Launch} {h : XH} (hl : l.stackTraces = false) {z : Int64} {σ : XS9} (hbs : xx_bs h) {C : Nat} (hS : σ 5004 900 = nI (2 * C)) (hC10 : C ≤ 10) {x : Int32} : XEx l m_X14_areStations 1 0 0 [.ref 5000, .int x] (setM z σ h) (some (.int (f_MareStations σ x C))) (setM z σ h) := by
  refine XMet.of hl rfl rfl (Nat.le_of_ble_eq_true rfl) (fun Y O hh hQ => ?_)
  show SW Y 0 0 (setM z σ h) 0 [.ref 5000, .int x] []
  refine sw_iload_n O (xx_dt dd_X14_areStations 0 rfl) rfl ?_
  refine sw_if_lt (tgt := 23) O (xx_dt dd_X14_areStations 1 rfl) (by decide) (fun q1 => ?_) (fun q1 => ?_)
  · refine sw_iconst (x := 0) O (xx_dt dd_X14_areStations 13 rfl) (by decide) ?_
    exact sw_iret O (xx_dt dd_X14_areStations 14 rfl) rfl rfl (by rw [hQ]; exact ⟨by unfold f_MareStations; simp only [if_pos q1], rfl⟩)
  · refine sw_iload_n O (xx_dt dd_X14_areStations 2 rfl) rfl ?_
    refine sw_iconst (x := 1) O (xx_dt dd_X14_areStations 3 rfl) (by decide) ?_
    refine sw_aload_n O (xx_dt dd_X14_areStations 4 rfl) rfl ?_
    refine sw_get (v := .ref 5004) O (xx_dt dd_X14_areStations 5 rfl) cl_X14 fl_X14_33 (lm_mod (σ := σ)) (by decide) rfl ?_
    refine sw_callVL (ci := 6) (as := []) (st := [.int 1, .int x]) (st2 := [.int (nI (2 * C)), .int 1, .int x]) O (ct_AL_size hl (lm_5004 (σ := σ) (S := 2 * C) hS (by omega))) ce_Jx4a65c_size_8abf5 ml_X14_57 iv_Jx4a65c_size_8abf5 cl_Jx4a65c rfl (lm_5004 (σ := σ) (S := 2 * C) hS (by omega)) (xx_dt dd_X14_areStations 6 rfl) (by decide) rfl rfl (Nat.le_of_ble_eq_true rfl) rfl ?_
    refine sw_iconst (x := 2) O (xx_dt dd_X14_areStations 7 rfl) (by decide) ?_
    refine sw_idiv O (xx_dt dd_X14_areStations 8 rfl) (by first | decide | assumption) ?_
    have hx14 := trivial
    rw [nI_half (by omega)]
    refine sw_ishl O (xx_dt dd_X14_areStations 9 rfl) ?_
    refine sw_icmp_ge (tgt := 23) O (xx_dt dd_X14_areStations 10 rfl) (by decide) (fun q2 => ?_) (fun q2 => ?_)
    · refine sw_iconst (x := 0) O (xx_dt dd_X14_areStations 13 rfl) (by decide) ?_
      exact sw_iret O (xx_dt dd_X14_areStations 14 rfl) rfl rfl (by rw [hQ]; exact ⟨by unfold f_MareStations; simp only [if_neg q1, if_pos q2], rfl⟩)
    · refine sw_iconst (x := 1) O (xx_dt dd_X14_areStations 11 rfl) (by decide) ?_
      refine sw_goto (tgt := 24) O (xx_dt dd_X14_areStations 12 rfl) (by decide) ?_
      exact sw_iret O (xx_dt dd_X14_areStations 14 rfl) rfl rfl (by rw [hQ]; exact ⟨by unfold f_MareStations; simp only [if_neg q1, if_neg q2], rfl⟩)
theorem ct_X14_areStations {l : Launch} {h : XH} (hl : l.stackTraces = false) {z : Int64} {σ : XS9} (hbs : xx_bs h) {C : Nat} (hS : σ 5004 900 = nI (2 * C)) (hC10 : C ≤ 10) {x : Int32} : XEx l m_X14_areStations 1 0 0 [.ref 5000, .int x] (setM z σ h) (some (.int (bZ (n_lt x (2 ^ C))))) (setM z σ h) := by
  have e : f_MareStations σ x C = bZ (n_lt x (2 ^ C)) := by
    rw [← bZ_congr (nB_lt (by omega))]
    unfold f_MareStations bZ
    by_cases a : x < 0
    · simp [a]
    · by_cases b : x < (1 : Int32) <<< (nI C &&& 31) <;> simp [a, b]
  rw [← e]
  exact ct_areStations0 hl hbs hS hC10
def f_MareBidders (σ : XS9) (x : Int32) (B : Nat) : Int32 := (if x < 0 then 0 else (if (1 <<< ((nI B) &&& 31)) ≤ x then 0 else 1))
theorem ct_areBidders0 {l : Launch} {h : XH} (hl : l.stackTraces = false) {z : Int64} {σ : XS9} (hbs : xx_bs h) {B : Nat} (hB : σ 5002 900 = nI B) (hB6 : B ≤ 6) {x : Int32} : XEx l m_X14_areBidders 1 0 0 [.ref 5000, .int x] (setM z σ h) (some (.int (f_MareBidders σ x B))) (setM z σ h) := by
  refine XMet.of hl rfl rfl (Nat.le_of_ble_eq_true rfl) (fun Y O hh hQ => ?_)
  show SW Y 0 0 (setM z σ h) 0 [.ref 5000, .int x] []
  refine sw_iload_n O (xx_dt dd_X14_areBidders 0 rfl) rfl ?_
  refine sw_if_lt (tgt := 21) O (xx_dt dd_X14_areBidders 1 rfl) (by decide) (fun q1 => ?_) (fun q1 => ?_)
  · refine sw_iconst (x := 0) O (xx_dt dd_X14_areBidders 11 rfl) (by decide) ?_
    exact sw_iret O (xx_dt dd_X14_areBidders 12 rfl) rfl rfl (by rw [hQ]; exact ⟨by unfold f_MareBidders; simp only [if_pos q1], rfl⟩)
  · refine sw_iload_n O (xx_dt dd_X14_areBidders 2 rfl) rfl ?_
    refine sw_iconst (x := 1) O (xx_dt dd_X14_areBidders 3 rfl) (by decide) ?_
    refine sw_aload_n O (xx_dt dd_X14_areBidders 4 rfl) rfl ?_
    refine sw_get (v := .ref 5002) O (xx_dt dd_X14_areBidders 5 rfl) cl_X14 fl_X14_27 (lm_mod (σ := σ)) (by decide) rfl ?_
    refine sw_callVL (ci := 6) (as := []) (st := [.int 1, .int x]) (st2 := [.int (nI B), .int 1, .int x]) O (ct_AL_size hl (lm_5002 (σ := σ) (B := B) hB (by omega))) ce_Jx4a65c_size_8abf5 ml_X14_57 iv_Jx4a65c_size_8abf5 cl_Jx4a65c rfl (lm_5002 (σ := σ) (B := B) hB (by omega)) (xx_dt dd_X14_areBidders 6 rfl) (by decide) rfl rfl (Nat.le_of_ble_eq_true rfl) rfl ?_
    refine sw_ishl O (xx_dt dd_X14_areBidders 7 rfl) ?_
    refine sw_icmp_ge (tgt := 21) O (xx_dt dd_X14_areBidders 8 rfl) (by decide) (fun q2 => ?_) (fun q2 => ?_)
    · refine sw_iconst (x := 0) O (xx_dt dd_X14_areBidders 11 rfl) (by decide) ?_
      exact sw_iret O (xx_dt dd_X14_areBidders 12 rfl) rfl rfl (by rw [hQ]; exact ⟨by unfold f_MareBidders; simp only [if_neg q1, if_pos q2], rfl⟩)
    · refine sw_iconst (x := 1) O (xx_dt dd_X14_areBidders 9 rfl) (by decide) ?_
      refine sw_goto (tgt := 22) O (xx_dt dd_X14_areBidders 10 rfl) (by decide) ?_
      exact sw_iret O (xx_dt dd_X14_areBidders 12 rfl) rfl rfl (by rw [hQ]; exact ⟨by unfold f_MareBidders; simp only [if_neg q1, if_neg q2], rfl⟩)
theorem ct_X14_areBidders {l : Launch} {h : XH} (hl : l.stackTraces = false) {z : Int64} {σ : XS9} (hbs : xx_bs h) {B : Nat} (hB : σ 5002 900 = nI B) (hB6 : B ≤ 6) {x : Int32} : XEx l m_X14_areBidders 1 0 0 [.ref 5000, .int x] (setM z σ h) (some (.int (bZ (n_lt x (2 ^ B))))) (setM z σ h) := by
  have e : f_MareBidders σ x B = bZ (n_lt x (2 ^ B)) := by
    rw [← bZ_congr (nB_lt (by omega))]
    unfold f_MareBidders bZ
    by_cases a : x < 0
    · simp [a]
    · by_cases b : x < (1 : Int32) <<< (nI B &&& 31) <;> simp [a, b]
  rw [← e]
  exact ct_areBidders0 hl hbs hB hB6
def x_McanWish_45 (σ : XS9) (i r : Nat) (y : Int32) (R B g : Nat) (s0 : Int32) : Int32 := xit (fun i45 s45 => (if (nI i45) = (nI i) then s45 + 0 else (if (σ (5020 + i) 3) ≤ 0 then s45 + 0 else (if (σ (5020 + i45) 3) = (σ (5020 + i) 3) then s45 + (f_of (σ (7000 + 500 + g) i45) r) else s45 + 0)))) B 0 s0
def f_McanWish (σ : XS9) (i r : Nat) (y : Int32) (R B g : Nat) : Int32 := (if (f_of (σ (7000 + 500 + g) i) r) < y then (if (σ (5010 + r) 0) < y then 0 else (if (σ 5000 2) < (x_McanWish_45 σ i r y R B g y) then 0 else (if (σ (7000 + 3) i) < (f_Mpoints σ (f_with (σ (7000 + 500 + g) i) r y) R) then 0 else 1))) else 1)
theorem ct_X14_canWish {l : Launch} {h : XH} (hl : l.stackTraces = false) {z : Int64} {σ : XS9} (hbs : xx_bs h) {R : Nat} (hR : σ 5001 900 = nI R) (hR5 : R ≤ 5) {B : Nat} (hB : σ 5002 900 = nI B) (hB6 : B ≤ 6) (hf : σ 7000 20 = nI 1) (hf5 : σ 7000 25 = nI 1) {g : Nat} (hg : σ 7000 23 = nI g) (hg1 : g < 200) {w : Nat} (hw : σ 7000 24 = nI w) (hw1 : w < 200) {i r : Nat} {y : Int32} (hi : i < B) (hr : r < R) : XEx l m_X14_canWish 4 0 0 [.ref 5000, .int (nI i), .int (nI r), .int y] (setM z σ h) (some (.int (f_McanWish σ i r y R B g))) (setM z σ h) := by
  refine XMet.of hl rfl rfl (Nat.le_of_ble_eq_true rfl) (fun Y O hh hQ => ?_)
  show SW Y 0 0 (setM z σ h) 0 [.ref 5000, .int (nI i), .int (nI r), .int y, xx_d, xx_d, xx_d, xx_d] []
  refine sw_aload_n O (xx_dt dd_X14_canWish 0 rfl) rfl ?_
  refine sw_get (v := .ref 7000) O (xx_dt dd_X14_canWish 1 rfl) cl_X14 fl_X14_141 (lm_modC (σ := σ) (fl1 hf5)) (by decide) rfl ?_
  refine sw_get (v := .ref (7000 + 500 + g)) O (xx_dt dd_X14_canWish 2 rfl) cl_X11 fl_X14_145 (lm_clk (σ := σ) (b := 7000) (.inl rfl) (fl1 hf) (g := g) hg (by omega) (w := w) hw (by omega)) (by decide) rfl ?_
  refine sw_iload_n O (xx_dt dd_X14_canWish 3 rfl) rfl ?_
  refine sw_iaload (v := .int (σ (7000 + 500 + g) i)) O (xx_dt dd_X14_canWish 4 rfl) ((im_wsh (z := z) (σ := σ) (b := 7000) (.inl rfl) hf (g := g) hg (by omega) (j := g) (by omega)).get _) (pk_in i _ (by omega)) (by rw [nI_clamp (by omega)]; try exact rfl) ?_
  refine sw_istore (ls2 := [.ref 5000, .int (nI i), .int (nI r), .int y, .int (σ (7000 + 500 + g) i), xx_d, xx_d, xx_d]) O (xx_dt dd_X14_canWish 5 rfl) (by decide) rfl ?_
  refine sw_iload_n O (xx_dt dd_X14_canWish 6 rfl) rfl ?_
  refine sw_iload O (xx_dt dd_X14_canWish 7 rfl) rfl ?_
  refine sw_iload_n O (xx_dt dd_X14_canWish 8 rfl) rfl ?_
  refine sw_callSx (as := [.int (σ (7000 + 500 + g) i), .int (nI r)]) (st := [.int y]) (st2 := [.int (f_of (σ (7000 + 500 + g) i) r), .int y]) O (ct_X14_of hl (c := σ (7000 + 500 + g) i) (r := r) (by omega)) ce_X14_of ml_X14_53 st_X14_of (xx_dt dd_X14_canWish 9 rfl) (by decide) rfl rfl (Nat.le_of_ble_eq_true rfl) rfl ?_
  refine sw_icmp_gt (tgt := 23) O (xx_dt dd_X14_canWish 10 rfl) (by decide) (fun q1 => ?_) (fun q1 => ?_)
  · refine sw_aload_n O (xx_dt dd_X14_canWish 13 rfl) rfl ?_
    refine sw_get (v := .ref 5002) O (xx_dt dd_X14_canWish 14 rfl) cl_X14 fl_X14_27 (lm_modC (σ := σ) (fl1 hf5)) (by decide) rfl ?_
    refine sw_iload_n O (xx_dt dd_X14_canWish 15 rfl) rfl ?_
    refine sw_callVL (ci := 6) (as := [.int (nI i)]) (st := []) (st2 := [.ref (5020 + i)]) O (ct_get hl hbs (lm_5002 (σ := σ) (B := B) hB (by omega)) (by omega) (i := i) (x := 5020 + i) (by omega) (by omega) rfl) ce_Jx4a65c_get_915e3 ml_X14_61 iv_Jx4a65c_get_915e3 cl_Jx4a65c rfl (lm_5002 (σ := σ) (B := B) hB (by omega)) (xx_dt dd_X14_canWish 16 rfl) (by decide) rfl rfl (Nat.le_of_ble_eq_true rfl) rfl ?_
    refine sw_castO O (xx_dt dd_X14_canWish 17 rfl) cl_X9 (lm_bid (σ := σ) (B := B) hB (by omega) (j := i) (by omega)) cw_X14_118 ?_
    refine sw_get (v := .int (σ (5020 + i) 3)) O (xx_dt dd_X14_canWish 18 rfl) cl_X9 fl_X14_130 (lm_bid (σ := σ) (B := B) hB (by omega) (j := i) (by omega)) (by decide) rfl ?_
    refine sw_istore (ls2 := [.ref 5000, .int (nI i), .int (nI r), .int y, .int (σ (7000 + 500 + g) i), .int (σ (5020 + i) 3), xx_d, xx_d]) O (xx_dt dd_X14_canWish 19 rfl) (by decide) rfl ?_
    refine sw_iload_n O (xx_dt dd_X14_canWish 20 rfl) rfl ?_
    refine sw_istore (ls2 := [.ref 5000, .int (nI i), .int (nI r), .int y, .int (σ (7000 + 500 + g) i), .int (σ (5020 + i) 3), .int y, xx_d]) O (xx_dt dd_X14_canWish 21 rfl) (by decide) rfl ?_
    refine sw_iconst (x := 0) O (xx_dt dd_X14_canWish 22 rfl) (by decide) ?_
    refine sw_istore (ls2 := [.ref 5000, .int (nI i), .int (nI r), .int y, .int (σ (7000 + 500 + g) i), .int (σ (5020 + i) 3), .int y, .int 0]) O (xx_dt dd_X14_canWish 23 rfl) (by decide) rfl ?_
    refine sw_for (S := Int32) (fun i45 s45 => (if (nI i45) = (nI i) then s45 + 0 else (if (σ (5020 + i) 3) ≤ 0 then s45 + 0 else (if (σ (5020 + i45) 3) = (σ (5020 + i) 3) then s45 + (f_of (σ (7000 + 500 + g) i45) r) else s45 + 0)))) (fun _ _ => True) (hp := fun _ => setM z σ h) (hd := 45) (lc := fun i45 s45 => [.ref 5000, .int (nI i), .int (nI r), .int y, .int (σ (7000 + 500 + g) i), .int (σ (5020 + i) 3), .int s45, .int (nI i45)]) (N := B) (fun i45 s45 hi45 hP45 => ⟨trivial, fun kk45 => ?_⟩) B 0 y (by omega) (trivial) (fun hP45 => ?_)
    · refine sw_iload O (xx_dt dd_X14_canWish 24 rfl) rfl ?_
      refine sw_aload_n O (xx_dt dd_X14_canWish 25 rfl) rfl ?_
      refine sw_get (v := .ref 5002) O (xx_dt dd_X14_canWish 26 rfl) cl_X14 fl_X14_27 (lm_modC (σ := σ) (fl1 hf5)) (by decide) rfl ?_
      refine sw_callVL (ci := 6) (as := []) (st := [.int (nI i45)]) (st2 := [.int (nI B), .int (nI i45)]) O (ct_AL_size hl (lm_5002 (σ := σ) (B := B) hB (by omega))) ce_Jx4a65c_size_8abf5 ml_X14_57 iv_Jx4a65c_size_8abf5 cl_Jx4a65c rfl (lm_5002 (σ := σ) (B := B) hB (by omega)) (xx_dt dd_X14_canWish 27 rfl) (by decide) rfl rfl (Nat.le_of_ble_eq_true rfl) rfl ?_
      refine sw_icmp_ge (tgt := 117) O (xx_dt dd_X14_canWish 28 rfl) (by decide) (fun q2 => ?_) (fun q2 => ?_)
      · exact absurd q2 (nI_ge (b := B) hi45 (by omega))
      · refine sw_iload O (xx_dt dd_X14_canWish 29 rfl) rfl ?_
        refine sw_iload O (xx_dt dd_X14_canWish 30 rfl) rfl ?_
        refine sw_iload_n O (xx_dt dd_X14_canWish 31 rfl) rfl ?_
        refine sw_icmp_eq (tgt := 107) O (xx_dt dd_X14_canWish 32 rfl) (by decide) (fun q3 => ?_) (fun q3 => ?_)
        · refine sw_iconst (x := 0) O (xx_dt dd_X14_canWish 51 rfl) (by decide) ?_
          refine sw_iadd O (xx_dt dd_X14_canWish 52 rfl) ?_
          refine sw_istore (ls2 := [.ref 5000, .int (nI i), .int (nI r), .int y, .int (σ (7000 + 500 + g) i), .int (σ (5020 + i) 3), .int (s45 + 0), .int (nI i45)]) O (xx_dt dd_X14_canWish 53 rfl) (by decide) rfl ?_
          refine sw_iinc (y := nI (i45 + 1)) (ls2 := [.ref 5000, .int (nI i), .int (nI r), .int y, .int (σ (7000 + 500 + g) i), .int (σ (5020 + i) 3), .int (s45 + 0), .int (nI (i45 + 1))]) O (xx_dt dd_X14_canWish 54 rfl) rfl (nI_1 _) (by decide) rfl ?_
          refine sw_goto (tgt := 45) O (xx_dt dd_X14_canWish 55 rfl) (by decide) ?_
          simp only [if_pos q3] at kk45
          exact kk45
        · refine sw_iload O (xx_dt dd_X14_canWish 33 rfl) rfl ?_
          refine sw_if_le (tgt := 107) O (xx_dt dd_X14_canWish 34 rfl) (by decide) (fun q4 => ?_) (fun q4 => ?_)
          · refine sw_iconst (x := 0) O (xx_dt dd_X14_canWish 51 rfl) (by decide) ?_
            refine sw_iadd O (xx_dt dd_X14_canWish 52 rfl) ?_
            refine sw_istore (ls2 := [.ref 5000, .int (nI i), .int (nI r), .int y, .int (σ (7000 + 500 + g) i), .int (σ (5020 + i) 3), .int (s45 + 0), .int (nI i45)]) O (xx_dt dd_X14_canWish 53 rfl) (by decide) rfl ?_
            refine sw_iinc (y := nI (i45 + 1)) (ls2 := [.ref 5000, .int (nI i), .int (nI r), .int y, .int (σ (7000 + 500 + g) i), .int (σ (5020 + i) 3), .int (s45 + 0), .int (nI (i45 + 1))]) O (xx_dt dd_X14_canWish 54 rfl) rfl (nI_1 _) (by decide) rfl ?_
            refine sw_goto (tgt := 45) O (xx_dt dd_X14_canWish 55 rfl) (by decide) ?_
            simp only [if_neg q3, if_pos q4] at kk45
            exact kk45
          · refine sw_aload_n O (xx_dt dd_X14_canWish 35 rfl) rfl ?_
            refine sw_get (v := .ref 5002) O (xx_dt dd_X14_canWish 36 rfl) cl_X14 fl_X14_27 (lm_modC (σ := σ) (fl1 hf5)) (by decide) rfl ?_
            refine sw_iload O (xx_dt dd_X14_canWish 37 rfl) rfl ?_
            refine sw_callVL (ci := 6) (as := [.int (nI i45)]) (st := [.int s45]) (st2 := [.ref (5020 + i45), .int s45]) O (ct_get hl hbs (lm_5002 (σ := σ) (B := B) hB (by omega)) (by omega) (i := i45) (x := 5020 + i45) (by omega) (by omega) rfl) ce_Jx4a65c_get_915e3 ml_X14_61 iv_Jx4a65c_get_915e3 cl_Jx4a65c rfl (lm_5002 (σ := σ) (B := B) hB (by omega)) (xx_dt dd_X14_canWish 38 rfl) (by decide) rfl rfl (Nat.le_of_ble_eq_true rfl) rfl ?_
            refine sw_castO O (xx_dt dd_X14_canWish 39 rfl) cl_X9 (lm_bid (σ := σ) (B := B) hB (by omega) (j := i45) (by omega)) cw_X14_118 ?_
            refine sw_get (v := .int (σ (5020 + i45) 3)) O (xx_dt dd_X14_canWish 40 rfl) cl_X9 fl_X14_130 (lm_bid (σ := σ) (B := B) hB (by omega) (j := i45) (by omega)) (by decide) rfl ?_
            refine sw_iload O (xx_dt dd_X14_canWish 41 rfl) rfl ?_
            refine sw_icmp_ne (tgt := 107) O (xx_dt dd_X14_canWish 42 rfl) (by decide) (fun q5 => ?_) (fun q5 => ?_)
            · refine sw_iconst (x := 0) O (xx_dt dd_X14_canWish 51 rfl) (by decide) ?_
              refine sw_iadd O (xx_dt dd_X14_canWish 52 rfl) ?_
              refine sw_istore (ls2 := [.ref 5000, .int (nI i), .int (nI r), .int y, .int (σ (7000 + 500 + g) i), .int (σ (5020 + i) 3), .int (s45 + 0), .int (nI i45)]) O (xx_dt dd_X14_canWish 53 rfl) (by decide) rfl ?_
              refine sw_iinc (y := nI (i45 + 1)) (ls2 := [.ref 5000, .int (nI i), .int (nI r), .int y, .int (σ (7000 + 500 + g) i), .int (σ (5020 + i) 3), .int (s45 + 0), .int (nI (i45 + 1))]) O (xx_dt dd_X14_canWish 54 rfl) rfl (nI_1 _) (by decide) rfl ?_
              refine sw_goto (tgt := 45) O (xx_dt dd_X14_canWish 55 rfl) (by decide) ?_
              simp only [if_neg q3, if_neg q4, if_neg q5] at kk45
              exact kk45
            · refine sw_aload_n O (xx_dt dd_X14_canWish 43 rfl) rfl ?_
              refine sw_get (v := .ref 7000) O (xx_dt dd_X14_canWish 44 rfl) cl_X14 fl_X14_141 (lm_modC (σ := σ) (fl1 hf5)) (by decide) rfl ?_
              refine sw_get (v := .ref (7000 + 500 + g)) O (xx_dt dd_X14_canWish 45 rfl) cl_X11 fl_X14_145 (lm_clk (σ := σ) (b := 7000) (.inl rfl) (fl1 hf) (g := g) hg (by omega) (w := w) hw (by omega)) (by decide) rfl ?_
              refine sw_iload O (xx_dt dd_X14_canWish 46 rfl) rfl ?_
              refine sw_iaload (v := .int (σ (7000 + 500 + g) i45)) O (xx_dt dd_X14_canWish 47 rfl) ((im_wsh (z := z) (σ := σ) (b := 7000) (.inl rfl) hf (g := g) hg (by omega) (j := g) (by omega)).get _) (pk_in i45 _ (by omega)) (by rw [nI_clamp (by omega)]; try exact rfl) ?_
              refine sw_iload_n O (xx_dt dd_X14_canWish 48 rfl) rfl ?_
              refine sw_callSx (as := [.int (σ (7000 + 500 + g) i45), .int (nI r)]) (st := [.int s45]) (st2 := [.int (f_of (σ (7000 + 500 + g) i45) r), .int s45]) O (ct_X14_of hl (c := σ (7000 + 500 + g) i45) (r := r) (by omega)) ce_X14_of ml_X14_53 st_X14_of (xx_dt dd_X14_canWish 49 rfl) (by decide) rfl rfl (Nat.le_of_ble_eq_true rfl) rfl ?_
              refine sw_goto (tgt := 108) O (xx_dt dd_X14_canWish 50 rfl) (by decide) ?_
              refine sw_iadd O (xx_dt dd_X14_canWish 52 rfl) ?_
              refine sw_istore (ls2 := [.ref 5000, .int (nI i), .int (nI r), .int y, .int (σ (7000 + 500 + g) i), .int (σ (5020 + i) 3), .int (s45 + (f_of (σ (7000 + 500 + g) i45) r)), .int (nI i45)]) O (xx_dt dd_X14_canWish 53 rfl) (by decide) rfl ?_
              refine sw_iinc (y := nI (i45 + 1)) (ls2 := [.ref 5000, .int (nI i), .int (nI r), .int y, .int (σ (7000 + 500 + g) i), .int (σ (5020 + i) 3), .int (s45 + (f_of (σ (7000 + 500 + g) i45) r)), .int (nI (i45 + 1))]) O (xx_dt dd_X14_canWish 54 rfl) rfl (nI_1 _) (by decide) rfl ?_
              refine sw_goto (tgt := 45) O (xx_dt dd_X14_canWish 55 rfl) (by decide) ?_
              simp only [if_neg q3, if_neg q4, if_pos q5] at kk45
              exact kk45
    · show SW Y _ _ (setM z σ h) 45 [.ref 5000, .int (nI i), .int (nI r), .int y, .int (σ (7000 + 500 + g) i), .int (σ (5020 + i) 3), .int (x_McanWish_45 σ i r y R B g y), .int (nI B)] []
      refine sw_iload O (xx_dt dd_X14_canWish 24 rfl) rfl ?_
      refine sw_aload_n O (xx_dt dd_X14_canWish 25 rfl) rfl ?_
      refine sw_get (v := .ref 5002) O (xx_dt dd_X14_canWish 26 rfl) cl_X14 fl_X14_27 (lm_modC (σ := σ) (fl1 hf5)) (by decide) rfl ?_
      refine sw_callVL (ci := 6) (as := []) (st := [.int (nI B)]) (st2 := [.int (nI B), .int (nI B)]) O (ct_AL_size hl (lm_5002 (σ := σ) (B := B) hB (by omega))) ce_Jx4a65c_size_8abf5 ml_X14_57 iv_Jx4a65c_size_8abf5 cl_Jx4a65c rfl (lm_5002 (σ := σ) (B := B) hB (by omega)) (xx_dt dd_X14_canWish 27 rfl) (by decide) rfl rfl (Nat.le_of_ble_eq_true rfl) rfl ?_
      refine sw_icmp_ge (tgt := 117) O (xx_dt dd_X14_canWish 28 rfl) (by decide) (fun q2 => ?_) (fun q2 => ?_)
      · refine sw_iload_n O (xx_dt dd_X14_canWish 56 rfl) rfl ?_
        refine sw_aload_n O (xx_dt dd_X14_canWish 57 rfl) rfl ?_
        refine sw_get (v := .ref 5001) O (xx_dt dd_X14_canWish 58 rfl) cl_X14 fl_X14_23 (lm_modC (σ := σ) (fl1 hf5)) (by decide) rfl ?_
        refine sw_iload_n O (xx_dt dd_X14_canWish 59 rfl) rfl ?_
        refine sw_callVL (ci := 6) (as := [.int (nI r)]) (st := [.int y]) (st2 := [.ref (5010 + r), .int y]) O (ct_get hl hbs (lm_5001 (σ := σ) (R := R) hR (by omega)) (by omega) (i := r) (x := 5010 + r) (by omega) (by omega) rfl) ce_Jx4a65c_get_915e3 ml_X14_61 iv_Jx4a65c_get_915e3 cl_Jx4a65c rfl (lm_5001 (σ := σ) (R := R) hR (by omega)) (xx_dt dd_X14_canWish 60 rfl) (by decide) rfl rfl (Nat.le_of_ble_eq_true rfl) rfl ?_
        refine sw_castO O (xx_dt dd_X14_canWish 61 rfl) cl_X12 (lm_reg (σ := σ) (R := R) hR (by omega) (j := r) (by omega)) cw_X14_65 ?_
        refine sw_get (v := .int (σ (5010 + r) 0)) O (xx_dt dd_X14_canWish 62 rfl) cl_X12 fl_X14_81 (lm_reg (σ := σ) (R := R) hR (by omega) (j := r) (by omega)) (by decide) rfl ?_
        refine sw_icmp_gt (tgt := 171) O (xx_dt dd_X14_canWish 63 rfl) (by decide) (fun q6 => ?_) (fun q6 => ?_)
        · refine sw_iconst (x := 0) O (xx_dt dd_X14_canWish 82 rfl) (by decide) ?_
          exact sw_iret O (xx_dt dd_X14_canWish 83 rfl) rfl rfl (by rw [hQ]; exact ⟨by unfold f_McanWish; simp only [if_pos q1, if_pos q6], rfl⟩)
        · refine sw_iload O (xx_dt dd_X14_canWish 64 rfl) rfl ?_
          refine sw_aload_n O (xx_dt dd_X14_canWish 65 rfl) rfl ?_
          refine sw_get (v := .int (σ 5000 2)) O (xx_dt dd_X14_canWish 66 rfl) cl_X14 fl_X14_7 (lm_modC (σ := σ) (fl1 hf5)) (by decide) rfl ?_
          refine sw_icmp_gt (tgt := 171) O (xx_dt dd_X14_canWish 67 rfl) (by decide) (fun q7 => ?_) (fun q7 => ?_)
          · refine sw_iconst (x := 0) O (xx_dt dd_X14_canWish 82 rfl) (by decide) ?_
            exact sw_iret O (xx_dt dd_X14_canWish 83 rfl) rfl rfl (by rw [hQ]; exact ⟨by unfold f_McanWish; simp only [if_pos q1, if_neg q6, if_pos q7], rfl⟩)
          · refine sw_aload_n O (xx_dt dd_X14_canWish 68 rfl) rfl ?_
            refine sw_iload O (xx_dt dd_X14_canWish 69 rfl) rfl ?_
            refine sw_iload_n O (xx_dt dd_X14_canWish 70 rfl) rfl ?_
            refine sw_iload_n O (xx_dt dd_X14_canWish 71 rfl) rfl ?_
            refine sw_callSx (as := [.int (σ (7000 + 500 + g) i), .int (nI r), .int y]) (st := [.ref 5000]) (st2 := [.int (f_with (σ (7000 + 500 + g) i) r y), .ref 5000]) O (ct_X14_with hl (c := σ (7000 + 500 + g) i) (r := r) (m := y) (by omega)) ce_X14_with ml_X14_148 st_X14_with (xx_dt dd_X14_canWish 72 rfl) (by decide) rfl rfl (Nat.le_of_ble_eq_true rfl) rfl ?_
            refine sw_callVx (as := [.int (f_with (σ (7000 + 500 + g) i) r y)]) (st := []) (st2 := [.int (f_Mpoints σ (f_with (σ (7000 + 500 + g) i) r y) R)]) O (ct_X14_points hl (z := z) (σ := σ) hbs (R := R) hR (by omega) (c := f_with (σ (7000 + 500 + g) i) r y)) ce_X14_points ml_X14_152 iv_X14_points cl_X14 rfl (lm_modC (σ := σ) (fl1 hf5)) (xx_dt dd_X14_canWish 73 rfl) (by decide) rfl rfl (Nat.le_of_ble_eq_true rfl) rfl ?_
            refine sw_aload_n O (xx_dt dd_X14_canWish 74 rfl) rfl ?_
            refine sw_get (v := .ref 7000) O (xx_dt dd_X14_canWish 75 rfl) cl_X14 fl_X14_141 (lm_modC (σ := σ) (fl1 hf5)) (by decide) rfl ?_
            refine sw_get (v := .ref (7000 + 3)) O (xx_dt dd_X14_canWish 76 rfl) cl_X11 fl_X14_154 (lm_clk (σ := σ) (b := 7000) (.inl rfl) (fl1 hf) (g := g) hg (by omega) (w := w) hw (by omega)) (by decide) rfl ?_
            refine sw_iload_n O (xx_dt dd_X14_canWish 77 rfl) rfl ?_
            refine sw_iaload (v := .int (σ (7000 + 3) i)) O (xx_dt dd_X14_canWish 78 rfl) ((im_kel (z := z) (σ := σ) (b := 7000) (.inl rfl) hf).get _) (pk_in i _ (by omega)) (by rw [nI_clamp (by omega)]; try exact rfl) ?_
            refine sw_icmp_gt (tgt := 171) O (xx_dt dd_X14_canWish 79 rfl) (by decide) (fun q8 => ?_) (fun q8 => ?_)
            · refine sw_iconst (x := 0) O (xx_dt dd_X14_canWish 82 rfl) (by decide) ?_
              exact sw_iret O (xx_dt dd_X14_canWish 83 rfl) rfl rfl (by rw [hQ]; exact ⟨by unfold f_McanWish; simp only [if_pos q1, if_neg q6, if_neg q7, if_pos q8], rfl⟩)
            · refine sw_iconst (x := 1) O (xx_dt dd_X14_canWish 80 rfl) (by decide) ?_
              refine sw_goto (tgt := 172) O (xx_dt dd_X14_canWish 81 rfl) (by decide) ?_
              exact sw_iret O (xx_dt dd_X14_canWish 83 rfl) rfl rfl (by rw [hQ]; exact ⟨by unfold f_McanWish; simp only [if_pos q1, if_neg q6, if_neg q7, if_neg q8], rfl⟩)
      · exact absurd (Int32.le_refl _) q2
  · refine sw_iconst (x := 1) O (xx_dt dd_X14_canWish 11 rfl) (by decide) ?_
    exact sw_iret O (xx_dt dd_X14_canWish 12 rfl) rfl rfl (by rw [hQ]; exact ⟨by unfold f_McanWish; simp only [if_neg q1], rfl⟩)
def x_MwinnersKept_4 (σ : XS9) (B : Nat) (s0 : Int32) : Int32 := xit (fun i4 s4 => (if (σ 5005 i4) = (-1) then s4 + 0 else s4 + 1)) B 0 s0
def f_MwinnersKept (σ : XS9) (B : Nat) : Int32 := (x_MwinnersKept_4 σ B 0)
theorem ct_X14_winnersKept {l : Launch} {h : XH} (hl : l.stackTraces = false) {z : Int64} {σ : XS9} (hbs : xx_bs h) {B : Nat} (hB : σ 5002 900 = nI B) (hB6 : B ≤ 6)  : XEx l m_X14_winnersKept 1 0 0 [.ref 5000] (setM z σ h) (some (.int (f_MwinnersKept σ B))) (setM z σ h) := by
  refine XMet.of hl rfl rfl (Nat.le_of_ble_eq_true rfl) (fun Y O hh hQ => ?_)
  show SW Y 0 0 (setM z σ h) 0 [.ref 5000, xx_d, xx_d] []
  refine sw_iconst (x := 0) O (xx_dt dd_X14_winnersKept 0 rfl) (by decide) ?_
  refine sw_istore_n (ls2 := [.ref 5000, .int 0, xx_d]) O (xx_dt dd_X14_winnersKept 1 rfl) (by decide) rfl ?_
  refine sw_iconst (x := 0) O (xx_dt dd_X14_winnersKept 2 rfl) (by decide) ?_
  refine sw_istore_n (ls2 := [.ref 5000, .int 0, .int 0]) O (xx_dt dd_X14_winnersKept 3 rfl) (by decide) rfl ?_
  refine sw_for (S := Int32) (fun i4 s4 => (if (σ 5005 i4) = (-1) then s4 + 0 else s4 + 1)) (fun _ _ => True) (hp := fun _ => setM z σ h) (hd := 4) (lc := fun i4 s4 => [.ref 5000, .int s4, .int (nI i4)]) (N := B) (fun i4 s4 hi4 hP4 => ⟨trivial, fun kk4 => ?_⟩) B 0 0 (by omega) (trivial) (fun hP4 => ?_)
  · refine sw_iload_n O (xx_dt dd_X14_winnersKept 4 rfl) rfl ?_
    refine sw_aload_n O (xx_dt dd_X14_winnersKept 5 rfl) rfl ?_
    refine sw_get (v := .ref 5002) O (xx_dt dd_X14_winnersKept 6 rfl) cl_X14 fl_X14_27 (lm_mod (σ := σ)) (by decide) rfl ?_
    refine sw_callVL (ci := 6) (as := []) (st := [.int (nI i4)]) (st2 := [.int (nI B), .int (nI i4)]) O (ct_AL_size hl (lm_5002 (σ := σ) (B := B) hB (by omega))) ce_Jx4a65c_size_8abf5 ml_X14_57 iv_Jx4a65c_size_8abf5 cl_Jx4a65c rfl (lm_5002 (σ := σ) (B := B) hB (by omega)) (xx_dt dd_X14_winnersKept 7 rfl) (by decide) rfl rfl (Nat.le_of_ble_eq_true rfl) rfl ?_
    refine sw_icmp_ge (tgt := 39) O (xx_dt dd_X14_winnersKept 8 rfl) (by decide) (fun q1 => ?_) (fun q1 => ?_)
    · exact absurd q1 (nI_ge (b := B) hi4 (by omega))
    · refine sw_iload_n O (xx_dt dd_X14_winnersKept 9 rfl) rfl ?_
      refine sw_aload_n O (xx_dt dd_X14_winnersKept 10 rfl) rfl ?_
      refine sw_get (v := .ref 5005) O (xx_dt dd_X14_winnersKept 11 rfl) cl_X14 fl_X14_36 (lm_mod (σ := σ)) (by decide) rfl ?_
      refine sw_iload_n O (xx_dt dd_X14_winnersKept 12 rfl) rfl ?_
      refine sw_iaload (v := .int (σ 5005 i4)) O (xx_dt dd_X14_winnersKept 13 rfl) ((im_5005 (z := z) (σ := σ)).get _) (pk_in i4 _ (by omega)) (by rw [nI_clamp (by omega)]; try exact rfl) ?_
      refine sw_iconst (x := (-1)) O (xx_dt dd_X14_winnersKept 14 rfl) (by decide) ?_
      refine sw_icmp_ne (tgt := 30) O (xx_dt dd_X14_winnersKept 15 rfl) (by decide) (fun q2 => ?_) (fun q2 => ?_)
      · refine sw_iconst (x := 1) O (xx_dt dd_X14_winnersKept 18 rfl) (by decide) ?_
        refine sw_iadd O (xx_dt dd_X14_winnersKept 19 rfl) ?_
        refine sw_istore_n (ls2 := [.ref 5000, .int (s4 + 1), .int (nI i4)]) O (xx_dt dd_X14_winnersKept 20 rfl) (by decide) rfl ?_
        refine sw_iinc (y := nI (i4 + 1)) (ls2 := [.ref 5000, .int (s4 + 1), .int (nI (i4 + 1))]) O (xx_dt dd_X14_winnersKept 21 rfl) rfl (nI_1 _) (by decide) rfl ?_
        refine sw_goto (tgt := 4) O (xx_dt dd_X14_winnersKept 22 rfl) (by decide) ?_
        simp only [if_neg q2] at kk4
        exact kk4
      · refine sw_iconst (x := 0) O (xx_dt dd_X14_winnersKept 16 rfl) (by decide) ?_
        refine sw_goto (tgt := 31) O (xx_dt dd_X14_winnersKept 17 rfl) (by decide) ?_
        refine sw_iadd O (xx_dt dd_X14_winnersKept 19 rfl) ?_
        refine sw_istore_n (ls2 := [.ref 5000, .int (s4 + 0), .int (nI i4)]) O (xx_dt dd_X14_winnersKept 20 rfl) (by decide) rfl ?_
        refine sw_iinc (y := nI (i4 + 1)) (ls2 := [.ref 5000, .int (s4 + 0), .int (nI (i4 + 1))]) O (xx_dt dd_X14_winnersKept 21 rfl) rfl (nI_1 _) (by decide) rfl ?_
        refine sw_goto (tgt := 4) O (xx_dt dd_X14_winnersKept 22 rfl) (by decide) ?_
        simp only [if_pos q2] at kk4
        exact kk4
  · show SW Y _ _ (setM z σ h) 4 [.ref 5000, .int (x_MwinnersKept_4 σ B 0), .int (nI B)] []
    refine sw_iload_n O (xx_dt dd_X14_winnersKept 4 rfl) rfl ?_
    refine sw_aload_n O (xx_dt dd_X14_winnersKept 5 rfl) rfl ?_
    refine sw_get (v := .ref 5002) O (xx_dt dd_X14_winnersKept 6 rfl) cl_X14 fl_X14_27 (lm_mod (σ := σ)) (by decide) rfl ?_
    refine sw_callVL (ci := 6) (as := []) (st := [.int (nI B)]) (st2 := [.int (nI B), .int (nI B)]) O (ct_AL_size hl (lm_5002 (σ := σ) (B := B) hB (by omega))) ce_Jx4a65c_size_8abf5 ml_X14_57 iv_Jx4a65c_size_8abf5 cl_Jx4a65c rfl (lm_5002 (σ := σ) (B := B) hB (by omega)) (xx_dt dd_X14_winnersKept 7 rfl) (by decide) rfl rfl (Nat.le_of_ble_eq_true rfl) rfl ?_
    refine sw_icmp_ge (tgt := 39) O (xx_dt dd_X14_winnersKept 8 rfl) (by decide) (fun q1 => ?_) (fun q1 => ?_)
    · refine sw_iload_n O (xx_dt dd_X14_winnersKept 23 rfl) rfl ?_
      exact sw_iret O (xx_dt dd_X14_winnersKept 24 rfl) rfl rfl (by rw [hQ]; exact ⟨by unfold f_MwinnersKept; rfl, rfl⟩)
    · exact absurd (Int32.le_refl _) q1
theorem kept_nat {x : Int32} {p : Nat} (h : x = -1 ∨ ∃ n, n < p ∧ x = nI n) (hx : ¬ x = -1) (hp : p < 1000) : n_lt x p := by
  rcases h with h | ⟨n, h1, h2⟩
  · exact absurd h hx
  · exact ⟨by rw [h2, cn_nI (by omega)], by rw [h2, cn_nI (by omega)]; exact h1⟩
theorem mod6 {a : Nat} (ha : a < 1000) : nI a - nI a / 6 * 6 = nI (a % 6) := by
  have h1 : (nI a / 6).toInt = ((a / 6 : Nat) : Int) := by
    rw [Int32.toInt_div, toI_nI (by omega)]
    have : (6 : Int32).toInt = 6 := rfl
    rw [this, Int.tdiv_eq_ediv_of_nonneg (by omega), Int.bmod_def]
    omega
  apply i_ext
  rw [Int32.toInt_sub, Int32.toInt_mul, h1, toI_nI (by omega), toI_nI (by omega)]
  have : (6 : Int32).toInt = 6 := rfl
  rw [this, Int.bmod_def, Int.bmod_def]
  omega
theorem nI_add' {a b : Nat} : nI a + nI b = nI (a + b) := by
  unfold nI
  rw [← Int32.ofNat_add]
def x_Mholds_6 (σ : XS9) (r : Nat) (y : Int32) (tn B : Nat) (s0 : Int32) : Int32 ⊕ Int32 := xitR (fun i6 s6 => (if (nI B) ≤ (nI ((i6 + tn) % 6)) then (if 0 ≤ s6 then .inl (s6 - 0) else .inr (nI ((i6 + tn) % 6))) else (if (σ 5005 ((i6 + tn) % 6)) = (-1) then (if 0 ≤ s6 then .inl (s6 - 0) else .inr (nI ((i6 + tn) % 6))) else (if (f_of (f_Bcode σ ((i6 + tn) % 6) (cn (σ 5005 ((i6 + tn) % 6)))) r) ≤ s6 then .inl (s6 - (f_of (f_Bcode σ ((i6 + tn) % 6) (cn (σ 5005 ((i6 + tn) % 6)))) r)) else .inr (nI ((i6 + tn) % 6)))))) 6 0 s0
def f_Mholds (σ : XS9) (r : Nat) (y : Int32) (tn B : Nat) : Int32 := (match (x_Mholds_6 σ r y tn B y) with | .inl s6 => (-1) | .inr r6 => r6)
theorem ct_X14_holds {l : Launch} {h : XH} (hl : l.stackTraces = false) {z : Int64} {σ : XS9} (hbs : xx_bs h) {R : Nat} (hR : σ 5001 900 = nI R) (hR5 : R ≤ 5) {B : Nat} (hB : σ 5002 900 = nI B) (hB6 : B ≤ 6) {pk : Nat → Nat} (hpk : ∀ j, j < B → σ (5030 + j) 900 = nI (2 * pk j) ∧ pk j ≤ 6) (hkp : ∀ j, j < B → σ 5005 j = -1 ∨ ∃ n, n < pk j ∧ σ 5005 j = nI n) {r tn : Nat} {y : Int32} (hr : r < R) (htn : tn < 100) : XEx l m_X14_holds 5 0 0 [.ref 5000, .int (nI r), .int y, .int (nI tn)] (setM z σ h) (some (.int (f_Mholds σ r y tn B))) (setM z σ h) := by
  refine XMet.of hl rfl rfl (Nat.le_of_ble_eq_true rfl) (fun Y O hh hQ => ?_)
  show SW Y 0 0 (setM z σ h) 0 [.ref 5000, .int (nI r), .int y, .int (nI tn), xx_d, xx_d, xx_d, xx_d] []
  refine sw_iload_n O (xx_dt dd_X14_holds 0 rfl) rfl ?_
  refine sw_istore (ls2 := [.ref 5000, .int (nI r), .int y, .int (nI tn), .int y, xx_d, xx_d, xx_d]) O (xx_dt dd_X14_holds 1 rfl) (by decide) rfl ?_
  refine sw_iconst (x := 0) O (xx_dt dd_X14_holds 2 rfl) (by decide) ?_
  refine sw_istore (ls2 := [.ref 5000, .int (nI r), .int y, .int (nI tn), .int y, .int 0, xx_d, xx_d]) O (xx_dt dd_X14_holds 3 rfl) (by decide) rfl ?_
  refine sw_forR (S := Int32) (R := Int32) (fun i6 s6 => (if (nI B) ≤ (nI ((i6 + tn) % 6)) then (if 0 ≤ s6 then .inl (s6 - 0) else .inr (nI ((i6 + tn) % 6))) else (if (σ 5005 ((i6 + tn) % 6)) = (-1) then (if 0 ≤ s6 then .inl (s6 - 0) else .inr (nI ((i6 + tn) % 6))) else (if (f_of (f_Bcode σ ((i6 + tn) % 6) (cn (σ 5005 ((i6 + tn) % 6)))) r) ≤ s6 then .inl (s6 - (f_of (f_Bcode σ ((i6 + tn) % 6) (cn (σ 5005 ((i6 + tn) % 6)))) r)) else .inr (nI ((i6 + tn) % 6)))))) (fun _ _ => True) (FR := fun r9 => f_Mholds σ r y tn B = r9) (hp := fun _ => setM z σ h) (hd := 6) (lc := fun i6 s6 => [.ref 5000, .int (nI r), .int y, .int (nI tn), .int s6, .int (nI i6), xx_d, xx_d]) (N := 6) (fun i6 s6 hi6 hP6 => ⟨fun _ _ => trivial, fun kk6 kr6 => ?_⟩) 6 0 y (by omega) (trivial) (fun sN6 eN6 hP6 => ?_) (fun r6 eN6 => ?_)
  · refine sw_iload O (xx_dt dd_X14_holds 4 rfl) rfl ?_
    refine sw_bipush (x := 6) O (xx_dt dd_X14_holds 5 rfl) (by decide) ?_
    refine sw_icmp_ge (tgt := 100) O (xx_dt dd_X14_holds 6 rfl) (by decide) (fun q1 => ?_) (fun q1 => ?_)
    · exact absurd q1 (nI_ge (b := 6) hi6 (by omega))
    · refine sw_iload O (xx_dt dd_X14_holds 7 rfl) rfl ?_
      refine sw_iload_n O (xx_dt dd_X14_holds 8 rfl) rfl ?_
      refine sw_iadd O (xx_dt dd_X14_holds 9 rfl) ?_
      have hx16 := trivial
      rw [nI_add']
      refine sw_bipush (x := 6) O (xx_dt dd_X14_holds 10 rfl) (by decide) ?_
      refine sw_irem O (xx_dt dd_X14_holds 11 rfl) (by first | decide | assumption) ?_
      have hx19 := Nat.mod_lt (i6 + tn) (by decide : 6 > 0)
      rw [mod6 (by omega)]
      refine sw_istore (ls2 := [.ref 5000, .int (nI r), .int y, .int (nI tn), .int s6, .int (nI i6), .int (nI ((i6 + tn) % 6)), xx_d]) O (xx_dt dd_X14_holds 12 rfl) (by decide) rfl ?_
      refine sw_iload O (xx_dt dd_X14_holds 13 rfl) rfl ?_
      refine sw_aload_n O (xx_dt dd_X14_holds 14 rfl) rfl ?_
      refine sw_get (v := .ref 5002) O (xx_dt dd_X14_holds 15 rfl) cl_X14 fl_X14_27 (lm_mod (σ := σ)) (by decide) rfl ?_
      refine sw_callVL (ci := 6) (as := []) (st := [.int (nI ((i6 + tn) % 6))]) (st2 := [.int (nI B), .int (nI ((i6 + tn) % 6))]) O (ct_AL_size hl (lm_5002 (σ := σ) (B := B) hB (by omega))) ce_Jx4a65c_size_8abf5 ml_X14_57 iv_Jx4a65c_size_8abf5 cl_Jx4a65c rfl (lm_5002 (σ := σ) (B := B) hB (by omega)) (xx_dt dd_X14_holds 16 rfl) (by decide) rfl rfl (Nat.le_of_ble_eq_true rfl) rfl ?_
      refine sw_icmp_ge (tgt := 74) O (xx_dt dd_X14_holds 17 rfl) (by decide) (fun q2 => ?_) (fun q2 => ?_)
      · have hfq2 : B ≤ ((i6 + tn) % 6) := (nI_leI (a := B) (b := ((i6 + tn) % 6)) (by omega) (by omega)).mp q2
        refine sw_iconst (x := 0) O (xx_dt dd_X14_holds 37 rfl) (by decide) ?_
        refine sw_istore (ls2 := [.ref 5000, .int (nI r), .int y, .int (nI tn), .int s6, .int (nI i6), .int (nI ((i6 + tn) % 6)), .int 0]) O (xx_dt dd_X14_holds 38 rfl) (by decide) rfl ?_
        refine sw_iload O (xx_dt dd_X14_holds 39 rfl) rfl ?_
        refine sw_iload O (xx_dt dd_X14_holds 40 rfl) rfl ?_
        refine sw_icmp_ge (tgt := 87) O (xx_dt dd_X14_holds 41 rfl) (by decide) (fun q3 => ?_) (fun q3 => ?_)
        · refine sw_iload O (xx_dt dd_X14_holds 44 rfl) rfl ?_
          refine sw_iload O (xx_dt dd_X14_holds 45 rfl) rfl ?_
          refine sw_isub O (xx_dt dd_X14_holds 46 rfl) ?_
          refine sw_istore (ls2 := [.ref 5000, .int (nI r), .int y, .int (nI tn), .int (s6 - 0), .int (nI i6), .int (nI ((i6 + tn) % 6)), .int 0]) O (xx_dt dd_X14_holds 47 rfl) (by decide) rfl ?_
          refine sw_iinc (y := nI (i6 + 1)) (ls2 := [.ref 5000, .int (nI r), .int y, .int (nI tn), .int (s6 - 0), .int (nI (i6 + 1)), .int (nI ((i6 + tn) % 6)), .int 0]) O (xx_dt dd_X14_holds 48 rfl) rfl (nI_1 _) (by decide) rfl ?_
          refine sw_goto (tgt := 6) O (xx_dt dd_X14_holds 49 rfl) (by decide) ?_
          refine sw_dum (ls2 := [.ref 5000, .int (nI r), .int y, .int (nI tn), .int (s6 - 0), .int (nI (i6 + 1)), xx_d, xx_d]) ⟨.inr rfl, .inr rfl, .inr rfl, .inr rfl, .inr rfl, .inr rfl, .inl rfl, .inl rfl, trivial⟩ ?_
          exact kk6 (s6 - 0) (by simp only [if_pos q2, if_pos q3])
        · refine sw_iload O (xx_dt dd_X14_holds 42 rfl) rfl ?_
          exact sw_iret O (xx_dt dd_X14_holds 43 rfl) rfl rfl (by rw [hQ, kr6 (nI ((i6 + tn) % 6)) (by simp only [if_pos q2, if_neg q3])]; exact ⟨rfl, rfl⟩)
      · have hfq2 : ¬ B ≤ ((i6 + tn) % 6) := fun e => q2 ((nI_leI (a := B) (b := ((i6 + tn) % 6)) (by omega) (by omega)).mpr e)
        refine sw_aload_n O (xx_dt dd_X14_holds 18 rfl) rfl ?_
        refine sw_get (v := .ref 5005) O (xx_dt dd_X14_holds 19 rfl) cl_X14 fl_X14_36 (lm_mod (σ := σ)) (by decide) rfl ?_
        refine sw_iload O (xx_dt dd_X14_holds 20 rfl) rfl ?_
        refine sw_iaload (v := .int (σ 5005 ((i6 + tn) % 6))) O (xx_dt dd_X14_holds 21 rfl) ((im_5005 (z := z) (σ := σ)).get _) (pk_in ((i6 + tn) % 6) _ (by omega)) (by rw [nI_clamp (by omega)]; try exact rfl) ?_
        refine sw_iconst (x := (-1)) O (xx_dt dd_X14_holds 22 rfl) (by decide) ?_
        refine sw_icmp_eq (tgt := 74) O (xx_dt dd_X14_holds 23 rfl) (by decide) (fun q4 => ?_) (fun q4 => ?_)
        · refine sw_iconst (x := 0) O (xx_dt dd_X14_holds 37 rfl) (by decide) ?_
          refine sw_istore (ls2 := [.ref 5000, .int (nI r), .int y, .int (nI tn), .int s6, .int (nI i6), .int (nI ((i6 + tn) % 6)), .int 0]) O (xx_dt dd_X14_holds 38 rfl) (by decide) rfl ?_
          refine sw_iload O (xx_dt dd_X14_holds 39 rfl) rfl ?_
          refine sw_iload O (xx_dt dd_X14_holds 40 rfl) rfl ?_
          refine sw_icmp_ge (tgt := 87) O (xx_dt dd_X14_holds 41 rfl) (by decide) (fun q5 => ?_) (fun q5 => ?_)
          · refine sw_iload O (xx_dt dd_X14_holds 44 rfl) rfl ?_
            refine sw_iload O (xx_dt dd_X14_holds 45 rfl) rfl ?_
            refine sw_isub O (xx_dt dd_X14_holds 46 rfl) ?_
            refine sw_istore (ls2 := [.ref 5000, .int (nI r), .int y, .int (nI tn), .int (s6 - 0), .int (nI i6), .int (nI ((i6 + tn) % 6)), .int 0]) O (xx_dt dd_X14_holds 47 rfl) (by decide) rfl ?_
            refine sw_iinc (y := nI (i6 + 1)) (ls2 := [.ref 5000, .int (nI r), .int y, .int (nI tn), .int (s6 - 0), .int (nI (i6 + 1)), .int (nI ((i6 + tn) % 6)), .int 0]) O (xx_dt dd_X14_holds 48 rfl) rfl (nI_1 _) (by decide) rfl ?_
            refine sw_goto (tgt := 6) O (xx_dt dd_X14_holds 49 rfl) (by decide) ?_
            refine sw_dum (ls2 := [.ref 5000, .int (nI r), .int y, .int (nI tn), .int (s6 - 0), .int (nI (i6 + 1)), xx_d, xx_d]) ⟨.inr rfl, .inr rfl, .inr rfl, .inr rfl, .inr rfl, .inr rfl, .inl rfl, .inl rfl, trivial⟩ ?_
            exact kk6 (s6 - 0) (by simp only [if_neg q2, if_pos q4, if_pos q5])
          · refine sw_iload O (xx_dt dd_X14_holds 42 rfl) rfl ?_
            exact sw_iret O (xx_dt dd_X14_holds 43 rfl) rfl rfl (by rw [hQ, kr6 (nI ((i6 + tn) % 6)) (by simp only [if_neg q2, if_pos q4, if_neg q5])]; exact ⟨rfl, rfl⟩)
        · have hc42 := (kept_nat (hkp _ (by omega)) q4 (by have := (hpk ((i6 + tn) % 6) (by omega)).2; omega))
          have hd42 := hc42.2
          refine sw_aload_n O (xx_dt dd_X14_holds 24 rfl) rfl ?_
          refine sw_get (v := .ref 5002) O (xx_dt dd_X14_holds 25 rfl) cl_X14 fl_X14_27 (lm_mod (σ := σ)) (by decide) rfl ?_
          refine sw_iload O (xx_dt dd_X14_holds 26 rfl) rfl ?_
          refine sw_callVL (ci := 6) (as := [.int (nI ((i6 + tn) % 6))]) (st := []) (st2 := [.ref (5020 + (i6 + tn) % 6)]) O (ct_get hl hbs (lm_5002 (σ := σ) (B := B) hB (by omega)) (by omega) (i := (i6 + tn) % 6) (x := 5020 + (i6 + tn) % 6) (by omega) (by omega) rfl) ce_Jx4a65c_get_915e3 ml_X14_61 iv_Jx4a65c_get_915e3 cl_Jx4a65c rfl (lm_5002 (σ := σ) (B := B) hB (by omega)) (xx_dt dd_X14_holds 27 rfl) (by decide) rfl rfl (Nat.le_of_ble_eq_true rfl) rfl ?_
          refine sw_castO O (xx_dt dd_X14_holds 28 rfl) cl_X9 (lm_bid (σ := σ) (B := B) hB (by omega) (j := (i6 + tn) % 6) (by omega)) cw_X14_118 ?_
          refine sw_aload_n O (xx_dt dd_X14_holds 29 rfl) rfl ?_
          refine sw_get (v := .ref 5005) O (xx_dt dd_X14_holds 30 rfl) cl_X14 fl_X14_36 (lm_mod (σ := σ)) (by decide) rfl ?_
          refine sw_iload O (xx_dt dd_X14_holds 31 rfl) rfl ?_
          refine sw_iaload (v := .int (nI (cn (σ 5005 ((i6 + tn) % 6))))) O (xx_dt dd_X14_holds 32 rfl) ((im_5005 (z := z) (σ := σ)).get _) (pk_in ((i6 + tn) % 6) _ (by omega)) (by rw [nI_clamp (by omega)]; exact (congrArg Value.int hc42.1)) ?_
          refine sw_callVx (as := [.int (nI (cn (σ 5005 ((i6 + tn) % 6))))]) (st := []) (st2 := [.int (f_Bcode σ ((i6 + tn) % 6) (cn (σ 5005 ((i6 + tn) % 6))))]) O (ct_X9_code hl (z := z) (σ := σ) hbs (B := B) hB (by omega) (j := (i6 + tn) % 6) (by omega) (p := pk ((i6 + tn) % 6)) (hpk ((i6 + tn) % 6) (by omega)).1 (by have h9 := (hpk ((i6 + tn) % 6) (by omega)).2; omega) (k := cn (σ 5005 ((i6 + tn) % 6))) (by first | omega | (have h9 := (hpk ((i6 + tn) % 6) (by omega)).2; omega))) ce_X9_code ml_X14_240 iv_X9_code cl_X9 rfl (lm_bid (σ := σ) (B := B) hB (by omega) (j := (i6 + tn) % 6) (by omega)) (xx_dt dd_X14_holds 33 rfl) (by decide) rfl rfl (Nat.le_of_ble_eq_true rfl) rfl ?_
          refine sw_iload_n O (xx_dt dd_X14_holds 34 rfl) rfl ?_
          refine sw_callSx (as := [.int (f_Bcode σ ((i6 + tn) % 6) (cn (σ 5005 ((i6 + tn) % 6)))), .int (nI r)]) (st := []) (st2 := [.int (f_of (f_Bcode σ ((i6 + tn) % 6) (cn (σ 5005 ((i6 + tn) % 6)))) r)]) O (ct_X14_of hl (c := f_Bcode σ ((i6 + tn) % 6) (cn (σ 5005 ((i6 + tn) % 6)))) (r := r) (by omega)) ce_X14_of ml_X14_53 st_X14_of (xx_dt dd_X14_holds 35 rfl) (by decide) rfl rfl (Nat.le_of_ble_eq_true rfl) rfl ?_
          refine sw_goto (tgt := 75) O (xx_dt dd_X14_holds 36 rfl) (by decide) ?_
          refine sw_istore (ls2 := [.ref 5000, .int (nI r), .int y, .int (nI tn), .int s6, .int (nI i6), .int (nI ((i6 + tn) % 6)), .int (f_of (f_Bcode σ ((i6 + tn) % 6) (cn (σ 5005 ((i6 + tn) % 6)))) r)]) O (xx_dt dd_X14_holds 38 rfl) (by decide) rfl ?_
          refine sw_iload O (xx_dt dd_X14_holds 39 rfl) rfl ?_
          refine sw_iload O (xx_dt dd_X14_holds 40 rfl) rfl ?_
          refine sw_icmp_ge (tgt := 87) O (xx_dt dd_X14_holds 41 rfl) (by decide) (fun q6 => ?_) (fun q6 => ?_)
          · refine sw_iload O (xx_dt dd_X14_holds 44 rfl) rfl ?_
            refine sw_iload O (xx_dt dd_X14_holds 45 rfl) rfl ?_
            refine sw_isub O (xx_dt dd_X14_holds 46 rfl) ?_
            refine sw_istore (ls2 := [.ref 5000, .int (nI r), .int y, .int (nI tn), .int (s6 - (f_of (f_Bcode σ ((i6 + tn) % 6) (cn (σ 5005 ((i6 + tn) % 6)))) r)), .int (nI i6), .int (nI ((i6 + tn) % 6)), .int (f_of (f_Bcode σ ((i6 + tn) % 6) (cn (σ 5005 ((i6 + tn) % 6)))) r)]) O (xx_dt dd_X14_holds 47 rfl) (by decide) rfl ?_
            refine sw_iinc (y := nI (i6 + 1)) (ls2 := [.ref 5000, .int (nI r), .int y, .int (nI tn), .int (s6 - (f_of (f_Bcode σ ((i6 + tn) % 6) (cn (σ 5005 ((i6 + tn) % 6)))) r)), .int (nI (i6 + 1)), .int (nI ((i6 + tn) % 6)), .int (f_of (f_Bcode σ ((i6 + tn) % 6) (cn (σ 5005 ((i6 + tn) % 6)))) r)]) O (xx_dt dd_X14_holds 48 rfl) rfl (nI_1 _) (by decide) rfl ?_
            refine sw_goto (tgt := 6) O (xx_dt dd_X14_holds 49 rfl) (by decide) ?_
            refine sw_dum (ls2 := [.ref 5000, .int (nI r), .int y, .int (nI tn), .int (s6 - (f_of (f_Bcode σ ((i6 + tn) % 6) (cn (σ 5005 ((i6 + tn) % 6)))) r)), .int (nI (i6 + 1)), xx_d, xx_d]) ⟨.inr rfl, .inr rfl, .inr rfl, .inr rfl, .inr rfl, .inr rfl, .inl rfl, .inl rfl, trivial⟩ ?_
            exact kk6 (s6 - (f_of (f_Bcode σ ((i6 + tn) % 6) (cn (σ 5005 ((i6 + tn) % 6)))) r)) (by simp only [if_neg q2, if_neg q4, if_pos q6])
          · refine sw_iload O (xx_dt dd_X14_holds 42 rfl) rfl ?_
            exact sw_iret O (xx_dt dd_X14_holds 43 rfl) rfl rfl (by rw [hQ, kr6 (nI ((i6 + tn) % 6)) (by simp only [if_neg q2, if_neg q4, if_neg q6])]; exact ⟨rfl, rfl⟩)
  · show SW Y _ _ (setM z σ h) 6 [.ref 5000, .int (nI r), .int y, .int (nI tn), .int sN6, .int (nI 6), xx_d, xx_d] []
    refine sw_iload O (xx_dt dd_X14_holds 4 rfl) rfl ?_
    refine sw_bipush (x := 6) O (xx_dt dd_X14_holds 5 rfl) (by decide) ?_
    refine sw_icmp_ge (tgt := 100) O (xx_dt dd_X14_holds 6 rfl) (by decide) (fun q1 => ?_) (fun q1 => ?_)
    · refine sw_iconst (x := (-1)) O (xx_dt dd_X14_holds 50 rfl) (by decide) ?_
      exact sw_iret O (xx_dt dd_X14_holds 51 rfl) rfl rfl (by rw [hQ]; exact ⟨by unfold f_Mholds; simp only [x_Mholds_6, eN6], rfl⟩)
    · exact absurd (Int32.le_refl _) q1
  · unfold f_Mholds; simp only [x_Mholds_6, eN6]
def x_Mclashes_39 (σ : XS9) (r tn r2 tn2 B : Nat) (sp : Nat → Nat) (s0 : Int32) : Int32 := xit (fun i39 s39 => (if (f_Mholds σ r (nI i39) tn B) = (-1) then s39 + 0 else (if (f_Mholds σ r2 (nI i39) tn2 B) = (-1) then s39 + 0 else (if (f_Mholds σ r (nI i39) tn B) = (f_Mholds σ r2 (nI i39) tn2 B) then s39 + 0 else s39 + 1)))) (min (sp r) (sp r2)) 0 s0
def f_Mclashes (σ : XS9) (r tn r2 tn2 B : Nat) (sp : Nat → Nat) : Int32 := (x_Mclashes_39 σ r tn r2 tn2 B sp 0)
theorem ct_X14_clashes {l : Launch} {h : XH} (hl : l.stackTraces = false) {z : Int64} {σ : XS9} (hbs : xx_bs h) {R : Nat} (hR : σ 5001 900 = nI R) (hR5 : R ≤ 5) {B : Nat} (hB : σ 5002 900 = nI B) (hB6 : B ≤ 6) {pk : Nat → Nat} (hpk : ∀ j, j < B → σ (5030 + j) 900 = nI (2 * pk j) ∧ pk j ≤ 6) (hkp : ∀ j, j < B → σ 5005 j = -1 ∨ ∃ n, n < pk j ∧ σ 5005 j = nI n) {sp : Nat → Nat} (hsp : ∀ r, r < R → σ (5010 + r) 0 = nI (sp r) ∧ sp r ≤ 5) {r tn r2 tn2 : Nat} (hr : r < R) (htn : tn < 100) (hr2 : r2 < R) (htn2 : tn2 < 100) : XEx l m_X14_clashes 6 0 0 [.ref 5000, .int (nI r), .int (nI tn), .int (nI r2), .int (nI tn2)] (setM z σ h) (some (.int (f_Mclashes σ r tn r2 tn2 B sp))) (setM z σ h) := by
  refine XMet.of hl rfl rfl (Nat.le_of_ble_eq_true rfl) (fun Y O hh hQ => ?_)
  show SW Y 0 0 (setM z σ h) 0 [.ref 5000, .int (nI r), .int (nI tn), .int (nI r2), .int (nI tn2), xx_d, xx_d, xx_d, xx_d, xx_d] []
  refine sw_iconst (x := 0) O (xx_dt dd_X14_clashes 0 rfl) (by decide) ?_
  refine sw_istore (ls2 := [.ref 5000, .int (nI r), .int (nI tn), .int (nI r2), .int (nI tn2), .int 0, xx_d, xx_d, xx_d, xx_d]) O (xx_dt dd_X14_clashes 1 rfl) (by decide) rfl ?_
  refine sw_aload_n O (xx_dt dd_X14_clashes 2 rfl) rfl ?_
  refine sw_get (v := .ref 5001) O (xx_dt dd_X14_clashes 3 rfl) cl_X14 fl_X14_23 (lm_mod (σ := σ)) (by decide) rfl ?_
  refine sw_iload_n O (xx_dt dd_X14_clashes 4 rfl) rfl ?_
  refine sw_callVL (ci := 6) (as := [.int (nI r)]) (st := []) (st2 := [.ref (5010 + r)]) O (ct_get hl hbs (lm_5001 (σ := σ) (R := R) hR (by omega)) (by omega) (i := r) (x := 5010 + r) (by omega) (by omega) rfl) ce_Jx4a65c_get_915e3 ml_X14_61 iv_Jx4a65c_get_915e3 cl_Jx4a65c rfl (lm_5001 (σ := σ) (R := R) hR (by omega)) (xx_dt dd_X14_clashes 5 rfl) (by decide) rfl rfl (Nat.le_of_ble_eq_true rfl) rfl ?_
  refine sw_castO O (xx_dt dd_X14_clashes 6 rfl) cl_X12 (lm_reg (σ := σ) (R := R) hR (by omega) (j := r) (by omega)) cw_X14_65 ?_
  have hz14 := (hsp r (by omega)).2
  refine sw_get (v := .int (nI (sp r))) O (xx_dt dd_X14_clashes 7 rfl) cl_X12 fl_X14_81 (lm_reg (σ := σ) (R := R) hR (by omega) (j := r) (by omega)) (by decide) (congrArg Value.int (hsp r (by omega)).1) ?_
  refine sw_aload_n O (xx_dt dd_X14_clashes 8 rfl) rfl ?_
  refine sw_get (v := .ref 5001) O (xx_dt dd_X14_clashes 9 rfl) cl_X14 fl_X14_23 (lm_mod (σ := σ)) (by decide) rfl ?_
  refine sw_iload_n O (xx_dt dd_X14_clashes 10 rfl) rfl ?_
  refine sw_callVL (ci := 6) (as := [.int (nI r2)]) (st := [.int (nI (sp r))]) (st2 := [.ref (5010 + r2), .int (nI (sp r))]) O (ct_get hl hbs (lm_5001 (σ := σ) (R := R) hR (by omega)) (by omega) (i := r2) (x := 5010 + r2) (by omega) (by omega) rfl) ce_Jx4a65c_get_915e3 ml_X14_61 iv_Jx4a65c_get_915e3 cl_Jx4a65c rfl (lm_5001 (σ := σ) (R := R) hR (by omega)) (xx_dt dd_X14_clashes 11 rfl) (by decide) rfl rfl (Nat.le_of_ble_eq_true rfl) rfl ?_
  refine sw_castO O (xx_dt dd_X14_clashes 12 rfl) cl_X12 (lm_reg (σ := σ) (R := R) hR (by omega) (j := r2) (by omega)) cw_X14_65 ?_
  have hz28 := (hsp r2 (by omega)).2
  refine sw_get (v := .int (nI (sp r2))) O (xx_dt dd_X14_clashes 13 rfl) cl_X12 fl_X14_81 (lm_reg (σ := σ) (R := R) hR (by omega) (j := r2) (by omega)) (by decide) (congrArg Value.int (hsp r2 (by omega)).1) ?_
  refine sw_min O mm_X14_213 (xx_dt dd_X14_clashes 14 rfl) (by omega) (Nat.le_of_ble_eq_true rfl) ?_
  rw [min_nat (a := sp r) (b := sp r2) (by omega) (by omega)]
  refine sw_istore (ls2 := [.ref 5000, .int (nI r), .int (nI tn), .int (nI r2), .int (nI tn2), .int 0, .int (nI (min (sp r) (sp r2))), xx_d, xx_d, xx_d]) O (xx_dt dd_X14_clashes 15 rfl) (by decide) rfl ?_
  refine sw_iconst (x := 0) O (xx_dt dd_X14_clashes 16 rfl) (by decide) ?_
  refine sw_istore (ls2 := [.ref 5000, .int (nI r), .int (nI tn), .int (nI r2), .int (nI tn2), .int 0, .int (nI (min (sp r) (sp r2))), .int 0, xx_d, xx_d]) O (xx_dt dd_X14_clashes 17 rfl) (by decide) rfl ?_
  refine sw_for (S := Int32) (fun i39 s39 => (if (f_Mholds σ r (nI i39) tn B) = (-1) then s39 + 0 else (if (f_Mholds σ r2 (nI i39) tn2 B) = (-1) then s39 + 0 else (if (f_Mholds σ r (nI i39) tn B) = (f_Mholds σ r2 (nI i39) tn2 B) then s39 + 0 else s39 + 1)))) (fun _ _ => True) (hp := fun _ => setM z σ h) (hd := 39) (lc := fun i39 s39 => [.ref 5000, .int (nI r), .int (nI tn), .int (nI r2), .int (nI tn2), .int s39, .int (nI (min (sp r) (sp r2))), .int (nI i39), xx_d, xx_d]) (N := (min (sp r) (sp r2))) (fun i39 s39 hi39 hP39 => ⟨trivial, fun kk39 => ?_⟩) (min (sp r) (sp r2)) 0 0 (by omega) (trivial) (fun hP39 => ?_)
  · refine sw_iload O (xx_dt dd_X14_clashes 18 rfl) rfl ?_
    refine sw_iload O (xx_dt dd_X14_clashes 19 rfl) rfl ?_
    refine sw_icmp_ge (tgt := 102) O (xx_dt dd_X14_clashes 20 rfl) (by decide) (fun q1 => ?_) (fun q1 => ?_)
    · exact absurd q1 (nI_ge (b := (min (sp r) (sp r2))) hi39 (by omega))
    · refine sw_aload_n O (xx_dt dd_X14_clashes 21 rfl) rfl ?_
      refine sw_iload_n O (xx_dt dd_X14_clashes 22 rfl) rfl ?_
      refine sw_iload O (xx_dt dd_X14_clashes 23 rfl) rfl ?_
      refine sw_iload_n O (xx_dt dd_X14_clashes 24 rfl) rfl ?_
      refine sw_callVx (as := [.int (nI r), .int (nI i39), .int (nI tn)]) (st := []) (st2 := [.int (f_Mholds σ r (nI i39) tn B)]) O (ct_X14_holds hl (z := z) (σ := σ) hbs (R := R) hR (by omega) (B := B) hB (by omega) (pk := pk) hpk hkp (r := r) (y := nI i39) (tn := tn) (by omega) (by omega)) ce_X14_holds ml_X14_243 iv_X14_holds cl_X14 rfl (lm_mod (σ := σ)) (xx_dt dd_X14_clashes 25 rfl) (by decide) rfl rfl (Nat.le_of_ble_eq_true rfl) rfl ?_
      refine sw_istore (ls2 := [.ref 5000, .int (nI r), .int (nI tn), .int (nI r2), .int (nI tn2), .int s39, .int (nI (min (sp r) (sp r2))), .int (nI i39), .int (f_Mholds σ r (nI i39) tn B), xx_d]) O (xx_dt dd_X14_clashes 26 rfl) (by decide) rfl ?_
      refine sw_aload_n O (xx_dt dd_X14_clashes 27 rfl) rfl ?_
      refine sw_iload_n O (xx_dt dd_X14_clashes 28 rfl) rfl ?_
      refine sw_iload O (xx_dt dd_X14_clashes 29 rfl) rfl ?_
      refine sw_iload O (xx_dt dd_X14_clashes 30 rfl) rfl ?_
      refine sw_callVx (as := [.int (nI r2), .int (nI i39), .int (nI tn2)]) (st := []) (st2 := [.int (f_Mholds σ r2 (nI i39) tn2 B)]) O (ct_X14_holds hl (z := z) (σ := σ) hbs (R := R) hR (by omega) (B := B) hB (by omega) (pk := pk) hpk hkp (r := r2) (y := nI i39) (tn := tn2) (by omega) (by omega)) ce_X14_holds ml_X14_243 iv_X14_holds cl_X14 rfl (lm_mod (σ := σ)) (xx_dt dd_X14_clashes 31 rfl) (by decide) rfl rfl (Nat.le_of_ble_eq_true rfl) rfl ?_
      refine sw_istore (ls2 := [.ref 5000, .int (nI r), .int (nI tn), .int (nI r2), .int (nI tn2), .int s39, .int (nI (min (sp r) (sp r2))), .int (nI i39), .int (f_Mholds σ r (nI i39) tn B), .int (f_Mholds σ r2 (nI i39) tn2 B)]) O (xx_dt dd_X14_clashes 32 rfl) (by decide) rfl ?_
      refine sw_iload O (xx_dt dd_X14_clashes 33 rfl) rfl ?_
      refine sw_iload O (xx_dt dd_X14_clashes 34 rfl) rfl ?_
      refine sw_iconst (x := (-1)) O (xx_dt dd_X14_clashes 35 rfl) (by decide) ?_
      refine sw_icmp_eq (tgt := 92) O (xx_dt dd_X14_clashes 36 rfl) (by decide) (fun q2 => ?_) (fun q2 => ?_)
      · refine sw_iconst (x := 0) O (xx_dt dd_X14_clashes 45 rfl) (by decide) ?_
        refine sw_iadd O (xx_dt dd_X14_clashes 46 rfl) ?_
        refine sw_istore (ls2 := [.ref 5000, .int (nI r), .int (nI tn), .int (nI r2), .int (nI tn2), .int (s39 + 0), .int (nI (min (sp r) (sp r2))), .int (nI i39), .int (f_Mholds σ r (nI i39) tn B), .int (f_Mholds σ r2 (nI i39) tn2 B)]) O (xx_dt dd_X14_clashes 47 rfl) (by decide) rfl ?_
        refine sw_iinc (y := nI (i39 + 1)) (ls2 := [.ref 5000, .int (nI r), .int (nI tn), .int (nI r2), .int (nI tn2), .int (s39 + 0), .int (nI (min (sp r) (sp r2))), .int (nI (i39 + 1)), .int (f_Mholds σ r (nI i39) tn B), .int (f_Mholds σ r2 (nI i39) tn2 B)]) O (xx_dt dd_X14_clashes 48 rfl) rfl (nI_1 _) (by decide) rfl ?_
        refine sw_goto (tgt := 39) O (xx_dt dd_X14_clashes 49 rfl) (by decide) ?_
        refine sw_dum (ls2 := [.ref 5000, .int (nI r), .int (nI tn), .int (nI r2), .int (nI tn2), .int (s39 + 0), .int (nI (min (sp r) (sp r2))), .int (nI (i39 + 1)), xx_d, xx_d]) ⟨.inr rfl, .inr rfl, .inr rfl, .inr rfl, .inr rfl, .inr rfl, .inr rfl, .inr rfl, .inl rfl, .inl rfl, trivial⟩ ?_
        simp only [if_pos q2] at kk39
        exact kk39
      · refine sw_iload O (xx_dt dd_X14_clashes 37 rfl) rfl ?_
        refine sw_iconst (x := (-1)) O (xx_dt dd_X14_clashes 38 rfl) (by decide) ?_
        refine sw_icmp_eq (tgt := 92) O (xx_dt dd_X14_clashes 39 rfl) (by decide) (fun q3 => ?_) (fun q3 => ?_)
        · refine sw_iconst (x := 0) O (xx_dt dd_X14_clashes 45 rfl) (by decide) ?_
          refine sw_iadd O (xx_dt dd_X14_clashes 46 rfl) ?_
          refine sw_istore (ls2 := [.ref 5000, .int (nI r), .int (nI tn), .int (nI r2), .int (nI tn2), .int (s39 + 0), .int (nI (min (sp r) (sp r2))), .int (nI i39), .int (f_Mholds σ r (nI i39) tn B), .int (f_Mholds σ r2 (nI i39) tn2 B)]) O (xx_dt dd_X14_clashes 47 rfl) (by decide) rfl ?_
          refine sw_iinc (y := nI (i39 + 1)) (ls2 := [.ref 5000, .int (nI r), .int (nI tn), .int (nI r2), .int (nI tn2), .int (s39 + 0), .int (nI (min (sp r) (sp r2))), .int (nI (i39 + 1)), .int (f_Mholds σ r (nI i39) tn B), .int (f_Mholds σ r2 (nI i39) tn2 B)]) O (xx_dt dd_X14_clashes 48 rfl) rfl (nI_1 _) (by decide) rfl ?_
          refine sw_goto (tgt := 39) O (xx_dt dd_X14_clashes 49 rfl) (by decide) ?_
          refine sw_dum (ls2 := [.ref 5000, .int (nI r), .int (nI tn), .int (nI r2), .int (nI tn2), .int (s39 + 0), .int (nI (min (sp r) (sp r2))), .int (nI (i39 + 1)), xx_d, xx_d]) ⟨.inr rfl, .inr rfl, .inr rfl, .inr rfl, .inr rfl, .inr rfl, .inr rfl, .inr rfl, .inl rfl, .inl rfl, trivial⟩ ?_
          simp only [if_neg q2, if_pos q3] at kk39
          exact kk39
        · refine sw_iload O (xx_dt dd_X14_clashes 40 rfl) rfl ?_
          refine sw_iload O (xx_dt dd_X14_clashes 41 rfl) rfl ?_
          refine sw_icmp_eq (tgt := 92) O (xx_dt dd_X14_clashes 42 rfl) (by decide) (fun q4 => ?_) (fun q4 => ?_)
          · refine sw_iconst (x := 0) O (xx_dt dd_X14_clashes 45 rfl) (by decide) ?_
            refine sw_iadd O (xx_dt dd_X14_clashes 46 rfl) ?_
            refine sw_istore (ls2 := [.ref 5000, .int (nI r), .int (nI tn), .int (nI r2), .int (nI tn2), .int (s39 + 0), .int (nI (min (sp r) (sp r2))), .int (nI i39), .int (f_Mholds σ r (nI i39) tn B), .int (f_Mholds σ r2 (nI i39) tn2 B)]) O (xx_dt dd_X14_clashes 47 rfl) (by decide) rfl ?_
            refine sw_iinc (y := nI (i39 + 1)) (ls2 := [.ref 5000, .int (nI r), .int (nI tn), .int (nI r2), .int (nI tn2), .int (s39 + 0), .int (nI (min (sp r) (sp r2))), .int (nI (i39 + 1)), .int (f_Mholds σ r (nI i39) tn B), .int (f_Mholds σ r2 (nI i39) tn2 B)]) O (xx_dt dd_X14_clashes 48 rfl) rfl (nI_1 _) (by decide) rfl ?_
            refine sw_goto (tgt := 39) O (xx_dt dd_X14_clashes 49 rfl) (by decide) ?_
            refine sw_dum (ls2 := [.ref 5000, .int (nI r), .int (nI tn), .int (nI r2), .int (nI tn2), .int (s39 + 0), .int (nI (min (sp r) (sp r2))), .int (nI (i39 + 1)), xx_d, xx_d]) ⟨.inr rfl, .inr rfl, .inr rfl, .inr rfl, .inr rfl, .inr rfl, .inr rfl, .inr rfl, .inl rfl, .inl rfl, trivial⟩ ?_
            simp only [if_neg q2, if_neg q3, if_pos q4] at kk39
            exact kk39
          · refine sw_iconst (x := 1) O (xx_dt dd_X14_clashes 43 rfl) (by decide) ?_
            refine sw_goto (tgt := 93) O (xx_dt dd_X14_clashes 44 rfl) (by decide) ?_
            refine sw_iadd O (xx_dt dd_X14_clashes 46 rfl) ?_
            refine sw_istore (ls2 := [.ref 5000, .int (nI r), .int (nI tn), .int (nI r2), .int (nI tn2), .int (s39 + 1), .int (nI (min (sp r) (sp r2))), .int (nI i39), .int (f_Mholds σ r (nI i39) tn B), .int (f_Mholds σ r2 (nI i39) tn2 B)]) O (xx_dt dd_X14_clashes 47 rfl) (by decide) rfl ?_
            refine sw_iinc (y := nI (i39 + 1)) (ls2 := [.ref 5000, .int (nI r), .int (nI tn), .int (nI r2), .int (nI tn2), .int (s39 + 1), .int (nI (min (sp r) (sp r2))), .int (nI (i39 + 1)), .int (f_Mholds σ r (nI i39) tn B), .int (f_Mholds σ r2 (nI i39) tn2 B)]) O (xx_dt dd_X14_clashes 48 rfl) rfl (nI_1 _) (by decide) rfl ?_
            refine sw_goto (tgt := 39) O (xx_dt dd_X14_clashes 49 rfl) (by decide) ?_
            refine sw_dum (ls2 := [.ref 5000, .int (nI r), .int (nI tn), .int (nI r2), .int (nI tn2), .int (s39 + 1), .int (nI (min (sp r) (sp r2))), .int (nI (i39 + 1)), xx_d, xx_d]) ⟨.inr rfl, .inr rfl, .inr rfl, .inr rfl, .inr rfl, .inr rfl, .inr rfl, .inr rfl, .inl rfl, .inl rfl, trivial⟩ ?_
            simp only [if_neg q2, if_neg q3, if_neg q4] at kk39
            exact kk39
  · show SW Y _ _ (setM z σ h) 39 [.ref 5000, .int (nI r), .int (nI tn), .int (nI r2), .int (nI tn2), .int (x_Mclashes_39 σ r tn r2 tn2 B sp 0), .int (nI (min (sp r) (sp r2))), .int (nI ((min (sp r) (sp r2)))), xx_d, xx_d] []
    refine sw_iload O (xx_dt dd_X14_clashes 18 rfl) rfl ?_
    refine sw_iload O (xx_dt dd_X14_clashes 19 rfl) rfl ?_
    refine sw_icmp_ge (tgt := 102) O (xx_dt dd_X14_clashes 20 rfl) (by decide) (fun q1 => ?_) (fun q1 => ?_)
    · refine sw_iload O (xx_dt dd_X14_clashes 50 rfl) rfl ?_
      exact sw_iret O (xx_dt dd_X14_clashes 51 rfl) rfl rfl (by rw [hQ]; exact ⟨by unfold f_Mclashes; rfl, rfl⟩)
    · exact absurd (Int32.le_refl _) q1
