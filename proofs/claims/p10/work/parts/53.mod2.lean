/-! ===== the reference: what is only read ===== -/
theorem toI_small {a : Nat} (ha : a < 2147483648) : (nI a).toInt = (a : Int) := toI_nI ha
theorem i_ext {x y : Int32} (h : x.toInt = y.toInt) : x = y := Int32.toInt_inj.mp h
theorem nI_dbl {a : Nat} : 2 * (nI a) = nI (2 * a) := by
  unfold nI
  rw [show (2 : Int32) = Int32.ofNat 2 from rfl, ← Int32.ofNat_mul]
theorem nI_half {a : Nat} (ha : a < 1000) : (nI (2 * a)) / 2 = nI a := by
  apply i_ext
  rw [Int32.toInt_div, toI_nI (by omega), toI_nI (by omega)]
  have : (2 : Int32).toInt = 2 := rfl
  have h2 : ((2 * a : Nat) : Int).tdiv 2 = a := by
    rw [show ((2 * a : Nat) : Int) = 2 * (a : Int) by omega]
    exact Int.mul_tdiv_cancel_left _ (by decide)
  rw [this, h2, Int.bmod_def]
  omega
def f_Bmany (σ : XS9) (j p : Nat) : Int32 := nI p
theorem ct_X9_many {l : Launch} {h : XH} (hl : l.stackTraces = false) {z : Int64} {σ : XS9} (hbs : xx_bs h) {B : Nat} (hB : σ 5002 900 = nI B) (hB6 : B ≤ 6) {j : Nat} (hj : j < B) {p : Nat} (hp : σ (5030 + j) 900 = nI (2 * p)) (hp6 : p ≤ 6)  : XEx l m_X9_many 1 0 0 [.ref (5020 + j)] (setM z σ h) (some (.int (f_Bmany σ j p))) (setM z σ h) := by
  refine XMet.of hl rfl rfl (Nat.le_of_ble_eq_true rfl) (fun Y O hh hQ => ?_)
  show SW Y 0 0 (setM z σ h) 0 [.ref (5020 + j)] []
  refine sw_aload_n O (xx_dt dd_X9_many 0 rfl) rfl ?_
  refine sw_get (v := .ref (5030 + j)) O (xx_dt dd_X9_many 1 rfl) cl_X9 fl_X9_10 (lm_bid (σ := σ) (B := B) hB (by omega) (j := j) (by omega)) (by decide) rfl ?_
  refine sw_callVL (ci := 6) (as := []) (st := []) (st2 := [.int (nI (2 * p))]) O (ct_AL_size hl (lm_pks (σ := σ) (B := B) hB (by omega) (j := j) (by omega) (p := 2 * p) hp (by omega))) ce_Jx4a65c_size_8abf5 ml_X9_16 iv_Jx4a65c_size_8abf5 cl_Jx4a65c rfl (lm_pks (σ := σ) (B := B) hB (by omega) (j := j) (by omega) (p := 2 * p) hp (by omega)) (xx_dt dd_X9_many 2 rfl) (by decide) rfl rfl (Nat.le_of_ble_eq_true rfl) rfl ?_
  refine sw_iconst (x := 2) O (xx_dt dd_X9_many 3 rfl) (by decide) ?_
  refine sw_idiv O (xx_dt dd_X9_many 4 rfl) (by first | decide | assumption) ?_
  have hx8 := trivial
  rw [nI_half (by omega)]
  exact sw_iret O (xx_dt dd_X9_many 5 rfl) rfl rfl (by rw [hQ]; exact ⟨by unfold f_Bmany; rfl, rfl⟩)
def f_Bcode (σ : XS9) (j k : Nat) : Int32 := σ (5030 + j) (2 * k)
theorem ct_X9_code {l : Launch} {h : XH} (hl : l.stackTraces = false) {z : Int64} {σ : XS9} (hbs : xx_bs h) {B : Nat} (hB : σ 5002 900 = nI B) (hB6 : B ≤ 6) {j : Nat} (hj : j < B) {p : Nat} (hp : σ (5030 + j) 900 = nI (2 * p)) (hp6 : p ≤ 6) {k : Nat} (hk : k < p)  : XEx l m_X9_code 3 0 0 [.ref (5020 + j), .int (nI k)] (setM z σ h) (some (.int (f_Bcode σ j k))) (setM z σ h) := by
  refine XMet.of hl rfl rfl (Nat.le_of_ble_eq_true rfl) (fun Y O hh hQ => ?_)
  show SW Y 0 0 (setM z σ h) 0 [.ref (5020 + j), .int (nI k)] []
  refine sw_aload_n O (xx_dt dd_X9_code 0 rfl) rfl ?_
  refine sw_get (v := .ref (5030 + j)) O (xx_dt dd_X9_code 1 rfl) cl_X9 fl_X9_10 (lm_bid (σ := σ) (B := B) hB (by omega) (j := j) (by omega)) (by decide) rfl ?_
  refine sw_iconst (x := 2) O (xx_dt dd_X9_code 2 rfl) (by decide) ?_
  refine sw_iload_n O (xx_dt dd_X9_code 3 rfl) rfl ?_
  refine sw_imul O (xx_dt dd_X9_code 4 rfl) ?_
  have hx6 := trivial
  rw [nI_dbl]
  refine sw_callVL (ci := 6) (as := [.int (nI (2 * k))]) (st := []) (st2 := [.ref (xx_box (σ (5030 + j) (2 * k)) (nmP j (2 * k)))]) O (ct_get hl hbs (lm_pks (σ := σ) (B := B) hB (by omega) (j := j) (by omega) (p := 2 * p) hp (by omega)) (by omega) (i := 2 * k) (x := xx_box (σ (5030 + j) (2 * k)) (nmP j (2 * k))) (by omega) (by omega) rfl) ce_Jx4a65c_get_915e3 ml_X9_20 iv_Jx4a65c_get_915e3 cl_Jx4a65c rfl (lm_pks (σ := σ) (B := B) hB (by omega) (j := j) (by omega) (p := 2 * p) hp (by omega)) (xx_dt dd_X9_code 5 rfl) (by decide) rfl rfl (Nat.le_of_ble_eq_true rfl) rfl ?_
  refine sw_castO O (xx_dt dd_X9_code 6 rfl) cl_J6 (lm_pbox (σ := σ) hbs (B := B) hB (by omega) (j := j) (by omega) (p := 2 * p) hp (by omega) (k := 2 * k) (by omega)) cw_X9_24 ?_
  refine sw_callVx (as := []) (st := []) (st2 := [.int (σ (5030 + j) (2 * k))]) O (ct_intValue hl (lm_pbox (σ := σ) hbs (B := B) hB (by omega) (j := j) (by omega) (p := 2 * p) hp (by omega) (k := 2 * k) (by omega)) rfl) ce_J6_intValue_8abf5 ml_X9_26 iv_J6_intValue_8abf5 cl_J6 rfl (lm_pbox (σ := σ) hbs (B := B) hB (by omega) (j := j) (by omega) (p := 2 * p) hp (by omega) (k := 2 * k) (by omega)) (xx_dt dd_X9_code 7 rfl) (by decide) rfl rfl (Nat.le_of_ble_eq_true rfl) rfl ?_
  exact sw_iret O (xx_dt dd_X9_code 8 rfl) rfl rfl (by rw [hQ]; exact ⟨by unfold f_Bcode; rfl, rfl⟩)
def f_Bamount (σ : XS9) (j k : Nat) : Int32 := σ (5030 + j) (2 * k + 1)
theorem ct_X9_amount {l : Launch} {h : XH} (hl : l.stackTraces = false) {z : Int64} {σ : XS9} (hbs : xx_bs h) {B : Nat} (hB : σ 5002 900 = nI B) (hB6 : B ≤ 6) {j : Nat} (hj : j < B) {p : Nat} (hp : σ (5030 + j) 900 = nI (2 * p)) (hp6 : p ≤ 6) {k : Nat} (hk : k < p)  : XEx l m_X9_amount 3 0 0 [.ref (5020 + j), .int (nI k)] (setM z σ h) (some (.int (f_Bamount σ j k))) (setM z σ h) := by
  refine XMet.of hl rfl rfl (Nat.le_of_ble_eq_true rfl) (fun Y O hh hQ => ?_)
  show SW Y 0 0 (setM z σ h) 0 [.ref (5020 + j), .int (nI k)] []
  refine sw_aload_n O (xx_dt dd_X9_amount 0 rfl) rfl ?_
  refine sw_get (v := .ref (5030 + j)) O (xx_dt dd_X9_amount 1 rfl) cl_X9 fl_X9_10 (lm_bid (σ := σ) (B := B) hB (by omega) (j := j) (by omega)) (by decide) rfl ?_
  refine sw_iconst (x := 2) O (xx_dt dd_X9_amount 2 rfl) (by decide) ?_
  refine sw_iload_n O (xx_dt dd_X9_amount 3 rfl) rfl ?_
  refine sw_imul O (xx_dt dd_X9_amount 4 rfl) ?_
  have hx6 := trivial
  rw [nI_dbl]
  refine sw_iconst (x := 1) O (xx_dt dd_X9_amount 5 rfl) (by decide) ?_
  refine sw_iadd O (xx_dt dd_X9_amount 6 rfl) ?_
  rw [nI_a1 (2 * k)]
  refine sw_callVL (ci := 6) (as := [.int (nI (2 * k + 1))]) (st := []) (st2 := [.ref (xx_box (σ (5030 + j) (2 * k + 1)) (nmP j (2 * k + 1)))]) O (ct_get hl hbs (lm_pks (σ := σ) (B := B) hB (by omega) (j := j) (by omega) (p := 2 * p) hp (by omega)) (by omega) (i := 2 * k + 1) (x := xx_box (σ (5030 + j) (2 * k + 1)) (nmP j (2 * k + 1))) (by omega) (by omega) rfl) ce_Jx4a65c_get_915e3 ml_X9_20 iv_Jx4a65c_get_915e3 cl_Jx4a65c rfl (lm_pks (σ := σ) (B := B) hB (by omega) (j := j) (by omega) (p := 2 * p) hp (by omega)) (xx_dt dd_X9_amount 7 rfl) (by decide) rfl rfl (Nat.le_of_ble_eq_true rfl) rfl ?_
  refine sw_castO O (xx_dt dd_X9_amount 8 rfl) cl_J6 (lm_pbox (σ := σ) hbs (B := B) hB (by omega) (j := j) (by omega) (p := 2 * p) hp (by omega) (k := 2 * k + 1) (by omega)) cw_X9_24 ?_
  refine sw_callVx (as := []) (st := []) (st2 := [.int (σ (5030 + j) (2 * k + 1))]) O (ct_intValue hl (lm_pbox (σ := σ) hbs (B := B) hB (by omega) (j := j) (by omega) (p := 2 * p) hp (by omega) (k := 2 * k + 1) (by omega)) rfl) ce_J6_intValue_8abf5 ml_X9_26 iv_J6_intValue_8abf5 cl_J6 rfl (lm_pbox (σ := σ) hbs (B := B) hB (by omega) (j := j) (by omega) (p := 2 * p) hp (by omega) (k := 2 * k + 1) (by omega)) (xx_dt dd_X9_amount 9 rfl) (by decide) rfl rfl (Nat.le_of_ble_eq_true rfl) rfl ?_
  exact sw_iret O (xx_dt dd_X9_amount 10 rfl) rfl rfl (by rw [hQ]; exact ⟨by unfold f_Bamount; rfl, rfl⟩)
theorem ct_codeN {l : Launch} {h : XH} (hl : l.stackTraces = false) {z : Int64} {σ : XS9} (hbs : xx_bs h) {B : Nat} (hB : σ 5002 900 = nI B) (hB6 : B ≤ 6) {j : Nat} (hj : j < B) {p : Nat} (hp : σ (5030 + j) 900 = nI (2 * p)) (hp6 : p ≤ 6) {k : Nat} (hk : k < p) {c : Nat} (e : σ (5030 + j) (2 * k) = nI c) : XEx l m_X9_code 3 0 0 [.ref (5020 + j), .int (nI k)] (setM z σ h) (some (.int (nI c))) (setM z σ h) := by
  have t := ct_X9_code (l := l) (h := h) hl (z := z) (σ := σ) hbs hB hB6 hj hp hp6 hk
  unfold f_Bcode at t
  rwa [e] at t
def x_KheldIn_4 (σ : XS9) (b r B g : Nat) (s0 : Int32) : Int32 := xit (fun i4 s4 => s4 + (f_of (σ (b + 2) i4) r)) B 0 s0
def f_KheldIn (σ : XS9) (b r B g : Nat) : Int32 := (x_KheldIn_4 σ b r B g 0)
theorem ct_X11_heldIn {l : Launch} {h : XH} (hl : l.stackTraces = false) {z : Int64} {σ : XS9} (hbs : xx_bs h) {b : Nat} (hb : b = 7000 ∨ b = 8000) (hf : σ b 20 = nI 1) {g : Nat} (hg : σ b 23 = nI g) (hg1 : g < 200) {w : Nat} (hw : σ b 24 = nI w) (hw1 : w < 200) {B : Nat} (hB : σ 5002 900 = nI B) (hB6 : B ≤ 6) {r : Nat} (hr : r < 6) : XEx l m_X11_heldIn 2 0 0 [.ref b, .int (nI r)] (setM z σ h) (some (.int (f_KheldIn σ b r B g))) (setM z σ h) := by
  refine XMet.of hl rfl rfl (Nat.le_of_ble_eq_true rfl) (fun Y O hh hQ => ?_)
  show SW Y 0 0 (setM z σ h) 0 [.ref b, .int (nI r), xx_d, xx_d] []
  refine sw_iconst (x := 0) O (xx_dt dd_X11_heldIn 0 rfl) (by decide) ?_
  refine sw_istore_n (ls2 := [.ref b, .int (nI r), .int 0, xx_d]) O (xx_dt dd_X11_heldIn 1 rfl) (by decide) rfl ?_
  refine sw_iconst (x := 0) O (xx_dt dd_X11_heldIn 2 rfl) (by decide) ?_
  refine sw_istore_n (ls2 := [.ref b, .int (nI r), .int 0, .int 0]) O (xx_dt dd_X11_heldIn 3 rfl) (by decide) rfl ?_
  refine sw_for (S := Int32) (fun i4 s4 => s4 + (f_of (σ (b + 2) i4) r)) (fun _ _ => True) (hp := fun _ => setM z σ h) (hd := 4) (lc := fun i4 s4 => [.ref b, .int (nI r), .int s4, .int (nI i4)]) (N := B) (fun i4 s4 hi4 hP4 => ⟨trivial, fun kk4 => ?_⟩) B 0 0 (by omega) (trivial) (fun hP4 => ?_)
  · refine sw_iload_n O (xx_dt dd_X11_heldIn 4 rfl) rfl ?_
    refine sw_aload_n O (xx_dt dd_X11_heldIn 5 rfl) rfl ?_
    refine sw_get (v := .ref 5000) O (xx_dt dd_X11_heldIn 6 rfl) cl_X11 fl_X11_3 (lm_clk (σ := σ) (b := b) hb (fl1 hf) (g := g) hg (by omega) (w := w) hw (by omega)) (by decide) rfl ?_
    refine sw_get (v := .ref 5002) O (xx_dt dd_X11_heldIn 7 rfl) cl_X14 fl_X11_69 (lm_mod (σ := σ)) (by decide) rfl ?_
    refine sw_callVL (ci := 6) (as := []) (st := [.int (nI i4)]) (st2 := [.int (nI B), .int (nI i4)]) O (ct_AL_size hl (lm_5002 (σ := σ) (B := B) hB (by omega))) ce_Jx4a65c_size_8abf5 ml_X11_19 iv_Jx4a65c_size_8abf5 cl_Jx4a65c rfl (lm_5002 (σ := σ) (B := B) hB (by omega)) (xx_dt dd_X11_heldIn 8 rfl) (by decide) rfl rfl (Nat.le_of_ble_eq_true rfl) rfl ?_
    refine sw_icmp_ge (tgt := 37) O (xx_dt dd_X11_heldIn 9 rfl) (by decide) (fun q1 => ?_) (fun q1 => ?_)
    · exact absurd q1 (nI_ge (b := B) hi4 (by omega))
    · refine sw_iload_n O (xx_dt dd_X11_heldIn 10 rfl) rfl ?_
      refine sw_aload_n O (xx_dt dd_X11_heldIn 11 rfl) rfl ?_
      refine sw_get (v := .ref (b + 2)) O (xx_dt dd_X11_heldIn 12 rfl) cl_X11 fl_X11_33 (lm_clk (σ := σ) (b := b) hb (fl1 hf) (g := g) hg (by omega) (w := w) hw (by omega)) (by decide) rfl ?_
      refine sw_iload_n O (xx_dt dd_X11_heldIn 13 rfl) rfl ?_
      refine sw_iaload (v := .int (σ (b + 2) i4)) O (xx_dt dd_X11_heldIn 14 rfl) ((im_khe (z := z) (σ := σ) (b := b) hb hf).get _) (pk_in i4 _ (by omega)) (by rw [nI_clamp (by omega)]; try exact rfl) ?_
      refine sw_iload_n O (xx_dt dd_X11_heldIn 15 rfl) rfl ?_
      refine sw_callSx (as := [.int (σ (b + 2) i4), .int (nI r)]) (st := [.int s4]) (st2 := [.int (f_of (σ (b + 2) i4) r), .int s4]) O (ct_X14_of hl (c := σ (b + 2) i4) (r := r) (by omega)) ce_X14_of ml_X11_76 st_X14_of (xx_dt dd_X11_heldIn 16 rfl) (by decide) rfl rfl (Nat.le_of_ble_eq_true rfl) rfl ?_
      refine sw_iadd O (xx_dt dd_X11_heldIn 17 rfl) ?_
      refine sw_istore_n (ls2 := [.ref b, .int (nI r), .int (s4 + (f_of (σ (b + 2) i4) r)), .int (nI i4)]) O (xx_dt dd_X11_heldIn 18 rfl) (by decide) rfl ?_
      refine sw_iinc (y := nI (i4 + 1)) (ls2 := [.ref b, .int (nI r), .int (s4 + (f_of (σ (b + 2) i4) r)), .int (nI (i4 + 1))]) O (xx_dt dd_X11_heldIn 19 rfl) rfl (nI_1 _) (by decide) rfl ?_
      refine sw_goto (tgt := 4) O (xx_dt dd_X11_heldIn 20 rfl) (by decide) ?_
      exact kk4
  · show SW Y _ _ (setM z σ h) 4 [.ref b, .int (nI r), .int (x_KheldIn_4 σ b r B g 0), .int (nI B)] []
    refine sw_iload_n O (xx_dt dd_X11_heldIn 4 rfl) rfl ?_
    refine sw_aload_n O (xx_dt dd_X11_heldIn 5 rfl) rfl ?_
    refine sw_get (v := .ref 5000) O (xx_dt dd_X11_heldIn 6 rfl) cl_X11 fl_X11_3 (lm_clk (σ := σ) (b := b) hb (fl1 hf) (g := g) hg (by omega) (w := w) hw (by omega)) (by decide) rfl ?_
    refine sw_get (v := .ref 5002) O (xx_dt dd_X11_heldIn 7 rfl) cl_X14 fl_X11_69 (lm_mod (σ := σ)) (by decide) rfl ?_
    refine sw_callVL (ci := 6) (as := []) (st := [.int (nI B)]) (st2 := [.int (nI B), .int (nI B)]) O (ct_AL_size hl (lm_5002 (σ := σ) (B := B) hB (by omega))) ce_Jx4a65c_size_8abf5 ml_X11_19 iv_Jx4a65c_size_8abf5 cl_Jx4a65c rfl (lm_5002 (σ := σ) (B := B) hB (by omega)) (xx_dt dd_X11_heldIn 8 rfl) (by decide) rfl rfl (Nat.le_of_ble_eq_true rfl) rfl ?_
    refine sw_icmp_ge (tgt := 37) O (xx_dt dd_X11_heldIn 9 rfl) (by decide) (fun q1 => ?_) (fun q1 => ?_)
    · refine sw_iload_n O (xx_dt dd_X11_heldIn 21 rfl) rfl ?_
      exact sw_iret O (xx_dt dd_X11_heldIn 22 rfl) rfl rfl (by rw [hQ]; exact ⟨by unfold f_KheldIn; rfl, rfl⟩)
    · exact absurd (Int32.le_refl _) q1
def x_KwishedIn_4 (σ : XS9) (b r B g : Nat) (s0 : Int32) : Int32 := xit (fun i4 s4 => s4 + (f_of (σ (b + 500 + g) i4) r)) B 0 s0
def f_KwishedIn (σ : XS9) (b r B g : Nat) : Int32 := (x_KwishedIn_4 σ b r B g 0)
theorem ct_X11_wishedIn {l : Launch} {h : XH} (hl : l.stackTraces = false) {z : Int64} {σ : XS9} (hbs : xx_bs h) {b : Nat} (hb : b = 7000 ∨ b = 8000) (hf : σ b 20 = nI 1) {g : Nat} (hg : σ b 23 = nI g) (hg1 : g < 200) {w : Nat} (hw : σ b 24 = nI w) (hw1 : w < 200) {B : Nat} (hB : σ 5002 900 = nI B) (hB6 : B ≤ 6) {r : Nat} (hr : r < 6) : XEx l m_X11_wishedIn 2 0 0 [.ref b, .int (nI r)] (setM z σ h) (some (.int (f_KwishedIn σ b r B g))) (setM z σ h) := by
  refine XMet.of hl rfl rfl (Nat.le_of_ble_eq_true rfl) (fun Y O hh hQ => ?_)
  show SW Y 0 0 (setM z σ h) 0 [.ref b, .int (nI r), xx_d, xx_d] []
  refine sw_iconst (x := 0) O (xx_dt dd_X11_wishedIn 0 rfl) (by decide) ?_
  refine sw_istore_n (ls2 := [.ref b, .int (nI r), .int 0, xx_d]) O (xx_dt dd_X11_wishedIn 1 rfl) (by decide) rfl ?_
  refine sw_iconst (x := 0) O (xx_dt dd_X11_wishedIn 2 rfl) (by decide) ?_
  refine sw_istore_n (ls2 := [.ref b, .int (nI r), .int 0, .int 0]) O (xx_dt dd_X11_wishedIn 3 rfl) (by decide) rfl ?_
  refine sw_for (S := Int32) (fun i4 s4 => s4 + (f_of (σ (b + 500 + g) i4) r)) (fun _ _ => True) (hp := fun _ => setM z σ h) (hd := 4) (lc := fun i4 s4 => [.ref b, .int (nI r), .int s4, .int (nI i4)]) (N := B) (fun i4 s4 hi4 hP4 => ⟨trivial, fun kk4 => ?_⟩) B 0 0 (by omega) (trivial) (fun hP4 => ?_)
  · refine sw_iload_n O (xx_dt dd_X11_wishedIn 4 rfl) rfl ?_
    refine sw_aload_n O (xx_dt dd_X11_wishedIn 5 rfl) rfl ?_
    refine sw_get (v := .ref 5000) O (xx_dt dd_X11_wishedIn 6 rfl) cl_X11 fl_X11_3 (lm_clk (σ := σ) (b := b) hb (fl1 hf) (g := g) hg (by omega) (w := w) hw (by omega)) (by decide) rfl ?_
    refine sw_get (v := .ref 5002) O (xx_dt dd_X11_wishedIn 7 rfl) cl_X14 fl_X11_69 (lm_mod (σ := σ)) (by decide) rfl ?_
    refine sw_callVL (ci := 6) (as := []) (st := [.int (nI i4)]) (st2 := [.int (nI B), .int (nI i4)]) O (ct_AL_size hl (lm_5002 (σ := σ) (B := B) hB (by omega))) ce_Jx4a65c_size_8abf5 ml_X11_19 iv_Jx4a65c_size_8abf5 cl_Jx4a65c rfl (lm_5002 (σ := σ) (B := B) hB (by omega)) (xx_dt dd_X11_wishedIn 8 rfl) (by decide) rfl rfl (Nat.le_of_ble_eq_true rfl) rfl ?_
    refine sw_icmp_ge (tgt := 37) O (xx_dt dd_X11_wishedIn 9 rfl) (by decide) (fun q1 => ?_) (fun q1 => ?_)
    · exact absurd q1 (nI_ge (b := B) hi4 (by omega))
    · refine sw_iload_n O (xx_dt dd_X11_wishedIn 10 rfl) rfl ?_
      refine sw_aload_n O (xx_dt dd_X11_wishedIn 11 rfl) rfl ?_
      refine sw_get (v := .ref (b + 500 + g)) O (xx_dt dd_X11_wishedIn 12 rfl) cl_X11 fl_X11_36 (lm_clk (σ := σ) (b := b) hb (fl1 hf) (g := g) hg (by omega) (w := w) hw (by omega)) (by decide) rfl ?_
      refine sw_iload_n O (xx_dt dd_X11_wishedIn 13 rfl) rfl ?_
      refine sw_iaload (v := .int (σ (b + 500 + g) i4)) O (xx_dt dd_X11_wishedIn 14 rfl) ((im_wsh (z := z) (σ := σ) (b := b) hb hf (g := g) hg (by omega) (j := g) (by omega)).get _) (pk_in i4 _ (by omega)) (by rw [nI_clamp (by omega)]; try exact rfl) ?_
      refine sw_iload_n O (xx_dt dd_X11_wishedIn 15 rfl) rfl ?_
      refine sw_callSx (as := [.int (σ (b + 500 + g) i4), .int (nI r)]) (st := [.int s4]) (st2 := [.int (f_of (σ (b + 500 + g) i4) r), .int s4]) O (ct_X14_of hl (c := σ (b + 500 + g) i4) (r := r) (by omega)) ce_X14_of ml_X11_76 st_X14_of (xx_dt dd_X11_wishedIn 16 rfl) (by decide) rfl rfl (Nat.le_of_ble_eq_true rfl) rfl ?_
      refine sw_iadd O (xx_dt dd_X11_wishedIn 17 rfl) ?_
      refine sw_istore_n (ls2 := [.ref b, .int (nI r), .int (s4 + (f_of (σ (b + 500 + g) i4) r)), .int (nI i4)]) O (xx_dt dd_X11_wishedIn 18 rfl) (by decide) rfl ?_
      refine sw_iinc (y := nI (i4 + 1)) (ls2 := [.ref b, .int (nI r), .int (s4 + (f_of (σ (b + 500 + g) i4) r)), .int (nI (i4 + 1))]) O (xx_dt dd_X11_wishedIn 19 rfl) rfl (nI_1 _) (by decide) rfl ?_
      refine sw_goto (tgt := 4) O (xx_dt dd_X11_wishedIn 20 rfl) (by decide) ?_
      exact kk4
  · show SW Y _ _ (setM z σ h) 4 [.ref b, .int (nI r), .int (x_KwishedIn_4 σ b r B g 0), .int (nI B)] []
    refine sw_iload_n O (xx_dt dd_X11_wishedIn 4 rfl) rfl ?_
    refine sw_aload_n O (xx_dt dd_X11_wishedIn 5 rfl) rfl ?_
    refine sw_get (v := .ref 5000) O (xx_dt dd_X11_wishedIn 6 rfl) cl_X11 fl_X11_3 (lm_clk (σ := σ) (b := b) hb (fl1 hf) (g := g) hg (by omega) (w := w) hw (by omega)) (by decide) rfl ?_
    refine sw_get (v := .ref 5002) O (xx_dt dd_X11_wishedIn 7 rfl) cl_X14 fl_X11_69 (lm_mod (σ := σ)) (by decide) rfl ?_
    refine sw_callVL (ci := 6) (as := []) (st := [.int (nI B)]) (st2 := [.int (nI B), .int (nI B)]) O (ct_AL_size hl (lm_5002 (σ := σ) (B := B) hB (by omega))) ce_Jx4a65c_size_8abf5 ml_X11_19 iv_Jx4a65c_size_8abf5 cl_Jx4a65c rfl (lm_5002 (σ := σ) (B := B) hB (by omega)) (xx_dt dd_X11_wishedIn 8 rfl) (by decide) rfl rfl (Nat.le_of_ble_eq_true rfl) rfl ?_
    refine sw_icmp_ge (tgt := 37) O (xx_dt dd_X11_wishedIn 9 rfl) (by decide) (fun q1 => ?_) (fun q1 => ?_)
    · refine sw_iload_n O (xx_dt dd_X11_wishedIn 21 rfl) rfl ?_
      exact sw_iret O (xx_dt dd_X11_wishedIn 22 rfl) rfl rfl (by rw [hQ]; exact ⟨by unfold f_KwishedIn; rfl, rfl⟩)
    · exact absurd (Int32.le_refl _) q1
def x_Kcontradicts_18 (σ : XS9) (b i R g n i2 : Nat) (s0 : Int32) : Int32 := xit (fun i18 s18 => s18 + (((σ (b + 1) i18) - (σ (b + 100 + i2) i18)) * ((f_of (σ (b + 500 + g) i) i18) - (f_of (σ (b + 200 + i2) i) i18)))) R 0 s0
def x_Kcontradicts_2 (σ : XS9) (b i R g n : Nat) (s0 : Unit) : Unit ⊕ Int32 := xitR (fun i2 s2 => (if (x_Kcontradicts_18 σ b i R g n i2 0) ≤ 0 then .inl () else .inr (nI (i2 + 1)))) n 0 s0
def f_Kcontradicts (σ : XS9) (b i R g n : Nat) : Int32 := (match (x_Kcontradicts_2 σ b i R g n ()) with | .inl s2 => (-1) | .inr r2 => r2)
theorem ct_X11_contradicts {l : Launch} {h : XH} (hl : l.stackTraces = false) {z : Int64} {σ : XS9} (hbs : xx_bs h) {b : Nat} (hb : b = 7000 ∨ b = 8000) (hf : σ b 20 = nI 1) {g : Nat} (hg : σ b 23 = nI g) (hg1 : g < 200) {w : Nat} (hw : σ b 24 = nI w) (hw1 : w < 200) {R : Nat} (hR : σ 5001 900 = nI R) (hR5 : R ≤ 5) {n : Nat} (hn : σ b 21 = nI n) (hn60 : n ≤ 60) (hn2 : σ b 22 = nI n) {i : Nat} (hi : i < 6) : XEx l m_X11_contradicts 3 0 0 [.ref b, .int (nI i)] (setM z σ h) (some (.int (f_Kcontradicts σ b i R g n))) (setM z σ h) := by
  refine XMet.of hl rfl rfl (Nat.le_of_ble_eq_true rfl) (fun Y O hh hQ => ?_)
  show SW Y 0 0 (setM z σ h) 0 [.ref b, .int (nI i), xx_d, xx_d, xx_d] []
  refine sw_iconst (x := 0) O (xx_dt dd_X11_contradicts 0 rfl) (by decide) ?_
  refine sw_istore_n (ls2 := [.ref b, .int (nI i), .int 0, xx_d, xx_d]) O (xx_dt dd_X11_contradicts 1 rfl) (by decide) rfl ?_
  refine sw_forR (S := Unit) (R := Int32) (fun i2 s2 => (if (x_Kcontradicts_18 σ b i R g n i2 0) ≤ 0 then .inl () else .inr (nI (i2 + 1)))) (fun _ _ => True) (FR := fun r9 => f_Kcontradicts σ b i R g n = r9) (hp := fun _ => setM z σ h) (hd := 2) (lc := fun i2 s2 => [.ref b, .int (nI i), .int (nI i2), xx_d, xx_d]) (N := n) (fun i2 s2 hi2 hP2 => ⟨fun _ _ => trivial, fun kk2 kr2 => ?_⟩) n 0 () (by omega) (trivial) (fun sN2 eN2 hP2 => ?_) (fun r2 eN2 => ?_)
  · refine sw_iload_n O (xx_dt dd_X11_contradicts 2 rfl) rfl ?_
    refine sw_aload_n O (xx_dt dd_X11_contradicts 3 rfl) rfl ?_
    refine sw_get (v := .ref (b + 6)) O (xx_dt dd_X11_contradicts 4 rfl) cl_X11 fl_X11_53 (lm_clk (σ := σ) (b := b) hb (fl1 hf) (g := g) hg (by omega) (w := w) hw (by omega)) (by decide) rfl ?_
    refine sw_callVL (ci := 6) (as := []) (st := [.int (nI i2)]) (st2 := [.int (nI n), .int (nI i2)]) O (ct_AL_size hl (lm_kop (σ := σ) (b := b) hb (fl1 hf) (n := n) hn (by omega))) ce_Jx4a65c_size_8abf5 ml_X11_19 iv_Jx4a65c_size_8abf5 cl_Jx4a65c rfl (lm_kop (σ := σ) (b := b) hb (fl1 hf) (n := n) hn (by omega)) (xx_dt dd_X11_contradicts 5 rfl) (by decide) rfl rfl (Nat.le_of_ble_eq_true rfl) rfl ?_
    refine sw_icmp_ge (tgt := 104) O (xx_dt dd_X11_contradicts 6 rfl) (by decide) (fun q1 => ?_) (fun q1 => ?_)
    · exact absurd q1 (nI_ge (b := n) hi2 (by omega))
    · refine sw_iconst (x := 0) O (xx_dt dd_X11_contradicts 7 rfl) (by decide) ?_
      refine sw_istore_n (ls2 := [.ref b, .int (nI i), .int (nI i2), .int 0, xx_d]) O (xx_dt dd_X11_contradicts 8 rfl) (by decide) rfl ?_
      refine sw_iconst (x := 0) O (xx_dt dd_X11_contradicts 9 rfl) (by decide) ?_
      refine sw_istore (ls2 := [.ref b, .int (nI i), .int (nI i2), .int 0, .int 0]) O (xx_dt dd_X11_contradicts 10 rfl) (by decide) rfl ?_
      refine sw_for (S := Int32) (fun i18 s18 => s18 + (((σ (b + 1) i18) - (σ (b + 100 + i2) i18)) * ((f_of (σ (b + 500 + g) i) i18) - (f_of (σ (b + 200 + i2) i) i18)))) (fun _ _ => True) (hp := fun _ => setM z σ h) (hd := 18) (lc := fun i18 s18 => [.ref b, .int (nI i), .int (nI i2), .int s18, .int (nI i18)]) (N := R) (fun i18 s18 hi18 hP18 => ⟨trivial, fun kk18 => ?_⟩) R 0 0 (by omega) (trivial) (fun hP18 => ?_)
      · refine sw_iload O (xx_dt dd_X11_contradicts 11 rfl) rfl ?_
        refine sw_aload_n O (xx_dt dd_X11_contradicts 12 rfl) rfl ?_
        refine sw_get (v := .ref (b + 1)) O (xx_dt dd_X11_contradicts 13 rfl) cl_X11 fl_X11_25 (lm_clk (σ := σ) (b := b) hb (fl1 hf) (g := g) hg (by omega) (w := w) hw (by omega)) (by decide) rfl ?_
        refine sw_alen O (xx_dt dd_X11_contradicts 14 rfl) (by omega) (by omega) ((im_kpr (z := z) (σ := σ) (b := b) hb hf (R := R) hR (by omega)).get _) ?_
        refine sw_icmp_ge (tgt := 90) O (xx_dt dd_X11_contradicts 15 rfl) (by decide) (fun q2 => ?_) (fun q2 => ?_)
        · exact absurd q2 (nI_ge (b := R) hi18 (by omega))
        · refine sw_iload_n O (xx_dt dd_X11_contradicts 16 rfl) rfl ?_
          refine sw_aload_n O (xx_dt dd_X11_contradicts 17 rfl) rfl ?_
          refine sw_get (v := .ref (b + 1)) O (xx_dt dd_X11_contradicts 18 rfl) cl_X11 fl_X11_25 (lm_clk (σ := σ) (b := b) hb (fl1 hf) (g := g) hg (by omega) (w := w) hw (by omega)) (by decide) rfl ?_
          refine sw_iload O (xx_dt dd_X11_contradicts 19 rfl) rfl ?_
          refine sw_iaload (v := .int (σ (b + 1) i18)) O (xx_dt dd_X11_contradicts 20 rfl) ((im_kpr (z := z) (σ := σ) (b := b) hb hf (R := R) hR (by omega)).get _) (pk_in i18 _ (by omega)) (by rw [nI_clamp (by omega)]; try exact rfl) ?_
          refine sw_aload_n O (xx_dt dd_X11_contradicts 21 rfl) rfl ?_
          refine sw_get (v := .ref (b + 6)) O (xx_dt dd_X11_contradicts 22 rfl) cl_X11 fl_X11_53 (lm_clk (σ := σ) (b := b) hb (fl1 hf) (g := g) hg (by omega) (w := w) hw (by omega)) (by decide) rfl ?_
          refine sw_iload_n O (xx_dt dd_X11_contradicts 23 rfl) rfl ?_
          refine sw_callVL (ci := 6) (as := [.int (nI i2)]) (st := [.int (σ (b + 1) i18), .int s18]) (st2 := [.ref (b + 100 + i2), .int (σ (b + 1) i18), .int s18]) O (ct_get hl hbs (lm_kop (σ := σ) (b := b) hb (fl1 hf) (n := n) hn (by omega)) (by omega) (i := i2) (x := b + 100 + i2) (by omega) (by omega) rfl) ce_Jx4a65c_get_915e3 ml_X11_59 iv_Jx4a65c_get_915e3 cl_Jx4a65c rfl (lm_kop (σ := σ) (b := b) hb (fl1 hf) (n := n) hn (by omega)) (xx_dt dd_X11_contradicts 24 rfl) (by decide) rfl rfl (Nat.le_of_ble_eq_true rfl) rfl ?_
          refine sw_castA (t := 100) O (xx_dt dd_X11_contradicts 25 rfl) (.inl rfl) ((im_opr (z := z) (σ := σ) (b := b) hb hf (R := R) hR (by omega) (n := n) hn (by omega) (j := i2) (by omega)).get _) cw_X11_80 ?_
          refine sw_iload O (xx_dt dd_X11_contradicts 26 rfl) rfl ?_
          refine sw_iaload (v := .int (σ (b + 100 + i2) i18)) O (xx_dt dd_X11_contradicts 27 rfl) ((im_opr (z := z) (σ := σ) (b := b) hb hf (R := R) hR (by omega) (n := n) hn (by omega) (j := i2) (by omega)).get _) (pk_in i18 _ (by omega)) (by rw [nI_clamp (by omega)]; try exact rfl) ?_
          refine sw_isub O (xx_dt dd_X11_contradicts 28 rfl) ?_
          refine sw_aload_n O (xx_dt dd_X11_contradicts 29 rfl) rfl ?_
          refine sw_get (v := .ref (b + 500 + g)) O (xx_dt dd_X11_contradicts 30 rfl) cl_X11 fl_X11_36 (lm_clk (σ := σ) (b := b) hb (fl1 hf) (g := g) hg (by omega) (w := w) hw (by omega)) (by decide) rfl ?_
          refine sw_iload_n O (xx_dt dd_X11_contradicts 31 rfl) rfl ?_
          refine sw_iaload (v := .int (σ (b + 500 + g) i)) O (xx_dt dd_X11_contradicts 32 rfl) ((im_wsh (z := z) (σ := σ) (b := b) hb hf (g := g) hg (by omega) (j := g) (by omega)).get _) (pk_in i _ (by omega)) (by rw [nI_clamp (by omega)]; try exact rfl) ?_
          refine sw_iload O (xx_dt dd_X11_contradicts 33 rfl) rfl ?_
          refine sw_callSx (as := [.int (σ (b + 500 + g) i), .int (nI i18)]) (st := [.int ((σ (b + 1) i18) - (σ (b + 100 + i2) i18)), .int s18]) (st2 := [.int (f_of (σ (b + 500 + g) i) i18), .int ((σ (b + 1) i18) - (σ (b + 100 + i2) i18)), .int s18]) O (ct_X14_of hl (c := σ (b + 500 + g) i) (r := i18) (by omega)) ce_X14_of ml_X11_76 st_X14_of (xx_dt dd_X11_contradicts 34 rfl) (by decide) rfl rfl (Nat.le_of_ble_eq_true rfl) rfl ?_
          refine sw_aload_n O (xx_dt dd_X11_contradicts 35 rfl) rfl ?_
          refine sw_get (v := .ref (b + 7)) O (xx_dt dd_X11_contradicts 36 rfl) cl_X11 fl_X11_56 (lm_clk (σ := σ) (b := b) hb (fl1 hf) (g := g) hg (by omega) (w := w) hw (by omega)) (by decide) rfl ?_
          refine sw_iload_n O (xx_dt dd_X11_contradicts 37 rfl) rfl ?_
          refine sw_callVL (ci := 6) (as := [.int (nI i2)]) (st := [.int (f_of (σ (b + 500 + g) i) i18), .int ((σ (b + 1) i18) - (σ (b + 100 + i2) i18)), .int s18]) (st2 := [.ref (b + 200 + i2), .int (f_of (σ (b + 500 + g) i) i18), .int ((σ (b + 1) i18) - (σ (b + 100 + i2) i18)), .int s18]) O (ct_get hl hbs (lm_koh (σ := σ) (b := b) hb (fl1 hf) (n := n) hn2 (by omega)) (by omega) (i := i2) (x := b + 200 + i2) (by omega) (by omega) rfl) ce_Jx4a65c_get_915e3 ml_X11_59 iv_Jx4a65c_get_915e3 cl_Jx4a65c rfl (lm_koh (σ := σ) (b := b) hb (fl1 hf) (n := n) hn2 (by omega)) (xx_dt dd_X11_contradicts 38 rfl) (by decide) rfl rfl (Nat.le_of_ble_eq_true rfl) rfl ?_
          refine sw_castA (t := 100) O (xx_dt dd_X11_contradicts 39 rfl) (.inl rfl) ((im_ohe (z := z) (σ := σ) (b := b) hb hf (n := n) hn2 (by omega) (j := i2) (by omega)).get _) cw_X11_80 ?_
          refine sw_iload_n O (xx_dt dd_X11_contradicts 40 rfl) rfl ?_
          refine sw_iaload (v := .int (σ (b + 200 + i2) i)) O (xx_dt dd_X11_contradicts 41 rfl) ((im_ohe (z := z) (σ := σ) (b := b) hb hf (n := n) hn2 (by omega) (j := i2) (by omega)).get _) (pk_in i _ (by omega)) (by rw [nI_clamp (by omega)]; try exact rfl) ?_
          refine sw_iload O (xx_dt dd_X11_contradicts 42 rfl) rfl ?_
          refine sw_callSx (as := [.int (σ (b + 200 + i2) i), .int (nI i18)]) (st := [.int (f_of (σ (b + 500 + g) i) i18), .int ((σ (b + 1) i18) - (σ (b + 100 + i2) i18)), .int s18]) (st2 := [.int (f_of (σ (b + 200 + i2) i) i18), .int (f_of (σ (b + 500 + g) i) i18), .int ((σ (b + 1) i18) - (σ (b + 100 + i2) i18)), .int s18]) O (ct_X14_of hl (c := σ (b + 200 + i2) i) (r := i18) (by omega)) ce_X14_of ml_X11_76 st_X14_of (xx_dt dd_X11_contradicts 43 rfl) (by decide) rfl rfl (Nat.le_of_ble_eq_true rfl) rfl ?_
          refine sw_isub O (xx_dt dd_X11_contradicts 44 rfl) ?_
          refine sw_imul O (xx_dt dd_X11_contradicts 45 rfl) ?_
          refine sw_iadd O (xx_dt dd_X11_contradicts 46 rfl) ?_
          refine sw_istore_n (ls2 := [.ref b, .int (nI i), .int (nI i2), .int (s18 + (((σ (b + 1) i18) - (σ (b + 100 + i2) i18)) * ((f_of (σ (b + 500 + g) i) i18) - (f_of (σ (b + 200 + i2) i) i18)))), .int (nI i18)]) O (xx_dt dd_X11_contradicts 47 rfl) (by decide) rfl ?_
          refine sw_iinc (y := nI (i18 + 1)) (ls2 := [.ref b, .int (nI i), .int (nI i2), .int (s18 + (((σ (b + 1) i18) - (σ (b + 100 + i2) i18)) * ((f_of (σ (b + 500 + g) i) i18) - (f_of (σ (b + 200 + i2) i) i18)))), .int (nI (i18 + 1))]) O (xx_dt dd_X11_contradicts 48 rfl) rfl (nI_1 _) (by decide) rfl ?_
          refine sw_goto (tgt := 18) O (xx_dt dd_X11_contradicts 49 rfl) (by decide) ?_
          exact kk18
      · show SW Y _ _ (setM z σ h) 18 [.ref b, .int (nI i), .int (nI i2), .int (x_Kcontradicts_18 σ b i R g n i2 0), .int (nI R)] []
        refine sw_iload O (xx_dt dd_X11_contradicts 11 rfl) rfl ?_
        refine sw_aload_n O (xx_dt dd_X11_contradicts 12 rfl) rfl ?_
        refine sw_get (v := .ref (b + 1)) O (xx_dt dd_X11_contradicts 13 rfl) cl_X11 fl_X11_25 (lm_clk (σ := σ) (b := b) hb (fl1 hf) (g := g) hg (by omega) (w := w) hw (by omega)) (by decide) rfl ?_
        refine sw_alen O (xx_dt dd_X11_contradicts 14 rfl) (by omega) (by omega) ((im_kpr (z := z) (σ := σ) (b := b) hb hf (R := R) hR (by omega)).get _) ?_
        refine sw_icmp_ge (tgt := 90) O (xx_dt dd_X11_contradicts 15 rfl) (by decide) (fun q2 => ?_) (fun q2 => ?_)
        · refine sw_iload_n O (xx_dt dd_X11_contradicts 50 rfl) rfl ?_
          refine sw_if_le (tgt := 98) O (xx_dt dd_X11_contradicts 51 rfl) (by decide) (fun q3 => ?_) (fun q3 => ?_)
          · refine sw_iinc (y := nI (i2 + 1)) (ls2 := [.ref b, .int (nI i), .int (nI (i2 + 1)), .int (x_Kcontradicts_18 σ b i R g n i2 0), .int (nI R)]) O (xx_dt dd_X11_contradicts 56 rfl) rfl (nI_1 _) (by decide) rfl ?_
            refine sw_goto (tgt := 2) O (xx_dt dd_X11_contradicts 57 rfl) (by decide) ?_
            refine sw_dum (ls2 := [.ref b, .int (nI i), .int (nI (i2 + 1)), xx_d, xx_d]) ⟨.inr rfl, .inr rfl, .inr rfl, .inl rfl, .inl rfl, trivial⟩ ?_
            exact kk2 () (by simp only [if_pos q3])
          · refine sw_iload_n O (xx_dt dd_X11_contradicts 52 rfl) rfl ?_
            refine sw_iconst (x := 1) O (xx_dt dd_X11_contradicts 53 rfl) (by decide) ?_
            refine sw_iadd O (xx_dt dd_X11_contradicts 54 rfl) ?_
            rw [nI_a1 i2]
            exact sw_iret O (xx_dt dd_X11_contradicts 55 rfl) rfl rfl (by rw [hQ, kr2 (nI (i2 + 1)) (by simp only [if_neg q3])]; exact ⟨rfl, rfl⟩)
        · exact absurd (Int32.le_refl _) q2
  · show SW Y _ _ (setM z σ h) 2 [.ref b, .int (nI i), .int (nI n), xx_d, xx_d] []
    refine sw_iload_n O (xx_dt dd_X11_contradicts 2 rfl) rfl ?_
    refine sw_aload_n O (xx_dt dd_X11_contradicts 3 rfl) rfl ?_
    refine sw_get (v := .ref (b + 6)) O (xx_dt dd_X11_contradicts 4 rfl) cl_X11 fl_X11_53 (lm_clk (σ := σ) (b := b) hb (fl1 hf) (g := g) hg (by omega) (w := w) hw (by omega)) (by decide) rfl ?_
    refine sw_callVL (ci := 6) (as := []) (st := [.int (nI n)]) (st2 := [.int (nI n), .int (nI n)]) O (ct_AL_size hl (lm_kop (σ := σ) (b := b) hb (fl1 hf) (n := n) hn (by omega))) ce_Jx4a65c_size_8abf5 ml_X11_19 iv_Jx4a65c_size_8abf5 cl_Jx4a65c rfl (lm_kop (σ := σ) (b := b) hb (fl1 hf) (n := n) hn (by omega)) (xx_dt dd_X11_contradicts 5 rfl) (by decide) rfl rfl (Nat.le_of_ble_eq_true rfl) rfl ?_
    refine sw_icmp_ge (tgt := 104) O (xx_dt dd_X11_contradicts 6 rfl) (by decide) (fun q1 => ?_) (fun q1 => ?_)
    · refine sw_iconst (x := (-1)) O (xx_dt dd_X11_contradicts 58 rfl) (by decide) ?_
      exact sw_iret O (xx_dt dd_X11_contradicts 59 rfl) rfl rfl (by rw [hQ]; exact ⟨by unfold f_Kcontradicts; simp only [x_Kcontradicts_2, eN2], rfl⟩)
    · exact absurd (Int32.le_refl _) q1
  · unfold f_Kcontradicts; simp only [x_Kcontradicts_2, eN2]
