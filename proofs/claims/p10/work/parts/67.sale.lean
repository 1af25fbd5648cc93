/-! ===== the reference: facts of the sale ===== -/
def f_Msale0 (σ : XS9) (R B K C : Nat) (pk : Nat → Nat) (g : Nat) (tn sp : Nat → Nat) : Int32 := σ 5000 1
theorem ct_Msale0 {l : Launch} {h : XH} (hl : l.stackTraces = false) {z : Int64} {σ : XS9} (hbs : xx_bs h) {R : Nat} (hR : σ 5001 900 = nI R) (hR5 : R ≤ 5) {B : Nat} (hB : σ 5002 900 = nI B) (hB6 : B ≤ 6) {K : Nat} (hK : σ 5003 900 = nI K) (hK60 : K ≤ 60) {C : Nat} (hS : σ 5004 900 = nI (2 * C)) (hC10 : C ≤ 10) {pk : Nat → Nat} (hpk : ∀ j, j < B → σ (5030 + j) 900 = nI (2 * pk j) ∧ pk j ≤ 6) (hfl : σ 7000 25 = nI 0 ∨ (σ 7000 25 = nI 1 ∧ σ 7000 20 = nI 1)) {g : Nat} (hg : σ 7000 23 = nI g) (hg1 : g < 200) {w : Nat} (hw : σ 7000 24 = nI w) (hw1 : w < 200) (hkp : σ 5000 1 = 3 → ∀ j, j < B → σ 5005 j = -1 ∨ ∃ n, n < pk j ∧ σ 5005 j = nI n) {tn : Nat → Nat} (htn : ∀ r, r < 5 → σ 5007 r = nI (tn r) ∧ tn r < 6) {sp : Nat → Nat} (hsp : ∀ r, r < R → σ (5010 + r) 0 = nI (sp r) ∧ sp r ≤ 5) (hc : σ 9000 20 = nI 1)  : XEx l m_X14_saleNow 9 0 0 [.ref 5000, .int 0, .ref 9000] (setM z σ h) (some (.int (f_Msale0 σ R B K C pk g tn sp))) (setM z σ h) := by
  refine XMet.of hl rfl rfl (Nat.le_of_ble_eq_true rfl) (fun Y O hh hQ => ?_)
  show SW Y 0 0 (setM z σ h) 0 [.ref 5000, .int 0, .ref 9000, xx_d, xx_d, xx_d] []
  refine sw_iconst (x := 0) O (xx_dt dd_X14_saleNow 0 rfl) (by decide) ?_
  refine sw_istore_n (ls2 := [.ref 5000, .int 0, .ref 9000, .int 0, xx_d, xx_d]) O (xx_dt dd_X14_saleNow 1 rfl) (by decide) rfl ?_
  refine sw_iload_n O (xx_dt dd_X14_saleNow 2 rfl) rfl ?_
  refine sw_tableIn (off := 77) (tgt := 80) O (xx_dt dd_X14_saleNow 3 rfl) (by decide) (by decide) rfl (by decide) ?_
  refine sw_aload_n O (xx_dt dd_X14_saleNow 4 rfl) rfl ?_
  refine sw_get (v := .int (σ 5000 1)) O (xx_dt dd_X14_saleNow 5 rfl) cl_X14 fl_X14_77 (lm_mod (σ := σ)) (by decide) rfl ?_
  exact sw_iret O (xx_dt dd_X14_saleNow 6 rfl) rfl rfl (by rw [hQ]; exact ⟨by unfold f_Msale0; rfl, rfl⟩)
def f_Msale1 (σ : XS9) (R B K C : Nat) (pk : Nat → Nat) (g : Nat) (tn sp : Nat → Nat) : Int32 := (if (σ 5000 1) = 0 then 0 else (if (σ 5000 1) = 1 then nI (K + 1) else nI K))
theorem ct_Msale1 {l : Launch} {h : XH} (hl : l.stackTraces = false) {z : Int64} {σ : XS9} (hbs : xx_bs h) {R : Nat} (hR : σ 5001 900 = nI R) (hR5 : R ≤ 5) {B : Nat} (hB : σ 5002 900 = nI B) (hB6 : B ≤ 6) {K : Nat} (hK : σ 5003 900 = nI K) (hK60 : K ≤ 60) {C : Nat} (hS : σ 5004 900 = nI (2 * C)) (hC10 : C ≤ 10) {pk : Nat → Nat} (hpk : ∀ j, j < B → σ (5030 + j) 900 = nI (2 * pk j) ∧ pk j ≤ 6) (hfl : σ 7000 25 = nI 0 ∨ (σ 7000 25 = nI 1 ∧ σ 7000 20 = nI 1)) {g : Nat} (hg : σ 7000 23 = nI g) (hg1 : g < 200) {w : Nat} (hw : σ 7000 24 = nI w) (hw1 : w < 200) (hkp : σ 5000 1 = 3 → ∀ j, j < B → σ 5005 j = -1 ∨ ∃ n, n < pk j ∧ σ 5005 j = nI n) {tn : Nat → Nat} (htn : ∀ r, r < 5 → σ 5007 r = nI (tn r) ∧ tn r < 6) {sp : Nat → Nat} (hsp : ∀ r, r < R → σ (5010 + r) 0 = nI (sp r) ∧ sp r ≤ 5) (hc : σ 9000 20 = nI 1)  : XEx l m_X14_saleNow 9 0 0 [.ref 5000, .int 1, .ref 9000] (setM z σ h) (some (.int (f_Msale1 σ R B K C pk g tn sp))) (setM z σ h) := by
  refine XMet.of hl rfl rfl (Nat.le_of_ble_eq_true rfl) (fun Y O hh hQ => ?_)
  show SW Y 0 0 (setM z σ h) 0 [.ref 5000, .int 1, .ref 9000, xx_d, xx_d, xx_d] []
  refine sw_iconst (x := 0) O (xx_dt dd_X14_saleNow 0 rfl) (by decide) ?_
  refine sw_istore_n (ls2 := [.ref 5000, .int 1, .ref 9000, .int 0, xx_d, xx_d]) O (xx_dt dd_X14_saleNow 1 rfl) (by decide) rfl ?_
  refine sw_iload_n O (xx_dt dd_X14_saleNow 2 rfl) rfl ?_
  refine sw_tableIn (off := 82) (tgt := 85) O (xx_dt dd_X14_saleNow 3 rfl) (by decide) (by decide) rfl (by decide) ?_
  refine sw_aload_n O (xx_dt dd_X14_saleNow 7 rfl) rfl ?_
  refine sw_get (v := .int (σ 5000 1)) O (xx_dt dd_X14_saleNow 8 rfl) cl_X14 fl_X14_77 (lm_mod (σ := σ)) (by decide) rfl ?_
  refine sw_if_ne (tgt := 96) O (xx_dt dd_X14_saleNow 9 rfl) (by decide) (fun q1 => ?_) (fun q1 => ?_)
  · refine sw_aload_n O (xx_dt dd_X14_saleNow 12 rfl) rfl ?_
    refine sw_get (v := .int (σ 5000 1)) O (xx_dt dd_X14_saleNow 13 rfl) cl_X14 fl_X14_77 (lm_mod (σ := σ)) (by decide) rfl ?_
    refine sw_iconst (x := 1) O (xx_dt dd_X14_saleNow 14 rfl) (by decide) ?_
    refine sw_icmp_ne (tgt := 116) O (xx_dt dd_X14_saleNow 15 rfl) (by decide) (fun q2 => ?_) (fun q2 => ?_)
    · refine sw_aload_n O (xx_dt dd_X14_saleNow 22 rfl) rfl ?_
      refine sw_get (v := .ref 5003) O (xx_dt dd_X14_saleNow 23 rfl) cl_X14 fl_X14_30 (lm_mod (σ := σ)) (by decide) rfl ?_
      refine sw_callVL (ci := 6) (as := []) (st := []) (st2 := [.int (nI K)]) O (ct_AL_size hl (lm_5003 (σ := σ) (K := K) hK (by omega))) ce_Jx4a65c_size_8abf5 ml_X14_57 iv_Jx4a65c_size_8abf5 cl_Jx4a65c rfl (lm_5003 (σ := σ) (K := K) hK (by omega)) (xx_dt dd_X14_saleNow 24 rfl) (by omega) rfl rfl (Nat.le_of_ble_eq_true rfl) rfl ?_
      exact sw_iret O (xx_dt dd_X14_saleNow 25 rfl) rfl rfl (by rw [hQ]; exact ⟨by unfold f_Msale1; simp only [if_neg q1, if_neg q2], rfl⟩)
    · refine sw_aload_n O (xx_dt dd_X14_saleNow 16 rfl) rfl ?_
      refine sw_get (v := .ref 5003) O (xx_dt dd_X14_saleNow 17 rfl) cl_X14 fl_X14_30 (lm_mod (σ := σ)) (by decide) rfl ?_
      refine sw_callVL (ci := 6) (as := []) (st := []) (st2 := [.int (nI K)]) O (ct_AL_size hl (lm_5003 (σ := σ) (K := K) hK (by omega))) ce_Jx4a65c_size_8abf5 ml_X14_57 iv_Jx4a65c_size_8abf5 cl_Jx4a65c rfl (lm_5003 (σ := σ) (K := K) hK (by omega)) (xx_dt dd_X14_saleNow 18 rfl) (by omega) rfl rfl (Nat.le_of_ble_eq_true rfl) rfl ?_
      refine sw_iconst (x := 1) O (xx_dt dd_X14_saleNow 19 rfl) (by decide) ?_
      refine sw_iadd O (xx_dt dd_X14_saleNow 20 rfl) ?_
      rw [nI_a1 K]
      refine sw_goto (tgt := 123) O (xx_dt dd_X14_saleNow 21 rfl) (by decide) ?_
      exact sw_iret O (xx_dt dd_X14_saleNow 25 rfl) rfl rfl (by rw [hQ]; exact ⟨by unfold f_Msale1; simp only [if_neg q1, if_pos q2], rfl⟩)
  · refine sw_iconst (x := 0) O (xx_dt dd_X14_saleNow 10 rfl) (by decide) ?_
    refine sw_goto (tgt := 123) O (xx_dt dd_X14_saleNow 11 rfl) (by decide) ?_
    exact sw_iret O (xx_dt dd_X14_saleNow 25 rfl) rfl rfl (by rw [hQ]; exact ⟨by unfold f_Msale1; simp only [if_pos q1], rfl⟩)
def f_Msale2 (σ : XS9) (R B K C : Nat) (pk : Nat → Nat) (g : Nat) (tn sp : Nat → Nat) : Int32 := nI R
theorem ct_Msale2 {l : Launch} {h : XH} (hl : l.stackTraces = false) {z : Int64} {σ : XS9} (hbs : xx_bs h) {R : Nat} (hR : σ 5001 900 = nI R) (hR5 : R ≤ 5) {B : Nat} (hB : σ 5002 900 = nI B) (hB6 : B ≤ 6) {K : Nat} (hK : σ 5003 900 = nI K) (hK60 : K ≤ 60) {C : Nat} (hS : σ 5004 900 = nI (2 * C)) (hC10 : C ≤ 10) {pk : Nat → Nat} (hpk : ∀ j, j < B → σ (5030 + j) 900 = nI (2 * pk j) ∧ pk j ≤ 6) (hfl : σ 7000 25 = nI 0 ∨ (σ 7000 25 = nI 1 ∧ σ 7000 20 = nI 1)) {g : Nat} (hg : σ 7000 23 = nI g) (hg1 : g < 200) {w : Nat} (hw : σ 7000 24 = nI w) (hw1 : w < 200) (hkp : σ 5000 1 = 3 → ∀ j, j < B → σ 5005 j = -1 ∨ ∃ n, n < pk j ∧ σ 5005 j = nI n) {tn : Nat → Nat} (htn : ∀ r, r < 5 → σ 5007 r = nI (tn r) ∧ tn r < 6) {sp : Nat → Nat} (hsp : ∀ r, r < R → σ (5010 + r) 0 = nI (sp r) ∧ sp r ≤ 5) (hc : σ 9000 20 = nI 1)  : XEx l m_X14_saleNow 9 0 0 [.ref 5000, .int 2, .ref 9000] (setM z σ h) (some (.int (f_Msale2 σ R B K C pk g tn sp))) (setM z σ h) := by
  refine XMet.of hl rfl rfl (Nat.le_of_ble_eq_true rfl) (fun Y O hh hQ => ?_)
  show SW Y 0 0 (setM z σ h) 0 [.ref 5000, .int 2, .ref 9000, xx_d, xx_d, xx_d] []
  refine sw_iconst (x := 0) O (xx_dt dd_X14_saleNow 0 rfl) (by decide) ?_
  refine sw_istore_n (ls2 := [.ref 5000, .int 2, .ref 9000, .int 0, xx_d, xx_d]) O (xx_dt dd_X14_saleNow 1 rfl) (by decide) rfl ?_
  refine sw_iload_n O (xx_dt dd_X14_saleNow 2 rfl) rfl ?_
  refine sw_tableIn (off := 121) (tgt := 124) O (xx_dt dd_X14_saleNow 3 rfl) (by decide) (by decide) rfl (by decide) ?_
  refine sw_aload_n O (xx_dt dd_X14_saleNow 26 rfl) rfl ?_
  refine sw_get (v := .ref 5001) O (xx_dt dd_X14_saleNow 27 rfl) cl_X14 fl_X14_23 (lm_mod (σ := σ)) (by decide) rfl ?_
  refine sw_callVL (ci := 6) (as := []) (st := []) (st2 := [.int (nI R)]) O (ct_AL_size hl (lm_5001 (σ := σ) (R := R) hR (by omega))) ce_Jx4a65c_size_8abf5 ml_X14_57 iv_Jx4a65c_size_8abf5 cl_Jx4a65c rfl (lm_5001 (σ := σ) (R := R) hR (by omega)) (xx_dt dd_X14_saleNow 28 rfl) (by omega) rfl rfl (Nat.le_of_ble_eq_true rfl) rfl ?_
  exact sw_iret O (xx_dt dd_X14_saleNow 29 rfl) rfl rfl (by rw [hQ]; exact ⟨by unfold f_Msale2; rfl, rfl⟩)
def f_Msale3 (σ : XS9) (R B K C : Nat) (pk : Nat → Nat) (g : Nat) (tn sp : Nat → Nat) : Int32 := nI B
theorem ct_Msale3 {l : Launch} {h : XH} (hl : l.stackTraces = false) {z : Int64} {σ : XS9} (hbs : xx_bs h) {R : Nat} (hR : σ 5001 900 = nI R) (hR5 : R ≤ 5) {B : Nat} (hB : σ 5002 900 = nI B) (hB6 : B ≤ 6) {K : Nat} (hK : σ 5003 900 = nI K) (hK60 : K ≤ 60) {C : Nat} (hS : σ 5004 900 = nI (2 * C)) (hC10 : C ≤ 10) {pk : Nat → Nat} (hpk : ∀ j, j < B → σ (5030 + j) 900 = nI (2 * pk j) ∧ pk j ≤ 6) (hfl : σ 7000 25 = nI 0 ∨ (σ 7000 25 = nI 1 ∧ σ 7000 20 = nI 1)) {g : Nat} (hg : σ 7000 23 = nI g) (hg1 : g < 200) {w : Nat} (hw : σ 7000 24 = nI w) (hw1 : w < 200) (hkp : σ 5000 1 = 3 → ∀ j, j < B → σ 5005 j = -1 ∨ ∃ n, n < pk j ∧ σ 5005 j = nI n) {tn : Nat → Nat} (htn : ∀ r, r < 5 → σ 5007 r = nI (tn r) ∧ tn r < 6) {sp : Nat → Nat} (hsp : ∀ r, r < R → σ (5010 + r) 0 = nI (sp r) ∧ sp r ≤ 5) (hc : σ 9000 20 = nI 1)  : XEx l m_X14_saleNow 9 0 0 [.ref 5000, .int 3, .ref 9000] (setM z σ h) (some (.int (f_Msale3 σ R B K C pk g tn sp))) (setM z σ h) := by
  refine XMet.of hl rfl rfl (Nat.le_of_ble_eq_true rfl) (fun Y O hh hQ => ?_)
  show SW Y 0 0 (setM z σ h) 0 [.ref 5000, .int 3, .ref 9000, xx_d, xx_d, xx_d] []
  refine sw_iconst (x := 0) O (xx_dt dd_X14_saleNow 0 rfl) (by decide) ?_
  refine sw_istore_n (ls2 := [.ref 5000, .int 3, .ref 9000, .int 0, xx_d, xx_d]) O (xx_dt dd_X14_saleNow 1 rfl) (by decide) rfl ?_
  refine sw_iload_n O (xx_dt dd_X14_saleNow 2 rfl) rfl ?_
  refine sw_tableIn (off := 129) (tgt := 132) O (xx_dt dd_X14_saleNow 3 rfl) (by decide) (by decide) rfl (by decide) ?_
  refine sw_aload_n O (xx_dt dd_X14_saleNow 30 rfl) rfl ?_
  refine sw_get (v := .ref 5002) O (xx_dt dd_X14_saleNow 31 rfl) cl_X14 fl_X14_27 (lm_mod (σ := σ)) (by decide) rfl ?_
  refine sw_callVL (ci := 6) (as := []) (st := []) (st2 := [.int (nI B)]) O (ct_AL_size hl (lm_5002 (σ := σ) (B := B) hB (by omega))) ce_Jx4a65c_size_8abf5 ml_X14_57 iv_Jx4a65c_size_8abf5 cl_Jx4a65c rfl (lm_5002 (σ := σ) (B := B) hB (by omega)) (xx_dt dd_X14_saleNow 32 rfl) (by omega) rfl rfl (Nat.le_of_ble_eq_true rfl) rfl ?_
  exact sw_iret O (xx_dt dd_X14_saleNow 33 rfl) rfl rfl (by rw [hQ]; exact ⟨by unfold f_Msale3; rfl, rfl⟩)
def f_Msale4 (σ : XS9) (R B K C : Nat) (pk : Nat → Nat) (g : Nat) (tn sp : Nat → Nat) : Int32 := nI C
theorem ct_Msale4 {l : Launch} {h : XH} (hl : l.stackTraces = false) {z : Int64} {σ : XS9} (hbs : xx_bs h) {R : Nat} (hR : σ 5001 900 = nI R) (hR5 : R ≤ 5) {B : Nat} (hB : σ 5002 900 = nI B) (hB6 : B ≤ 6) {K : Nat} (hK : σ 5003 900 = nI K) (hK60 : K ≤ 60) {C : Nat} (hS : σ 5004 900 = nI (2 * C)) (hC10 : C ≤ 10) {pk : Nat → Nat} (hpk : ∀ j, j < B → σ (5030 + j) 900 = nI (2 * pk j) ∧ pk j ≤ 6) (hfl : σ 7000 25 = nI 0 ∨ (σ 7000 25 = nI 1 ∧ σ 7000 20 = nI 1)) {g : Nat} (hg : σ 7000 23 = nI g) (hg1 : g < 200) {w : Nat} (hw : σ 7000 24 = nI w) (hw1 : w < 200) (hkp : σ 5000 1 = 3 → ∀ j, j < B → σ 5005 j = -1 ∨ ∃ n, n < pk j ∧ σ 5005 j = nI n) {tn : Nat → Nat} (htn : ∀ r, r < 5 → σ 5007 r = nI (tn r) ∧ tn r < 6) {sp : Nat → Nat} (hsp : ∀ r, r < R → σ (5010 + r) 0 = nI (sp r) ∧ sp r ≤ 5) (hc : σ 9000 20 = nI 1)  : XEx l m_X14_saleNow 9 0 0 [.ref 5000, .int 4, .ref 9000] (setM z σ h) (some (.int (f_Msale4 σ R B K C pk g tn sp))) (setM z σ h) := by
  refine XMet.of hl rfl rfl (Nat.le_of_ble_eq_true rfl) (fun Y O hh hQ => ?_)
  show SW Y 0 0 (setM z σ h) 0 [.ref 5000, .int 4, .ref 9000, xx_d, xx_d, xx_d] []
  refine sw_iconst (x := 0) O (xx_dt dd_X14_saleNow 0 rfl) (by decide) ?_
  refine sw_istore_n (ls2 := [.ref 5000, .int 4, .ref 9000, .int 0, xx_d, xx_d]) O (xx_dt dd_X14_saleNow 1 rfl) (by decide) rfl ?_
  refine sw_iload_n O (xx_dt dd_X14_saleNow 2 rfl) rfl ?_
  refine sw_tableIn (off := 137) (tgt := 140) O (xx_dt dd_X14_saleNow 3 rfl) (by decide) (by decide) rfl (by decide) ?_
  refine sw_aload_n O (xx_dt dd_X14_saleNow 34 rfl) rfl ?_
  refine sw_get (v := .ref 5004) O (xx_dt dd_X14_saleNow 35 rfl) cl_X14 fl_X14_33 (lm_mod (σ := σ)) (by decide) rfl ?_
  refine sw_callVL (ci := 6) (as := []) (st := []) (st2 := [.int (nI (2 * C))]) O (ct_AL_size hl (lm_5004 (σ := σ) (S := 2 * C) hS (by omega))) ce_Jx4a65c_size_8abf5 ml_X14_57 iv_Jx4a65c_size_8abf5 cl_Jx4a65c rfl (lm_5004 (σ := σ) (S := 2 * C) hS (by omega)) (xx_dt dd_X14_saleNow 36 rfl) (by omega) rfl rfl (Nat.le_of_ble_eq_true rfl) rfl ?_
  refine sw_iconst (x := 2) O (xx_dt dd_X14_saleNow 37 rfl) (by decide) ?_
  refine sw_idiv O (xx_dt dd_X14_saleNow 38 rfl) (by first | decide | assumption) ?_
  have hx148 := trivial
  rw [nI_half (by omega)]
  exact sw_iret O (xx_dt dd_X14_saleNow 39 rfl) rfl rfl (by rw [hQ]; exact ⟨by unfold f_Msale4; rfl, rfl⟩)
def f_Msale5 (σ : XS9) (R B K C : Nat) (pk : Nat → Nat) (g : Nat) (tn sp : Nat → Nat) : Int32 := σ 5000 2
theorem ct_Msale5 {l : Launch} {h : XH} (hl : l.stackTraces = false) {z : Int64} {σ : XS9} (hbs : xx_bs h) {R : Nat} (hR : σ 5001 900 = nI R) (hR5 : R ≤ 5) {B : Nat} (hB : σ 5002 900 = nI B) (hB6 : B ≤ 6) {K : Nat} (hK : σ 5003 900 = nI K) (hK60 : K ≤ 60) {C : Nat} (hS : σ 5004 900 = nI (2 * C)) (hC10 : C ≤ 10) {pk : Nat → Nat} (hpk : ∀ j, j < B → σ (5030 + j) 900 = nI (2 * pk j) ∧ pk j ≤ 6) (hfl : σ 7000 25 = nI 0 ∨ (σ 7000 25 = nI 1 ∧ σ 7000 20 = nI 1)) {g : Nat} (hg : σ 7000 23 = nI g) (hg1 : g < 200) {w : Nat} (hw : σ 7000 24 = nI w) (hw1 : w < 200) (hkp : σ 5000 1 = 3 → ∀ j, j < B → σ 5005 j = -1 ∨ ∃ n, n < pk j ∧ σ 5005 j = nI n) {tn : Nat → Nat} (htn : ∀ r, r < 5 → σ 5007 r = nI (tn r) ∧ tn r < 6) {sp : Nat → Nat} (hsp : ∀ r, r < R → σ (5010 + r) 0 = nI (sp r) ∧ sp r ≤ 5) (hc : σ 9000 20 = nI 1)  : XEx l m_X14_saleNow 9 0 0 [.ref 5000, .int 5, .ref 9000] (setM z σ h) (some (.int (f_Msale5 σ R B K C pk g tn sp))) (setM z σ h) := by
  refine XMet.of hl rfl rfl (Nat.le_of_ble_eq_true rfl) (fun Y O hh hQ => ?_)
  show SW Y 0 0 (setM z σ h) 0 [.ref 5000, .int 5, .ref 9000, xx_d, xx_d, xx_d] []
  refine sw_iconst (x := 0) O (xx_dt dd_X14_saleNow 0 rfl) (by decide) ?_
  refine sw_istore_n (ls2 := [.ref 5000, .int 5, .ref 9000, .int 0, xx_d, xx_d]) O (xx_dt dd_X14_saleNow 1 rfl) (by decide) rfl ?_
  refine sw_iload_n O (xx_dt dd_X14_saleNow 2 rfl) rfl ?_
  refine sw_tableIn (off := 147) (tgt := 150) O (xx_dt dd_X14_saleNow 3 rfl) (by decide) (by decide) rfl (by decide) ?_
  refine sw_aload_n O (xx_dt dd_X14_saleNow 40 rfl) rfl ?_
  refine sw_get (v := .int (σ 5000 2)) O (xx_dt dd_X14_saleNow 41 rfl) cl_X14 fl_X14_7 (lm_mod (σ := σ)) (by decide) rfl ?_
  exact sw_iret O (xx_dt dd_X14_saleNow 42 rfl) rfl rfl (by rw [hQ]; exact ⟨by unfold f_Msale5; rfl, rfl⟩)
def f_Msale6 (σ : XS9) (R B K C : Nat) (pk : Nat → Nat) (g : Nat) (tn sp : Nat → Nat) : Int32 := (if (σ 5000 3) = 0 then 0 else 1)
theorem ct_Msale6 {l : Launch} {h : XH} (hl : l.stackTraces = false) {z : Int64} {σ : XS9} (hbs : xx_bs h) {R : Nat} (hR : σ 5001 900 = nI R) (hR5 : R ≤ 5) {B : Nat} (hB : σ 5002 900 = nI B) (hB6 : B ≤ 6) {K : Nat} (hK : σ 5003 900 = nI K) (hK60 : K ≤ 60) {C : Nat} (hS : σ 5004 900 = nI (2 * C)) (hC10 : C ≤ 10) {pk : Nat → Nat} (hpk : ∀ j, j < B → σ (5030 + j) 900 = nI (2 * pk j) ∧ pk j ≤ 6) (hfl : σ 7000 25 = nI 0 ∨ (σ 7000 25 = nI 1 ∧ σ 7000 20 = nI 1)) {g : Nat} (hg : σ 7000 23 = nI g) (hg1 : g < 200) {w : Nat} (hw : σ 7000 24 = nI w) (hw1 : w < 200) (hkp : σ 5000 1 = 3 → ∀ j, j < B → σ 5005 j = -1 ∨ ∃ n, n < pk j ∧ σ 5005 j = nI n) {tn : Nat → Nat} (htn : ∀ r, r < 5 → σ 5007 r = nI (tn r) ∧ tn r < 6) {sp : Nat → Nat} (hsp : ∀ r, r < R → σ (5010 + r) 0 = nI (sp r) ∧ sp r ≤ 5) (hc : σ 9000 20 = nI 1)  : XEx l m_X14_saleNow 9 0 0 [.ref 5000, .int 6, .ref 9000] (setM z σ h) (some (.int (f_Msale6 σ R B K C pk g tn sp))) (setM z σ h) := by
  refine XMet.of hl rfl rfl (Nat.le_of_ble_eq_true rfl) (fun Y O hh hQ => ?_)
  show SW Y 0 0 (setM z σ h) 0 [.ref 5000, .int 6, .ref 9000, xx_d, xx_d, xx_d] []
  refine sw_iconst (x := 0) O (xx_dt dd_X14_saleNow 0 rfl) (by decide) ?_
  refine sw_istore_n (ls2 := [.ref 5000, .int 6, .ref 9000, .int 0, xx_d, xx_d]) O (xx_dt dd_X14_saleNow 1 rfl) (by decide) rfl ?_
  refine sw_iload_n O (xx_dt dd_X14_saleNow 2 rfl) rfl ?_
  refine sw_tableIn (off := 152) (tgt := 155) O (xx_dt dd_X14_saleNow 3 rfl) (by decide) (by decide) rfl (by decide) ?_
  refine sw_aload_n O (xx_dt dd_X14_saleNow 43 rfl) rfl ?_
  refine sw_get (v := .int (σ 5000 3)) O (xx_dt dd_X14_saleNow 44 rfl) cl_X14 fl_X14_13 (lm_mod (σ := σ)) (by decide) rfl ?_
  refine sw_if_eq (tgt := 166) O (xx_dt dd_X14_saleNow 45 rfl) (by decide) (fun q1 => ?_) (fun q1 => ?_)
  · refine sw_iconst (x := 0) O (xx_dt dd_X14_saleNow 48 rfl) (by decide) ?_
    exact sw_iret O (xx_dt dd_X14_saleNow 49 rfl) rfl rfl (by rw [hQ]; exact ⟨by unfold f_Msale6; simp only [if_pos q1], rfl⟩)
  · refine sw_iconst (x := 1) O (xx_dt dd_X14_saleNow 46 rfl) (by decide) ?_
    refine sw_goto (tgt := 167) O (xx_dt dd_X14_saleNow 47 rfl) (by decide) ?_
    exact sw_iret O (xx_dt dd_X14_saleNow 49 rfl) rfl rfl (by rw [hQ]; exact ⟨by unfold f_Msale6; simp only [if_neg q1], rfl⟩)
def f_Msale7 (σ : XS9) (R B K C : Nat) (pk : Nat → Nat) (g : Nat) (tn sp : Nat → Nat) : Int32 := σ 5000 4
theorem ct_Msale7 {l : Launch} {h : XH} (hl : l.stackTraces = false) {z : Int64} {σ : XS9} (hbs : xx_bs h) {R : Nat} (hR : σ 5001 900 = nI R) (hR5 : R ≤ 5) {B : Nat} (hB : σ 5002 900 = nI B) (hB6 : B ≤ 6) {K : Nat} (hK : σ 5003 900 = nI K) (hK60 : K ≤ 60) {C : Nat} (hS : σ 5004 900 = nI (2 * C)) (hC10 : C ≤ 10) {pk : Nat → Nat} (hpk : ∀ j, j < B → σ (5030 + j) 900 = nI (2 * pk j) ∧ pk j ≤ 6) (hfl : σ 7000 25 = nI 0 ∨ (σ 7000 25 = nI 1 ∧ σ 7000 20 = nI 1)) {g : Nat} (hg : σ 7000 23 = nI g) (hg1 : g < 200) {w : Nat} (hw : σ 7000 24 = nI w) (hw1 : w < 200) (hkp : σ 5000 1 = 3 → ∀ j, j < B → σ 5005 j = -1 ∨ ∃ n, n < pk j ∧ σ 5005 j = nI n) {tn : Nat → Nat} (htn : ∀ r, r < 5 → σ 5007 r = nI (tn r) ∧ tn r < 6) {sp : Nat → Nat} (hsp : ∀ r, r < R → σ (5010 + r) 0 = nI (sp r) ∧ sp r ≤ 5) (hc : σ 9000 20 = nI 1)  : XEx l m_X14_saleNow 9 0 0 [.ref 5000, .int 7, .ref 9000] (setM z σ h) (some (.int (f_Msale7 σ R B K C pk g tn sp))) (setM z σ h) := by
  refine XMet.of hl rfl rfl (Nat.le_of_ble_eq_true rfl) (fun Y O hh hQ => ?_)
  show SW Y 0 0 (setM z σ h) 0 [.ref 5000, .int 7, .ref 9000, xx_d, xx_d, xx_d] []
  refine sw_iconst (x := 0) O (xx_dt dd_X14_saleNow 0 rfl) (by decide) ?_
  refine sw_istore_n (ls2 := [.ref 5000, .int 7, .ref 9000, .int 0, xx_d, xx_d]) O (xx_dt dd_X14_saleNow 1 rfl) (by decide) rfl ?_
  refine sw_iload_n O (xx_dt dd_X14_saleNow 2 rfl) rfl ?_
  refine sw_tableIn (off := 165) (tgt := 168) O (xx_dt dd_X14_saleNow 3 rfl) (by decide) (by decide) rfl (by decide) ?_
  refine sw_aload_n O (xx_dt dd_X14_saleNow 50 rfl) rfl ?_
  refine sw_get (v := .int (σ 5000 4)) O (xx_dt dd_X14_saleNow 51 rfl) cl_X14 fl_X14_17 (lm_mod (σ := σ)) (by decide) rfl ?_
  exact sw_iret O (xx_dt dd_X14_saleNow 52 rfl) rfl rfl (by rw [hQ]; exact ⟨by unfold f_Msale7; rfl, rfl⟩)
def x_Msale8_176 (σ : XS9) (R B K C : Nat) (pk : Nat → Nat) (g : Nat) (tn sp : Nat → Nat) (s0 : Int32) : Int32 := xit (fun i176 s176 => s176 + (f_MofBidderNow σ i176 R B pk g 10)) B 0 s0
def f_Msale8 (σ : XS9) (R B K C : Nat) (pk : Nat → Nat) (g : Nat) (tn sp : Nat → Nat) : Int32 := (x_Msale8_176 σ R B K C pk g tn sp 0)
theorem ct_Msale8 {l : Launch} {h : XH} (hl : l.stackTraces = false) {z : Int64} {σ : XS9} (hbs : xx_bs h) {R : Nat} (hR : σ 5001 900 = nI R) (hR5 : R ≤ 5) {B : Nat} (hB : σ 5002 900 = nI B) (hB6 : B ≤ 6) {K : Nat} (hK : σ 5003 900 = nI K) (hK60 : K ≤ 60) {C : Nat} (hS : σ 5004 900 = nI (2 * C)) (hC10 : C ≤ 10) {pk : Nat → Nat} (hpk : ∀ j, j < B → σ (5030 + j) 900 = nI (2 * pk j) ∧ pk j ≤ 6) (hfl : σ 7000 25 = nI 0 ∨ (σ 7000 25 = nI 1 ∧ σ 7000 20 = nI 1)) {g : Nat} (hg : σ 7000 23 = nI g) (hg1 : g < 200) {w : Nat} (hw : σ 7000 24 = nI w) (hw1 : w < 200) (hkp : σ 5000 1 = 3 → ∀ j, j < B → σ 5005 j = -1 ∨ ∃ n, n < pk j ∧ σ 5005 j = nI n) {tn : Nat → Nat} (htn : ∀ r, r < 5 → σ 5007 r = nI (tn r) ∧ tn r < 6) {sp : Nat → Nat} (hsp : ∀ r, r < R → σ (5010 + r) 0 = nI (sp r) ∧ sp r ≤ 5) (hc : σ 9000 20 = nI 1)  : XEx l m_X14_saleNow 9 0 0 [.ref 5000, .int 8, .ref 9000] (setM z σ h) (some (.int (f_Msale8 σ R B K C pk g tn sp))) (setM z σ h) := by
  refine XMet.of hl rfl rfl (Nat.le_of_ble_eq_true rfl) (fun Y O hh hQ => ?_)
  show SW Y 0 0 (setM z σ h) 0 [.ref 5000, .int 8, .ref 9000, xx_d, xx_d, xx_d] []
  refine sw_iconst (x := 0) O (xx_dt dd_X14_saleNow 0 rfl) (by decide) ?_
  refine sw_istore_n (ls2 := [.ref 5000, .int 8, .ref 9000, .int 0, xx_d, xx_d]) O (xx_dt dd_X14_saleNow 1 rfl) (by decide) rfl ?_
  refine sw_iload_n O (xx_dt dd_X14_saleNow 2 rfl) rfl ?_
  refine sw_tableIn (off := 170) (tgt := 173) O (xx_dt dd_X14_saleNow 3 rfl) (by decide) (by decide) rfl (by decide) ?_
  refine sw_iconst (x := 0) O (xx_dt dd_X14_saleNow 53 rfl) (by decide) ?_
  refine sw_istore (ls2 := [.ref 5000, .int 8, .ref 9000, .int 0, .int 0, xx_d]) O (xx_dt dd_X14_saleNow 54 rfl) (by decide) rfl ?_
  refine sw_for (S := Int32) (fun i176 s176 => s176 + (f_MofBidderNow σ i176 R B pk g 10)) (fun _ _ => True) (hp := fun _ => setM z σ h) (hd := 176) (lc := fun i176 s176 => [.ref 5000, .int 8, .ref 9000, .int s176, .int (nI i176), xx_d]) (N := B) (fun i176 s176 hi176 hP176 => ⟨trivial, fun kk176 => ?_⟩) B 0 0 (by omega) (trivial) (fun hP176 => ?_)
  · refine sw_iload O (xx_dt dd_X14_saleNow 55 rfl) rfl ?_
    refine sw_aload_n O (xx_dt dd_X14_saleNow 56 rfl) rfl ?_
    refine sw_get (v := .ref 5002) O (xx_dt dd_X14_saleNow 57 rfl) cl_X14 fl_X14_27 (lm_mod (σ := σ)) (by decide) rfl ?_
    refine sw_callVL (ci := 6) (as := []) (st := [.int (nI i176)]) (st2 := [.int (nI B), .int (nI i176)]) O (ct_AL_size hl (lm_5002 (σ := σ) (B := B) hB (by omega))) ce_Jx4a65c_size_8abf5 ml_X14_57 iv_Jx4a65c_size_8abf5 cl_Jx4a65c rfl (lm_5002 (σ := σ) (B := B) hB (by omega)) (xx_dt dd_X14_saleNow 58 rfl) (by omega) rfl rfl (Nat.le_of_ble_eq_true rfl) rfl ?_
    refine sw_icmp_ge (tgt := 205) O (xx_dt dd_X14_saleNow 59 rfl) (by decide) (fun q1 => ?_) (fun q1 => ?_)
    · exact absurd q1 (nI_ge (b := B) hi176 (by omega))
    · refine sw_iload_n O (xx_dt dd_X14_saleNow 60 rfl) rfl ?_
      refine sw_aload_n O (xx_dt dd_X14_saleNow 61 rfl) rfl ?_
      refine sw_iload O (xx_dt dd_X14_saleNow 62 rfl) rfl ?_
      refine sw_bipush (x := 10) O (xx_dt dd_X14_saleNow 63 rfl) (by decide) ?_
      refine sw_callVx (as := [.int (nI i176), .int 10]) (st := [.int s176]) (st2 := [.int (f_MofBidderNow σ i176 R B pk g 10), .int s176]) O (ct_X14_ofBidderNow hl (z := z) (σ := σ) hbs (R := R) hR (by omega) (B := B) hB (by omega) (pk := pk) hpk (i := i176) (by omega) hfl (g := g) hg (by omega) (w := w) hw (by omega) (v := 10) (by omega)) ce_X14_ofBidderNow ml_X14_311 iv_X14_ofBidderNow cl_X14 rfl (lm_mod (σ := σ)) (xx_dt dd_X14_saleNow 64 rfl) (by omega) rfl rfl (Nat.le_of_ble_eq_true rfl) rfl ?_
      refine sw_iadd O (xx_dt dd_X14_saleNow 65 rfl) ?_
      refine sw_istore_n (ls2 := [.ref 5000, .int 8, .ref 9000, .int (s176 + (f_MofBidderNow σ i176 R B pk g 10)), .int (nI i176), xx_d]) O (xx_dt dd_X14_saleNow 66 rfl) (by decide) rfl ?_
      refine sw_iinc (y := nI (i176 + 1)) (ls2 := [.ref 5000, .int 8, .ref 9000, .int (s176 + (f_MofBidderNow σ i176 R B pk g 10)), .int (nI (i176 + 1)), xx_d]) O (xx_dt dd_X14_saleNow 67 rfl) rfl (nI_1 _) (by decide) rfl ?_
      refine sw_goto (tgt := 176) O (xx_dt dd_X14_saleNow 68 rfl) (by decide) ?_
      exact kk176
  · show SW Y _ _ (setM z σ h) 176 [.ref 5000, .int 8, .ref 9000, .int (x_Msale8_176 σ R B K C pk g tn sp 0), .int (nI B), xx_d] []
    refine sw_iload O (xx_dt dd_X14_saleNow 55 rfl) rfl ?_
    refine sw_aload_n O (xx_dt dd_X14_saleNow 56 rfl) rfl ?_
    refine sw_get (v := .ref 5002) O (xx_dt dd_X14_saleNow 57 rfl) cl_X14 fl_X14_27 (lm_mod (σ := σ)) (by decide) rfl ?_
    refine sw_callVL (ci := 6) (as := []) (st := [.int (nI B)]) (st2 := [.int (nI B), .int (nI B)]) O (ct_AL_size hl (lm_5002 (σ := σ) (B := B) hB (by omega))) ce_Jx4a65c_size_8abf5 ml_X14_57 iv_Jx4a65c_size_8abf5 cl_Jx4a65c rfl (lm_5002 (σ := σ) (B := B) hB (by omega)) (xx_dt dd_X14_saleNow 58 rfl) (by omega) rfl rfl (Nat.le_of_ble_eq_true rfl) rfl ?_
    refine sw_icmp_ge (tgt := 205) O (xx_dt dd_X14_saleNow 59 rfl) (by decide) (fun q1 => ?_) (fun q1 => ?_)
    · refine sw_iload_n O (xx_dt dd_X14_saleNow 69 rfl) rfl ?_
      exact sw_iret O (xx_dt dd_X14_saleNow 70 rfl) rfl rfl (by rw [hQ]; exact ⟨by unfold f_Msale8; rfl, rfl⟩)
    · exact absurd (Int32.le_refl _) q1
def f_Msale9 (σ : XS9) (R B K C : Nat) (pk : Nat → Nat) (g : Nat) (tn sp : Nat → Nat) : Int32 := (if (σ 5000 1) = 3 then f_MwinnersKept σ B else f_bitCount (f_Cwinners σ))
theorem ct_Msale9 {l : Launch} {h : XH} (hl : l.stackTraces = false) {z : Int64} {σ : XS9} (hbs : xx_bs h) {R : Nat} (hR : σ 5001 900 = nI R) (hR5 : R ≤ 5) {B : Nat} (hB : σ 5002 900 = nI B) (hB6 : B ≤ 6) {K : Nat} (hK : σ 5003 900 = nI K) (hK60 : K ≤ 60) {C : Nat} (hS : σ 5004 900 = nI (2 * C)) (hC10 : C ≤ 10) {pk : Nat → Nat} (hpk : ∀ j, j < B → σ (5030 + j) 900 = nI (2 * pk j) ∧ pk j ≤ 6) (hfl : σ 7000 25 = nI 0 ∨ (σ 7000 25 = nI 1 ∧ σ 7000 20 = nI 1)) {g : Nat} (hg : σ 7000 23 = nI g) (hg1 : g < 200) {w : Nat} (hw : σ 7000 24 = nI w) (hw1 : w < 200) (hkp : σ 5000 1 = 3 → ∀ j, j < B → σ 5005 j = -1 ∨ ∃ n, n < pk j ∧ σ 5005 j = nI n) {tn : Nat → Nat} (htn : ∀ r, r < 5 → σ 5007 r = nI (tn r) ∧ tn r < 6) {sp : Nat → Nat} (hsp : ∀ r, r < R → σ (5010 + r) 0 = nI (sp r) ∧ sp r ≤ 5) (hc : σ 9000 20 = nI 1)  : XEx l m_X14_saleNow 9 0 0 [.ref 5000, .int 9, .ref 9000] (setM z σ h) (some (.int (f_Msale9 σ R B K C pk g tn sp))) (setM z σ h) := by
  refine XMet.of hl rfl rfl (Nat.le_of_ble_eq_true rfl) (fun Y O hh hQ => ?_)
  show SW Y 0 0 (setM z σ h) 0 [.ref 5000, .int 9, .ref 9000, xx_d, xx_d, xx_d] []
  refine sw_iconst (x := 0) O (xx_dt dd_X14_saleNow 0 rfl) (by decide) ?_
  refine sw_istore_n (ls2 := [.ref 5000, .int 9, .ref 9000, .int 0, xx_d, xx_d]) O (xx_dt dd_X14_saleNow 1 rfl) (by decide) rfl ?_
  refine sw_iload_n O (xx_dt dd_X14_saleNow 2 rfl) rfl ?_
  refine sw_tableIn (off := 204) (tgt := 207) O (xx_dt dd_X14_saleNow 3 rfl) (by decide) (by decide) rfl (by decide) ?_
  refine sw_aload_n O (xx_dt dd_X14_saleNow 71 rfl) rfl ?_
  refine sw_get (v := .int (σ 5000 1)) O (xx_dt dd_X14_saleNow 72 rfl) cl_X14 fl_X14_77 (lm_mod (σ := σ)) (by decide) rfl ?_
  refine sw_iconst (x := 3) O (xx_dt dd_X14_saleNow 73 rfl) (by decide) ?_
  refine sw_icmp_ne (tgt := 222) O (xx_dt dd_X14_saleNow 74 rfl) (by decide) (fun q1 => ?_) (fun q1 => ?_)
  · refine sw_aload_n O (xx_dt dd_X14_saleNow 78 rfl) rfl ?_
    refine sw_callVx (as := []) (st := []) (st2 := [.int (f_Cwinners σ)]) O (ct_X10_winners hl (z := z) (σ := σ) hbs hc  ) ce_X10_winners ml_X14_359 iv_X10_winners cl_X10 rfl (lm_9000 (σ := σ) (fl1 hc)) (xx_dt dd_X14_saleNow 79 rfl) (by omega) rfl rfl (Nat.le_of_ble_eq_true rfl) rfl ?_
    refine sw_callSx (as := [.int (f_Cwinners σ)]) (st := []) (st2 := [.int (f_bitCount (f_Cwinners σ))]) O (ct_J6_bitCount_0f7a4 hl (x := f_Cwinners σ)) ce_J6_bitCount_0f7a4 ml_X14_112 st_J6_bitCount_0f7a4 (xx_dt dd_X14_saleNow 80 rfl) (by omega) rfl rfl (Nat.le_of_ble_eq_true rfl) rfl ?_
    exact sw_iret O (xx_dt dd_X14_saleNow 81 rfl) rfl rfl (by rw [hQ]; exact ⟨by unfold f_Msale9; simp only [if_neg q1], rfl⟩)
  · refine sw_aload_n O (xx_dt dd_X14_saleNow 75 rfl) rfl ?_
    refine sw_callVx (as := []) (st := []) (st2 := [.int (f_MwinnersKept σ B)]) O (ct_X14_winnersKept hl (z := z) (σ := σ) hbs (B := B) hB (by omega)  ) ce_X14_winnersKept ml_X14_249 iv_X14_winnersKept cl_X14 rfl (lm_mod (σ := σ)) (xx_dt dd_X14_saleNow 76 rfl) (by omega) rfl rfl (Nat.le_of_ble_eq_true rfl) rfl ?_
    refine sw_goto (tgt := 229) O (xx_dt dd_X14_saleNow 77 rfl) (by decide) ?_
    exact sw_iret O (xx_dt dd_X14_saleNow 81 rfl) rfl rfl (by rw [hQ]; exact ⟨by unfold f_Msale9; simp only [if_pos q1], rfl⟩)
def f_Msale10 (σ : XS9) (R B K C : Nat) (pk : Nat → Nat) (g : Nat) (tn sp : Nat → Nat) : Int32 := f_Cworth σ (2 ^ B - 1)
theorem ct_Msale10 {l : Launch} {h : XH} (hl : l.stackTraces = false) {z : Int64} {σ : XS9} (hbs : xx_bs h) {R : Nat} (hR : σ 5001 900 = nI R) (hR5 : R ≤ 5) {B : Nat} (hB : σ 5002 900 = nI B) (hB6 : B ≤ 6) {K : Nat} (hK : σ 5003 900 = nI K) (hK60 : K ≤ 60) {C : Nat} (hS : σ 5004 900 = nI (2 * C)) (hC10 : C ≤ 10) {pk : Nat → Nat} (hpk : ∀ j, j < B → σ (5030 + j) 900 = nI (2 * pk j) ∧ pk j ≤ 6) (hfl : σ 7000 25 = nI 0 ∨ (σ 7000 25 = nI 1 ∧ σ 7000 20 = nI 1)) {g : Nat} (hg : σ 7000 23 = nI g) (hg1 : g < 200) {w : Nat} (hw : σ 7000 24 = nI w) (hw1 : w < 200) (hkp : σ 5000 1 = 3 → ∀ j, j < B → σ 5005 j = -1 ∨ ∃ n, n < pk j ∧ σ 5005 j = nI n) {tn : Nat → Nat} (htn : ∀ r, r < 5 → σ 5007 r = nI (tn r) ∧ tn r < 6) {sp : Nat → Nat} (hsp : ∀ r, r < R → σ (5010 + r) 0 = nI (sp r) ∧ sp r ≤ 5) (hc : σ 9000 20 = nI 1)  : XEx l m_X14_saleNow 9 0 0 [.ref 5000, .int 10, .ref 9000] (setM z σ h) (some (.int (f_Msale10 σ R B K C pk g tn sp))) (setM z σ h) := by
  refine XMet.of hl rfl rfl (Nat.le_of_ble_eq_true rfl) (fun Y O hh hQ => ?_)
  show SW Y 0 0 (setM z σ h) 0 [.ref 5000, .int 10, .ref 9000, xx_d, xx_d, xx_d] []
  refine sw_iconst (x := 0) O (xx_dt dd_X14_saleNow 0 rfl) (by decide) ?_
  refine sw_istore_n (ls2 := [.ref 5000, .int 10, .ref 9000, .int 0, xx_d, xx_d]) O (xx_dt dd_X14_saleNow 1 rfl) (by decide) rfl ?_
  refine sw_iload_n O (xx_dt dd_X14_saleNow 2 rfl) rfl ?_
  refine sw_tableIn (off := 227) (tgt := 230) O (xx_dt dd_X14_saleNow 3 rfl) (by decide) (by decide) rfl (by decide) ?_
  refine sw_aload_n O (xx_dt dd_X14_saleNow 82 rfl) rfl ?_
  refine sw_aload_n O (xx_dt dd_X14_saleNow 83 rfl) rfl ?_
  have hq232 := pow_le6 hB6
  refine sw_callVx (as := []) (st := [.ref 9000]) (st2 := [.int (nI (2 ^ B - 1)), .ref 9000]) O (ct_X10_all hl (z := z) (σ := σ) hbs hc (B := B) hB (by omega)) ce_X10_all ml_X14_362 iv_X10_all cl_X10 rfl (lm_9000 (σ := σ) (fl1 hc)) (xx_dt dd_X14_saleNow 84 rfl) (by omega) rfl rfl (Nat.le_of_ble_eq_true rfl) rfl ?_
  refine sw_callVx (as := [.int (nI (2 ^ B - 1))]) (st := []) (st2 := [.int (f_Cworth σ (2 ^ B - 1))]) O (ct_X10_worth hl (z := z) (σ := σ) hbs hc (S := 2 ^ B - 1) (by first | omega | assumption)) ce_X10_worth ml_X14_365 iv_X10_worth cl_X10 rfl (lm_9000 (σ := σ) (fl1 hc)) (xx_dt dd_X14_saleNow 85 rfl) (by omega) rfl rfl (Nat.le_of_ble_eq_true rfl) rfl ?_
  exact sw_iret O (xx_dt dd_X14_saleNow 86 rfl) rfl rfl (by rw [hQ]; exact ⟨by unfold f_Msale10; rfl, rfl⟩)
def x_Msale11_242 (σ : XS9) (R B K C : Nat) (pk : Nat → Nat) (g : Nat) (tn sp : Nat → Nat) (s0 : Int32) : Int32 := xit (fun i242 s242 => s242 + (f_Mdue σ i242 B)) B 0 s0
def f_Msale11 (σ : XS9) (R B K C : Nat) (pk : Nat → Nat) (g : Nat) (tn sp : Nat → Nat) : Int32 := (x_Msale11_242 σ R B K C pk g tn sp 0)
theorem ct_Msale11 {l : Launch} {h : XH} (hl : l.stackTraces = false) {z : Int64} {σ : XS9} (hbs : xx_bs h) {R : Nat} (hR : σ 5001 900 = nI R) (hR5 : R ≤ 5) {B : Nat} (hB : σ 5002 900 = nI B) (hB6 : B ≤ 6) {K : Nat} (hK : σ 5003 900 = nI K) (hK60 : K ≤ 60) {C : Nat} (hS : σ 5004 900 = nI (2 * C)) (hC10 : C ≤ 10) {pk : Nat → Nat} (hpk : ∀ j, j < B → σ (5030 + j) 900 = nI (2 * pk j) ∧ pk j ≤ 6) (hfl : σ 7000 25 = nI 0 ∨ (σ 7000 25 = nI 1 ∧ σ 7000 20 = nI 1)) {g : Nat} (hg : σ 7000 23 = nI g) (hg1 : g < 200) {w : Nat} (hw : σ 7000 24 = nI w) (hw1 : w < 200) (hkp : σ 5000 1 = 3 → ∀ j, j < B → σ 5005 j = -1 ∨ ∃ n, n < pk j ∧ σ 5005 j = nI n) {tn : Nat → Nat} (htn : ∀ r, r < 5 → σ 5007 r = nI (tn r) ∧ tn r < 6) {sp : Nat → Nat} (hsp : ∀ r, r < R → σ (5010 + r) 0 = nI (sp r) ∧ sp r ≤ 5) (hc : σ 9000 20 = nI 1)  : XEx l m_X14_saleNow 9 0 0 [.ref 5000, .int 11, .ref 9000] (setM z σ h) (some (.int (f_Msale11 σ R B K C pk g tn sp))) (setM z σ h) := by
  refine XMet.of hl rfl rfl (Nat.le_of_ble_eq_true rfl) (fun Y O hh hQ => ?_)
  show SW Y 0 0 (setM z σ h) 0 [.ref 5000, .int 11, .ref 9000, xx_d, xx_d, xx_d] []
  refine sw_iconst (x := 0) O (xx_dt dd_X14_saleNow 0 rfl) (by decide) ?_
  refine sw_istore_n (ls2 := [.ref 5000, .int 11, .ref 9000, .int 0, xx_d, xx_d]) O (xx_dt dd_X14_saleNow 1 rfl) (by decide) rfl ?_
  refine sw_iload_n O (xx_dt dd_X14_saleNow 2 rfl) rfl ?_
  refine sw_tableIn (off := 236) (tgt := 239) O (xx_dt dd_X14_saleNow 3 rfl) (by decide) (by decide) rfl (by decide) ?_
  refine sw_iconst (x := 0) O (xx_dt dd_X14_saleNow 87 rfl) (by decide) ?_
  refine sw_istore (ls2 := [.ref 5000, .int 11, .ref 9000, .int 0, .int 0, xx_d]) O (xx_dt dd_X14_saleNow 88 rfl) (by decide) rfl ?_
  refine sw_for (S := Int32) (fun i242 s242 => s242 + (f_Mdue σ i242 B)) (fun _ _ => True) (hp := fun _ => setM z σ h) (hd := 242) (lc := fun i242 s242 => [.ref 5000, .int 11, .ref 9000, .int s242, .int (nI i242), xx_d]) (N := B) (fun i242 s242 hi242 hP242 => ⟨trivial, fun kk242 => ?_⟩) B 0 0 (by omega) (trivial) (fun hP242 => ?_)
  · refine sw_iload O (xx_dt dd_X14_saleNow 89 rfl) rfl ?_
    refine sw_aload_n O (xx_dt dd_X14_saleNow 90 rfl) rfl ?_
    refine sw_get (v := .ref 5002) O (xx_dt dd_X14_saleNow 91 rfl) cl_X14 fl_X14_27 (lm_mod (σ := σ)) (by decide) rfl ?_
    refine sw_callVL (ci := 6) (as := []) (st := [.int (nI i242)]) (st2 := [.int (nI B), .int (nI i242)]) O (ct_AL_size hl (lm_5002 (σ := σ) (B := B) hB (by omega))) ce_Jx4a65c_size_8abf5 ml_X14_57 iv_Jx4a65c_size_8abf5 cl_Jx4a65c rfl (lm_5002 (σ := σ) (B := B) hB (by omega)) (xx_dt dd_X14_saleNow 92 rfl) (by omega) rfl rfl (Nat.le_of_ble_eq_true rfl) rfl ?_
    refine sw_icmp_ge (tgt := 269) O (xx_dt dd_X14_saleNow 93 rfl) (by decide) (fun q1 => ?_) (fun q1 => ?_)
    · exact absurd q1 (nI_ge (b := B) hi242 (by omega))
    · refine sw_iload_n O (xx_dt dd_X14_saleNow 94 rfl) rfl ?_
      refine sw_aload_n O (xx_dt dd_X14_saleNow 95 rfl) rfl ?_
      refine sw_iload O (xx_dt dd_X14_saleNow 96 rfl) rfl ?_
      refine sw_callVx (as := [.int (nI i242)]) (st := [.int s242]) (st2 := [.int (f_Mdue σ i242 B), .int s242]) O (ct_X14_due hl (z := z) (σ := σ) hbs (B := B) hB (by omega) (i := i242) (by omega)) ce_X14_due ml_X14_323 iv_X14_due cl_X14 rfl (lm_mod (σ := σ)) (xx_dt dd_X14_saleNow 97 rfl) (by omega) rfl rfl (Nat.le_of_ble_eq_true rfl) rfl ?_
      refine sw_iadd O (xx_dt dd_X14_saleNow 98 rfl) ?_
      refine sw_istore_n (ls2 := [.ref 5000, .int 11, .ref 9000, .int (s242 + (f_Mdue σ i242 B)), .int (nI i242), xx_d]) O (xx_dt dd_X14_saleNow 99 rfl) (by decide) rfl ?_
      refine sw_iinc (y := nI (i242 + 1)) (ls2 := [.ref 5000, .int 11, .ref 9000, .int (s242 + (f_Mdue σ i242 B)), .int (nI (i242 + 1)), xx_d]) O (xx_dt dd_X14_saleNow 100 rfl) rfl (nI_1 _) (by decide) rfl ?_
      refine sw_goto (tgt := 242) O (xx_dt dd_X14_saleNow 101 rfl) (by decide) ?_
      exact kk242
  · show SW Y _ _ (setM z σ h) 242 [.ref 5000, .int 11, .ref 9000, .int (x_Msale11_242 σ R B K C pk g tn sp 0), .int (nI B), xx_d] []
    refine sw_iload O (xx_dt dd_X14_saleNow 89 rfl) rfl ?_
    refine sw_aload_n O (xx_dt dd_X14_saleNow 90 rfl) rfl ?_
    refine sw_get (v := .ref 5002) O (xx_dt dd_X14_saleNow 91 rfl) cl_X14 fl_X14_27 (lm_mod (σ := σ)) (by decide) rfl ?_
    refine sw_callVL (ci := 6) (as := []) (st := [.int (nI B)]) (st2 := [.int (nI B), .int (nI B)]) O (ct_AL_size hl (lm_5002 (σ := σ) (B := B) hB (by omega))) ce_Jx4a65c_size_8abf5 ml_X14_57 iv_Jx4a65c_size_8abf5 cl_Jx4a65c rfl (lm_5002 (σ := σ) (B := B) hB (by omega)) (xx_dt dd_X14_saleNow 92 rfl) (by omega) rfl rfl (Nat.le_of_ble_eq_true rfl) rfl ?_
    refine sw_icmp_ge (tgt := 269) O (xx_dt dd_X14_saleNow 93 rfl) (by decide) (fun q1 => ?_) (fun q1 => ?_)
    · refine sw_iload_n O (xx_dt dd_X14_saleNow 102 rfl) rfl ?_
      exact sw_iret O (xx_dt dd_X14_saleNow 103 rfl) rfl rfl (by rw [hQ]; exact ⟨by unfold f_Msale11; rfl, rfl⟩)
    · exact absurd (Int32.le_refl _) q1
def f_Msale12 (σ : XS9) (R B K C : Nat) (pk : Nat → Nat) (g : Nat) (tn sp : Nat → Nat) : Int32 := σ 5000 5
theorem ct_Msale12 {l : Launch} {h : XH} (hl : l.stackTraces = false) {z : Int64} {σ : XS9} (hbs : xx_bs h) {R : Nat} (hR : σ 5001 900 = nI R) (hR5 : R ≤ 5) {B : Nat} (hB : σ 5002 900 = nI B) (hB6 : B ≤ 6) {K : Nat} (hK : σ 5003 900 = nI K) (hK60 : K ≤ 60) {C : Nat} (hS : σ 5004 900 = nI (2 * C)) (hC10 : C ≤ 10) {pk : Nat → Nat} (hpk : ∀ j, j < B → σ (5030 + j) 900 = nI (2 * pk j) ∧ pk j ≤ 6) (hfl : σ 7000 25 = nI 0 ∨ (σ 7000 25 = nI 1 ∧ σ 7000 20 = nI 1)) {g : Nat} (hg : σ 7000 23 = nI g) (hg1 : g < 200) {w : Nat} (hw : σ 7000 24 = nI w) (hw1 : w < 200) (hkp : σ 5000 1 = 3 → ∀ j, j < B → σ 5005 j = -1 ∨ ∃ n, n < pk j ∧ σ 5005 j = nI n) {tn : Nat → Nat} (htn : ∀ r, r < 5 → σ 5007 r = nI (tn r) ∧ tn r < 6) {sp : Nat → Nat} (hsp : ∀ r, r < R → σ (5010 + r) 0 = nI (sp r) ∧ sp r ≤ 5) (hc : σ 9000 20 = nI 1)  : XEx l m_X14_saleNow 9 0 0 [.ref 5000, .int 12, .ref 9000] (setM z σ h) (some (.int (f_Msale12 σ R B K C pk g tn sp))) (setM z σ h) := by
  refine XMet.of hl rfl rfl (Nat.le_of_ble_eq_true rfl) (fun Y O hh hQ => ?_)
  show SW Y 0 0 (setM z σ h) 0 [.ref 5000, .int 12, .ref 9000, xx_d, xx_d, xx_d] []
  refine sw_iconst (x := 0) O (xx_dt dd_X14_saleNow 0 rfl) (by decide) ?_
  refine sw_istore_n (ls2 := [.ref 5000, .int 12, .ref 9000, .int 0, xx_d, xx_d]) O (xx_dt dd_X14_saleNow 1 rfl) (by decide) rfl ?_
  refine sw_iload_n O (xx_dt dd_X14_saleNow 2 rfl) rfl ?_
  refine sw_tableIn (off := 268) (tgt := 271) O (xx_dt dd_X14_saleNow 3 rfl) (by decide) (by decide) rfl (by decide) ?_
  refine sw_aload_n O (xx_dt dd_X14_saleNow 104 rfl) rfl ?_
  refine sw_get (v := .int (σ 5000 5)) O (xx_dt dd_X14_saleNow 105 rfl) cl_X14 fl_X14_255 (lm_mod (σ := σ)) (by decide) rfl ?_
  exact sw_iret O (xx_dt dd_X14_saleNow 106 rfl) rfl rfl (by rw [hQ]; exact ⟨by unfold f_Msale12; rfl, rfl⟩)
def x_Msale13_302 (σ : XS9) (R B K C : Nat) (pk : Nat → Nat) (g : Nat) (tn sp : Nat → Nat) (i279 : Nat) (s0 : Int32) : Int32 := xit (fun i302 s302 => (if (((σ (5010 + i279) 3) >>> ((nI i302) &&& 31)) &&& 1) = 1 then s302 + (f_Mclashes σ i279 (tn i279) i302 (tn i302) B sp) else s302)) i279 0 s0
def x_Msale13_279 (σ : XS9) (R B K C : Nat) (pk : Nat → Nat) (g : Nat) (tn sp : Nat → Nat) (s0 : Int32) : Int32 := xitB (fun i279 s279 => (if (σ 5000 1) = 3 then .inl (x_Msale13_302 σ R B K C pk g tn sp i279 s279) else .inr s279)) R 0 s0
def f_Msale13 (σ : XS9) (R B K C : Nat) (pk : Nat → Nat) (g : Nat) (tn sp : Nat → Nat) : Int32 := (x_Msale13_279 σ R B K C pk g tn sp 0)
theorem ct_Msale13 {l : Launch} {h : XH} (hl : l.stackTraces = false) {z : Int64} {σ : XS9} (hbs : xx_bs h) {R : Nat} (hR : σ 5001 900 = nI R) (hR5 : R ≤ 5) {B : Nat} (hB : σ 5002 900 = nI B) (hB6 : B ≤ 6) {K : Nat} (hK : σ 5003 900 = nI K) (hK60 : K ≤ 60) {C : Nat} (hS : σ 5004 900 = nI (2 * C)) (hC10 : C ≤ 10) {pk : Nat → Nat} (hpk : ∀ j, j < B → σ (5030 + j) 900 = nI (2 * pk j) ∧ pk j ≤ 6) (hfl : σ 7000 25 = nI 0 ∨ (σ 7000 25 = nI 1 ∧ σ 7000 20 = nI 1)) {g : Nat} (hg : σ 7000 23 = nI g) (hg1 : g < 200) {w : Nat} (hw : σ 7000 24 = nI w) (hw1 : w < 200) (hkp : σ 5000 1 = 3 → ∀ j, j < B → σ 5005 j = -1 ∨ ∃ n, n < pk j ∧ σ 5005 j = nI n) {tn : Nat → Nat} (htn : ∀ r, r < 5 → σ 5007 r = nI (tn r) ∧ tn r < 6) {sp : Nat → Nat} (hsp : ∀ r, r < R → σ (5010 + r) 0 = nI (sp r) ∧ sp r ≤ 5) (hc : σ 9000 20 = nI 1)  : XEx l m_X14_saleNow 9 0 0 [.ref 5000, .int 13, .ref 9000] (setM z σ h) (some (.int (f_Msale13 σ R B K C pk g tn sp))) (setM z σ h) := by
  refine XMet.of hl rfl rfl (Nat.le_of_ble_eq_true rfl) (fun Y O hh hQ => ?_)
  show SW Y 0 0 (setM z σ h) 0 [.ref 5000, .int 13, .ref 9000, xx_d, xx_d, xx_d] []
  refine sw_iconst (x := 0) O (xx_dt dd_X14_saleNow 0 rfl) (by decide) ?_
  refine sw_istore_n (ls2 := [.ref 5000, .int 13, .ref 9000, .int 0, xx_d, xx_d]) O (xx_dt dd_X14_saleNow 1 rfl) (by decide) rfl ?_
  refine sw_iload_n O (xx_dt dd_X14_saleNow 2 rfl) rfl ?_
  refine sw_tableIn (off := 273) (tgt := 276) O (xx_dt dd_X14_saleNow 3 rfl) (by decide) (by decide) rfl (by decide) ?_
  refine sw_iconst (x := 0) O (xx_dt dd_X14_saleNow 107 rfl) (by decide) ?_
  refine sw_istore (ls2 := [.ref 5000, .int 13, .ref 9000, .int 0, .int 0, xx_d]) O (xx_dt dd_X14_saleNow 108 rfl) (by decide) rfl ?_
  refine sw_forB (S := Int32) (fun i279 s279 => (if (σ 5000 1) = 3 then .inl (x_Msale13_302 σ R B K C pk g tn sp i279 s279) else .inr s279)) (fun _ _ => True) (fun _ => True) (hp := fun _ => setM z σ h) (hd := 279) (lc := fun i279 s279 => [.ref 5000, .int 13, .ref 9000, .int s279, .int (nI i279), xx_d]) (ex := 370) (lx := fun s279 => [.ref 5000, .int 13, .ref 9000, .int s279, xx_d, xx_d]) (N := R) (fun i279 s279 hi279 hP279 => ⟨⟨(fun _ _ => trivial), (fun _ _ => trivial)⟩, fun kk279 kb279 => ?_⟩) (fun s279 hP279 => ⟨hP279, fun kx279 => ?_⟩) R 0 0 (by omega) (trivial) (fun hP279 => ?_)
  · refine sw_iload O (xx_dt dd_X14_saleNow 109 rfl) rfl ?_
    refine sw_aload_n O (xx_dt dd_X14_saleNow 110 rfl) rfl ?_
    refine sw_get (v := .ref 5001) O (xx_dt dd_X14_saleNow 111 rfl) cl_X14 fl_X14_23 (lm_mod (σ := σ)) (by decide) rfl ?_
    refine sw_callVL (ci := 6) (as := []) (st := [.int (nI i279)]) (st2 := [.int (nI R), .int (nI i279)]) O (ct_AL_size hl (lm_5001 (σ := σ) (R := R) hR (by omega))) ce_Jx4a65c_size_8abf5 ml_X14_57 iv_Jx4a65c_size_8abf5 cl_Jx4a65c rfl (lm_5001 (σ := σ) (R := R) hR (by omega)) (xx_dt dd_X14_saleNow 112 rfl) (by omega) rfl rfl (Nat.le_of_ble_eq_true rfl) rfl ?_
    refine sw_icmp_ge (tgt := 370) O (xx_dt dd_X14_saleNow 113 rfl) (by decide) (fun q1 => ?_) (fun q1 => ?_)
    · exact absurd q1 (nI_ge (b := R) hi279 (by omega))
    · refine sw_aload_n O (xx_dt dd_X14_saleNow 114 rfl) rfl ?_
      refine sw_get (v := .int (σ 5000 1)) O (xx_dt dd_X14_saleNow 115 rfl) cl_X14 fl_X14_77 (lm_mod (σ := σ)) (by decide) rfl ?_
      refine sw_iconst (x := 3) O (xx_dt dd_X14_saleNow 116 rfl) (by decide) ?_
      refine sw_icmp_ne (tgt := 370) O (xx_dt dd_X14_saleNow 117 rfl) (by decide) (fun q2 => ?_) (fun q2 => ?_)
      · refine sw_dum (ls2 := [.ref 5000, .int 13, .ref 9000, .int s279, xx_d, xx_d]) ⟨.inr rfl, .inr rfl, .inr rfl, .inr rfl, .inl rfl, .inr rfl, trivial⟩ ?_
        exact kb279 s279 (by simp only [if_neg q2])
      · refine sw_iconst (x := 0) O (xx_dt dd_X14_saleNow 118 rfl) (by decide) ?_
        refine sw_istore (ls2 := [.ref 5000, .int 13, .ref 9000, .int s279, .int (nI i279), .int 0]) O (xx_dt dd_X14_saleNow 119 rfl) (by decide) rfl ?_
        refine sw_for (S := Int32) (fun i302 s302 => (if (((σ (5010 + i279) 3) >>> ((nI i302) &&& 31)) &&& 1) = 1 then s302 + (f_Mclashes σ i279 (tn i279) i302 (tn i302) B sp) else s302)) (fun _ _ => True) (hp := fun _ => setM z σ h) (hd := 302) (lc := fun i302 s302 => [.ref 5000, .int 13, .ref 9000, .int s302, .int (nI i279), .int (nI i302)]) (N := i279) (fun i302 s302 hi302 hP302 => ⟨trivial, fun kk302 => ?_⟩) i279 0 s279 (by omega) (trivial) (fun hP302 => ?_)
        · refine sw_iload O (xx_dt dd_X14_saleNow 120 rfl) rfl ?_
          refine sw_iload O (xx_dt dd_X14_saleNow 121 rfl) rfl ?_
          refine sw_icmp_ge (tgt := 364) O (xx_dt dd_X14_saleNow 122 rfl) (by decide) (fun q3 => ?_) (fun q3 => ?_)
          · exact absurd q3 (nI_ge (b := i279) hi302 (by omega))
          · refine sw_aload_n O (xx_dt dd_X14_saleNow 123 rfl) rfl ?_
            refine sw_get (v := .ref 5001) O (xx_dt dd_X14_saleNow 124 rfl) cl_X14 fl_X14_23 (lm_mod (σ := σ)) (by decide) rfl ?_
            refine sw_iload O (xx_dt dd_X14_saleNow 125 rfl) rfl ?_
            refine sw_callVL (ci := 6) (as := [.int (nI i279)]) (st := []) (st2 := [.ref (5010 + i279)]) O (ct_get hl hbs (lm_5001 (σ := σ) (R := R) hR (by omega)) (by omega) (i := i279) (x := 5010 + i279) (by omega) (by omega) rfl) ce_Jx4a65c_get_915e3 ml_X14_61 iv_Jx4a65c_get_915e3 cl_Jx4a65c rfl (lm_5001 (σ := σ) (R := R) hR (by omega)) (xx_dt dd_X14_saleNow 126 rfl) (by omega) rfl rfl (Nat.le_of_ble_eq_true rfl) rfl ?_
            refine sw_castO O (xx_dt dd_X14_saleNow 127 rfl) cl_X12 (lm_reg (σ := σ) (R := R) hR (by omega) (j := i279) (by omega)) cw_X14_65 ?_
            refine sw_get (v := .int (σ (5010 + i279) 3)) O (xx_dt dd_X14_saleNow 128 rfl) cl_X12 fl_X14_95 (lm_reg (σ := σ) (R := R) hR (by omega) (j := i279) (by omega)) (by decide) rfl ?_
            refine sw_iload O (xx_dt dd_X14_saleNow 129 rfl) rfl ?_
            refine sw_ishr O (xx_dt dd_X14_saleNow 130 rfl) ?_
            refine sw_iconst (x := 1) O (xx_dt dd_X14_saleNow 131 rfl) (by decide) ?_
            refine sw_iand O (xx_dt dd_X14_saleNow 132 rfl) ?_
            refine sw_iconst (x := 1) O (xx_dt dd_X14_saleNow 133 rfl) (by decide) ?_
            refine sw_icmp_ne (tgt := 358) O (xx_dt dd_X14_saleNow 134 rfl) (by decide) (fun q4 => ?_) (fun q4 => ?_)
            · refine sw_iinc (y := nI (i302 + 1)) (ls2 := [.ref 5000, .int 13, .ref 9000, .int s302, .int (nI i279), .int (nI (i302 + 1))]) O (xx_dt dd_X14_saleNow 150 rfl) rfl (nI_1 _) (by decide) rfl ?_
              refine sw_goto (tgt := 302) O (xx_dt dd_X14_saleNow 151 rfl) (by decide) ?_
              simp only [if_neg q4] at kk302
              exact kk302
            · refine sw_iload_n O (xx_dt dd_X14_saleNow 135 rfl) rfl ?_
              refine sw_aload_n O (xx_dt dd_X14_saleNow 136 rfl) rfl ?_
              refine sw_iload O (xx_dt dd_X14_saleNow 137 rfl) rfl ?_
              refine sw_aload_n O (xx_dt dd_X14_saleNow 138 rfl) rfl ?_
              refine sw_get (v := .ref 5007) O (xx_dt dd_X14_saleNow 139 rfl) cl_X14 fl_X14_43 (lm_mod (σ := σ)) (by decide) rfl ?_
              refine sw_iload O (xx_dt dd_X14_saleNow 140 rfl) rfl ?_
              have hz343 := (htn i279 (by omega)).2
              refine sw_iaload (v := .int (nI (tn i279))) O (xx_dt dd_X14_saleNow 141 rfl) ((im_5007 (z := z) (σ := σ)).get _) (pk_in i279 _ (by omega)) (by rw [nI_clamp (by omega)]; exact (congrArg Value.int (htn i279 (by omega)).1)) ?_
              refine sw_iload O (xx_dt dd_X14_saleNow 142 rfl) rfl ?_
              refine sw_aload_n O (xx_dt dd_X14_saleNow 143 rfl) rfl ?_
              refine sw_get (v := .ref 5007) O (xx_dt dd_X14_saleNow 144 rfl) cl_X14 fl_X14_43 (lm_mod (σ := σ)) (by decide) rfl ?_
              refine sw_iload O (xx_dt dd_X14_saleNow 145 rfl) rfl ?_
              have hz352 := (htn i302 (by omega)).2
              refine sw_iaload (v := .int (nI (tn i302))) O (xx_dt dd_X14_saleNow 146 rfl) ((im_5007 (z := z) (σ := σ)).get _) (pk_in i302 _ (by omega)) (by rw [nI_clamp (by omega)]; exact (congrArg Value.int (htn i302 (by omega)).1)) ?_
              refine sw_callVx (as := [.int (nI i279), .int (nI (tn i279)), .int (nI i302), .int (nI (tn i302))]) (st := [.int s302]) (st2 := [.int (f_Mclashes σ i279 (tn i279) i302 (tn i302) B sp), .int s302]) O (ct_X14_clashes hl (z := z) (σ := σ) hbs (R := R) hR (by omega) (B := B) hB (by omega) (pk := pk) hpk (hkp q2) (sp := sp) hsp (r := i279) (tn := tn i279) (r2 := i302) (tn2 := tn i302) (by omega) (by omega) (by omega) (by omega)) ce_X14_clashes ml_X14_236 iv_X14_clashes cl_X14 rfl (lm_mod (σ := σ)) (xx_dt dd_X14_saleNow 147 rfl) (by omega) rfl rfl (Nat.le_of_ble_eq_true rfl) rfl ?_
              refine sw_iadd O (xx_dt dd_X14_saleNow 148 rfl) ?_
              refine sw_istore_n (ls2 := [.ref 5000, .int 13, .ref 9000, .int (s302 + (f_Mclashes σ i279 (tn i279) i302 (tn i302) B sp)), .int (nI i279), .int (nI i302)]) O (xx_dt dd_X14_saleNow 149 rfl) (by decide) rfl ?_
              refine sw_iinc (y := nI (i302 + 1)) (ls2 := [.ref 5000, .int 13, .ref 9000, .int (s302 + (f_Mclashes σ i279 (tn i279) i302 (tn i302) B sp)), .int (nI i279), .int (nI (i302 + 1))]) O (xx_dt dd_X14_saleNow 150 rfl) rfl (nI_1 _) (by decide) rfl ?_
              refine sw_goto (tgt := 302) O (xx_dt dd_X14_saleNow 151 rfl) (by decide) ?_
              simp only [if_pos q4] at kk302
              exact kk302
        · show SW Y _ _ (setM z σ h) 302 [.ref 5000, .int 13, .ref 9000, .int (x_Msale13_302 σ R B K C pk g tn sp i279 s279), .int (nI i279), .int (nI i279)] []
          refine sw_iload O (xx_dt dd_X14_saleNow 120 rfl) rfl ?_
          refine sw_iload O (xx_dt dd_X14_saleNow 121 rfl) rfl ?_
          refine sw_icmp_ge (tgt := 364) O (xx_dt dd_X14_saleNow 122 rfl) (by decide) (fun q3 => ?_) (fun q3 => ?_)
          · refine sw_iinc (y := nI (i279 + 1)) (ls2 := [.ref 5000, .int 13, .ref 9000, .int (x_Msale13_302 σ R B K C pk g tn sp i279 s279), .int (nI (i279 + 1)), .int (nI i279)]) O (xx_dt dd_X14_saleNow 152 rfl) rfl (nI_1 _) (by decide) rfl ?_
            refine sw_goto (tgt := 279) O (xx_dt dd_X14_saleNow 153 rfl) (by decide) ?_
            refine sw_dum (ls2 := [.ref 5000, .int 13, .ref 9000, .int (x_Msale13_302 σ R B K C pk g tn sp i279 s279), .int (nI (i279 + 1)), xx_d]) ⟨.inr rfl, .inr rfl, .inr rfl, .inr rfl, .inr rfl, .inl rfl, trivial⟩ ?_
            exact kk279 (x_Msale13_302 σ R B K C pk g tn sp i279 s279) (by simp only [if_pos q2])
          · exact absurd (Int32.le_refl _) q3
  · show SW Y _ _ (setM z σ h) 279 [.ref 5000, .int 13, .ref 9000, .int s279, .int (nI R), xx_d] []
    refine sw_iload O (xx_dt dd_X14_saleNow 109 rfl) rfl ?_
    refine sw_aload_n O (xx_dt dd_X14_saleNow 110 rfl) rfl ?_
    refine sw_get (v := .ref 5001) O (xx_dt dd_X14_saleNow 111 rfl) cl_X14 fl_X14_23 (lm_mod (σ := σ)) (by decide) rfl ?_
    refine sw_callVL (ci := 6) (as := []) (st := [.int (nI R)]) (st2 := [.int (nI R), .int (nI R)]) O (ct_AL_size hl (lm_5001 (σ := σ) (R := R) hR (by omega))) ce_Jx4a65c_size_8abf5 ml_X14_57 iv_Jx4a65c_size_8abf5 cl_Jx4a65c rfl (lm_5001 (σ := σ) (R := R) hR (by omega)) (xx_dt dd_X14_saleNow 112 rfl) (by omega) rfl rfl (Nat.le_of_ble_eq_true rfl) rfl ?_
    refine sw_icmp_ge (tgt := 370) O (xx_dt dd_X14_saleNow 113 rfl) (by decide) (fun q1 => ?_) (fun q1 => ?_)
    · refine sw_dum (ls2 := [.ref 5000, .int 13, .ref 9000, .int s279, xx_d, xx_d]) ⟨.inr rfl, .inr rfl, .inr rfl, .inr rfl, .inl rfl, .inr rfl, trivial⟩ ?_
      exact kx279
    · exact absurd (Int32.le_refl _) q1
  · show SW Y _ _ (setM z σ h) 370 [.ref 5000, .int 13, .ref 9000, .int (x_Msale13_279 σ R B K C pk g tn sp 0), xx_d, xx_d] []
    refine sw_iload_n O (xx_dt dd_X14_saleNow 154 rfl) rfl ?_
    exact sw_iret O (xx_dt dd_X14_saleNow 155 rfl) rfl rfl (by rw [hQ]; exact ⟨by unfold f_Msale13; rfl, rfl⟩)
def f_Msale14 (σ : XS9) (R B K C : Nat) (pk : Nat → Nat) (g : Nat) (tn sp : Nat → Nat) : Int32 := f_Msignals σ R B pk
theorem ct_Msale14 {l : Launch} {h : XH} (hl : l.stackTraces = false) {z : Int64} {σ : XS9} (hbs : xx_bs h) {R : Nat} (hR : σ 5001 900 = nI R) (hR5 : R ≤ 5) {B : Nat} (hB : σ 5002 900 = nI B) (hB6 : B ≤ 6) {K : Nat} (hK : σ 5003 900 = nI K) (hK60 : K ≤ 60) {C : Nat} (hS : σ 5004 900 = nI (2 * C)) (hC10 : C ≤ 10) {pk : Nat → Nat} (hpk : ∀ j, j < B → σ (5030 + j) 900 = nI (2 * pk j) ∧ pk j ≤ 6) (hfl : σ 7000 25 = nI 0 ∨ (σ 7000 25 = nI 1 ∧ σ 7000 20 = nI 1)) {g : Nat} (hg : σ 7000 23 = nI g) (hg1 : g < 200) {w : Nat} (hw : σ 7000 24 = nI w) (hw1 : w < 200) (hkp : σ 5000 1 = 3 → ∀ j, j < B → σ 5005 j = -1 ∨ ∃ n, n < pk j ∧ σ 5005 j = nI n) {tn : Nat → Nat} (htn : ∀ r, r < 5 → σ 5007 r = nI (tn r) ∧ tn r < 6) {sp : Nat → Nat} (hsp : ∀ r, r < R → σ (5010 + r) 0 = nI (sp r) ∧ sp r ≤ 5) (hc : σ 9000 20 = nI 1)  : XEx l m_X14_saleNow 9 0 0 [.ref 5000, .int 14, .ref 9000] (setM z σ h) (some (.int (f_Msale14 σ R B K C pk g tn sp))) (setM z σ h) := by
  refine XMet.of hl rfl rfl (Nat.le_of_ble_eq_true rfl) (fun Y O hh hQ => ?_)
  show SW Y 0 0 (setM z σ h) 0 [.ref 5000, .int 14, .ref 9000, xx_d, xx_d, xx_d] []
  refine sw_iconst (x := 0) O (xx_dt dd_X14_saleNow 0 rfl) (by decide) ?_
  refine sw_istore_n (ls2 := [.ref 5000, .int 14, .ref 9000, .int 0, xx_d, xx_d]) O (xx_dt dd_X14_saleNow 1 rfl) (by decide) rfl ?_
  refine sw_iload_n O (xx_dt dd_X14_saleNow 2 rfl) rfl ?_
  refine sw_tableIn (off := 369) (tgt := 372) O (xx_dt dd_X14_saleNow 3 rfl) (by decide) (by decide) rfl (by decide) ?_
  refine sw_aload_n O (xx_dt dd_X14_saleNow 156 rfl) rfl ?_
  refine sw_callVx (as := []) (st := []) (st2 := [.int (f_Msignals σ R B pk)]) O (ct_X14_signals hl (z := z) (σ := σ) hbs (R := R) hR (by omega) (B := B) hB (by omega) (pk := pk) hpk  ) ce_X14_signals ml_X14_368 iv_X14_signals cl_X14 rfl (lm_mod (σ := σ)) (xx_dt dd_X14_saleNow 157 rfl) (by omega) rfl rfl (Nat.le_of_ble_eq_true rfl) rfl ?_
  exact sw_iret O (xx_dt dd_X14_saleNow 158 rfl) rfl rfl (by rw [hQ]; exact ⟨by unfold f_Msale14; rfl, rfl⟩)
def f_Msale15 (σ : XS9) (R B K C : Nat) (pk : Nat → Nat) (g : Nat) (tn sp : Nat → Nat) : Int32 := nI K
theorem ct_Msale15 {l : Launch} {h : XH} (hl : l.stackTraces = false) {z : Int64} {σ : XS9} (hbs : xx_bs h) {R : Nat} (hR : σ 5001 900 = nI R) (hR5 : R ≤ 5) {B : Nat} (hB : σ 5002 900 = nI B) (hB6 : B ≤ 6) {K : Nat} (hK : σ 5003 900 = nI K) (hK60 : K ≤ 60) {C : Nat} (hS : σ 5004 900 = nI (2 * C)) (hC10 : C ≤ 10) {pk : Nat → Nat} (hpk : ∀ j, j < B → σ (5030 + j) 900 = nI (2 * pk j) ∧ pk j ≤ 6) (hfl : σ 7000 25 = nI 0 ∨ (σ 7000 25 = nI 1 ∧ σ 7000 20 = nI 1)) {g : Nat} (hg : σ 7000 23 = nI g) (hg1 : g < 200) {w : Nat} (hw : σ 7000 24 = nI w) (hw1 : w < 200) (hkp : σ 5000 1 = 3 → ∀ j, j < B → σ 5005 j = -1 ∨ ∃ n, n < pk j ∧ σ 5005 j = nI n) {tn : Nat → Nat} (htn : ∀ r, r < 5 → σ 5007 r = nI (tn r) ∧ tn r < 6) {sp : Nat → Nat} (hsp : ∀ r, r < R → σ (5010 + r) 0 = nI (sp r) ∧ sp r ≤ 5) (hc : σ 9000 20 = nI 1)  : XEx l m_X14_saleNow 9 0 0 [.ref 5000, .int 15, .ref 9000] (setM z σ h) (some (.int (f_Msale15 σ R B K C pk g tn sp))) (setM z σ h) := by
  refine XMet.of hl rfl rfl (Nat.le_of_ble_eq_true rfl) (fun Y O hh hQ => ?_)
  show SW Y 0 0 (setM z σ h) 0 [.ref 5000, .int 15, .ref 9000, xx_d, xx_d, xx_d] []
  refine sw_iconst (x := 0) O (xx_dt dd_X14_saleNow 0 rfl) (by decide) ?_
  refine sw_istore_n (ls2 := [.ref 5000, .int 15, .ref 9000, .int 0, xx_d, xx_d]) O (xx_dt dd_X14_saleNow 1 rfl) (by decide) rfl ?_
  refine sw_iload_n O (xx_dt dd_X14_saleNow 2 rfl) rfl ?_
  refine sw_tableIn (off := 374) (tgt := 377) O (xx_dt dd_X14_saleNow 3 rfl) (by decide) (by decide) rfl (by decide) ?_
  refine sw_aload_n O (xx_dt dd_X14_saleNow 159 rfl) rfl ?_
  refine sw_get (v := .ref 5003) O (xx_dt dd_X14_saleNow 160 rfl) cl_X14 fl_X14_30 (lm_mod (σ := σ)) (by decide) rfl ?_
  refine sw_callVL (ci := 6) (as := []) (st := []) (st2 := [.int (nI K)]) O (ct_AL_size hl (lm_5003 (σ := σ) (K := K) hK (by omega))) ce_Jx4a65c_size_8abf5 ml_X14_57 iv_Jx4a65c_size_8abf5 cl_Jx4a65c rfl (lm_5003 (σ := σ) (K := K) hK (by omega)) (xx_dt dd_X14_saleNow 161 rfl) (by omega) rfl rfl (Nat.le_of_ble_eq_true rfl) rfl ?_
  exact sw_iret O (xx_dt dd_X14_saleNow 162 rfl) rfl rfl (by rw [hQ]; exact ⟨by unfold f_Msale15; rfl, rfl⟩)
def f_Msale16 (σ : XS9) (R B K C : Nat) (pk : Nat → Nat) (g : Nat) (tn sp : Nat → Nat) : Int32 := σ 5000 6
theorem ct_Msale16 {l : Launch} {h : XH} (hl : l.stackTraces = false) {z : Int64} {σ : XS9} (hbs : xx_bs h) {R : Nat} (hR : σ 5001 900 = nI R) (hR5 : R ≤ 5) {B : Nat} (hB : σ 5002 900 = nI B) (hB6 : B ≤ 6) {K : Nat} (hK : σ 5003 900 = nI K) (hK60 : K ≤ 60) {C : Nat} (hS : σ 5004 900 = nI (2 * C)) (hC10 : C ≤ 10) {pk : Nat → Nat} (hpk : ∀ j, j < B → σ (5030 + j) 900 = nI (2 * pk j) ∧ pk j ≤ 6) (hfl : σ 7000 25 = nI 0 ∨ (σ 7000 25 = nI 1 ∧ σ 7000 20 = nI 1)) {g : Nat} (hg : σ 7000 23 = nI g) (hg1 : g < 200) {w : Nat} (hw : σ 7000 24 = nI w) (hw1 : w < 200) (hkp : σ 5000 1 = 3 → ∀ j, j < B → σ 5005 j = -1 ∨ ∃ n, n < pk j ∧ σ 5005 j = nI n) {tn : Nat → Nat} (htn : ∀ r, r < 5 → σ 5007 r = nI (tn r) ∧ tn r < 6) {sp : Nat → Nat} (hsp : ∀ r, r < R → σ (5010 + r) 0 = nI (sp r) ∧ sp r ≤ 5) (hc : σ 9000 20 = nI 1)  : XEx l m_X14_saleNow 9 0 0 [.ref 5000, .int 16, .ref 9000] (setM z σ h) (some (.int (f_Msale16 σ R B K C pk g tn sp))) (setM z σ h) := by
  refine XMet.of hl rfl rfl (Nat.le_of_ble_eq_true rfl) (fun Y O hh hQ => ?_)
  show SW Y 0 0 (setM z σ h) 0 [.ref 5000, .int 16, .ref 9000, xx_d, xx_d, xx_d] []
  refine sw_iconst (x := 0) O (xx_dt dd_X14_saleNow 0 rfl) (by decide) ?_
  refine sw_istore_n (ls2 := [.ref 5000, .int 16, .ref 9000, .int 0, xx_d, xx_d]) O (xx_dt dd_X14_saleNow 1 rfl) (by decide) rfl ?_
  refine sw_iload_n O (xx_dt dd_X14_saleNow 2 rfl) rfl ?_
  refine sw_tableOut (tgt := 385) O (xx_dt dd_X14_saleNow 3 rfl) (by decide) (by decide) ?_
  refine sw_aload_n O (xx_dt dd_X14_saleNow 163 rfl) rfl ?_
  refine sw_get (v := .int (σ 5000 6)) O (xx_dt dd_X14_saleNow 164 rfl) cl_X14 fl_X14_371 (lm_mod (σ := σ)) (by decide) rfl ?_
  exact sw_iret O (xx_dt dd_X14_saleNow 165 rfl) rfl rfl (by rw [hQ]; exact ⟨by unfold f_Msale16; rfl, rfl⟩)
def f_MsaleNow (σ : XS9) (R B K C : Nat) (pk : Nat → Nat) (g : Nat) (tn sp : Nat → Nat) (v : Nat) : Int32 := match v with | 0 => f_Msale0 σ R B K C pk g tn sp | 1 => f_Msale1 σ R B K C pk g tn sp | 2 => f_Msale2 σ R B K C pk g tn sp | 3 => f_Msale3 σ R B K C pk g tn sp | 4 => f_Msale4 σ R B K C pk g tn sp | 5 => f_Msale5 σ R B K C pk g tn sp | 6 => f_Msale6 σ R B K C pk g tn sp | 7 => f_Msale7 σ R B K C pk g tn sp | 8 => f_Msale8 σ R B K C pk g tn sp | 9 => f_Msale9 σ R B K C pk g tn sp | 10 => f_Msale10 σ R B K C pk g tn sp | 11 => f_Msale11 σ R B K C pk g tn sp | 12 => f_Msale12 σ R B K C pk g tn sp | 13 => f_Msale13 σ R B K C pk g tn sp | 14 => f_Msale14 σ R B K C pk g tn sp | 15 => f_Msale15 σ R B K C pk g tn sp | _ => f_Msale16 σ R B K C pk g tn sp
theorem ct_X14_saleNow {l : Launch} {h : XH} (hl : l.stackTraces = false) {z : Int64} {σ : XS9} (hbs : xx_bs h) {R : Nat} (hR : σ 5001 900 = nI R) (hR5 : R ≤ 5) {B : Nat} (hB : σ 5002 900 = nI B) (hB6 : B ≤ 6) {K : Nat} (hK : σ 5003 900 = nI K) (hK60 : K ≤ 60) {C : Nat} (hS : σ 5004 900 = nI (2 * C)) (hC10 : C ≤ 10) {pk : Nat → Nat} (hpk : ∀ j, j < B → σ (5030 + j) 900 = nI (2 * pk j) ∧ pk j ≤ 6) (hfl : σ 7000 25 = nI 0 ∨ (σ 7000 25 = nI 1 ∧ σ 7000 20 = nI 1)) {g : Nat} (hg : σ 7000 23 = nI g) (hg1 : g < 200) {w : Nat} (hw : σ 7000 24 = nI w) (hw1 : w < 200) (hkp : σ 5000 1 = 3 → ∀ j, j < B → σ 5005 j = -1 ∨ ∃ n, n < pk j ∧ σ 5005 j = nI n) {tn : Nat → Nat} (htn : ∀ r, r < 5 → σ 5007 r = nI (tn r) ∧ tn r < 6) {sp : Nat → Nat} (hsp : ∀ r, r < R → σ (5010 + r) 0 = nI (sp r) ∧ sp r ≤ 5) (hc : σ 9000 20 = nI 1) {v : Nat} (hv : v < 17) : XEx l m_X14_saleNow 9 0 0 [.ref 5000, .int (nI v), .ref 9000] (setM z σ h) (some (.int (f_MsaleNow σ R B K C pk g tn sp v))) (setM z σ h) := by
  match v, hv with
  | 0, _ => exact ct_Msale0 hl hbs hR hR5 hB hB6 hK hK60 hS hC10 hpk hfl hg hg1 hw hw1 hkp htn hsp hc
  | 1, _ => exact ct_Msale1 hl hbs hR hR5 hB hB6 hK hK60 hS hC10 hpk hfl hg hg1 hw hw1 hkp htn hsp hc
  | 2, _ => exact ct_Msale2 hl hbs hR hR5 hB hB6 hK hK60 hS hC10 hpk hfl hg hg1 hw hw1 hkp htn hsp hc
  | 3, _ => exact ct_Msale3 hl hbs hR hR5 hB hB6 hK hK60 hS hC10 hpk hfl hg hg1 hw hw1 hkp htn hsp hc
  | 4, _ => exact ct_Msale4 hl hbs hR hR5 hB hB6 hK hK60 hS hC10 hpk hfl hg hg1 hw hw1 hkp htn hsp hc
  | 5, _ => exact ct_Msale5 hl hbs hR hR5 hB hB6 hK hK60 hS hC10 hpk hfl hg hg1 hw hw1 hkp htn hsp hc
  | 6, _ => exact ct_Msale6 hl hbs hR hR5 hB hB6 hK hK60 hS hC10 hpk hfl hg hg1 hw hw1 hkp htn hsp hc
  | 7, _ => exact ct_Msale7 hl hbs hR hR5 hB hB6 hK hK60 hS hC10 hpk hfl hg hg1 hw hw1 hkp htn hsp hc
  | 8, _ => exact ct_Msale8 hl hbs hR hR5 hB hB6 hK hK60 hS hC10 hpk hfl hg hg1 hw hw1 hkp htn hsp hc
  | 9, _ => exact ct_Msale9 hl hbs hR hR5 hB hB6 hK hK60 hS hC10 hpk hfl hg hg1 hw hw1 hkp htn hsp hc
  | 10, _ => exact ct_Msale10 hl hbs hR hR5 hB hB6 hK hK60 hS hC10 hpk hfl hg hg1 hw hw1 hkp htn hsp hc
  | 11, _ => exact ct_Msale11 hl hbs hR hR5 hB hB6 hK hK60 hS hC10 hpk hfl hg hg1 hw hw1 hkp htn hsp hc
  | 12, _ => exact ct_Msale12 hl hbs hR hR5 hB hB6 hK hK60 hS hC10 hpk hfl hg hg1 hw hw1 hkp htn hsp hc
  | 13, _ => exact ct_Msale13 hl hbs hR hR5 hB hB6 hK hK60 hS hC10 hpk hfl hg hg1 hw hw1 hkp htn hsp hc
  | 14, _ => exact ct_Msale14 hl hbs hR hR5 hB hB6 hK hK60 hS hC10 hpk hfl hg hg1 hw hw1 hkp htn hsp hc
  | 15, _ => exact ct_Msale15 hl hbs hR hR5 hB hB6 hK hK60 hS hC10 hpk hfl hg hg1 hw hw1 hkp htn hsp hc
  | 16, _ => exact ct_Msale16 hl hbs hR hR5 hB hB6 hK hK60 hS hC10 hpk hfl hg hg1 hw hw1 hkp htn hsp hc
  | k + 17, h9 => exact absurd h9 (by omega)
def f_Msale (σ : XS9) (x : Int32) (R B : Nat) (pk gr : Nat → Nat) (cd : Nat → Nat → Nat) (K C g : Nat) (tn sp : Nat → Nat) : Int32 := (if n_bt x 0 16 then f_MsaleNow (g_Cinit (u2 σ 5000 0 0) R B pk gr cd) R B K C pk g tn sp (cn x) else 0)
def g_Msale (σ : XS9) (x : Int32) (R B : Nat) (pk gr : Nat → Nat) (cd : Nat → Nat → Nat) (K C g : Nat) (tn sp : Nat → Nat) : XS9 := (if n_bt x 0 16 then u2 (g_Cinit (u2 σ 5000 0 0) R B pk gr cd) 9000 20 0 else u2 (u2 σ 5000 0 0) 5000 0 1)
theorem ct_X14_sale {l : Launch} {h : XH} (hl : l.stackTraces = false) {z : Int64} {σ : XS9} (hbs : xx_bs h) (hfr : ∀ r, 5000 ≤ r → r < 20010 → h r = none) (hme : mem_eq σ σ) {R : Nat} (hR : σ 5001 900 = nI R) (hR5 : R ≤ 5) {B : Nat} (hB : σ 5002 900 = nI B) (hB6 : B ≤ 6) {pk : Nat → Nat} (hpk : ∀ j, j < B → σ (5030 + j) 900 = nI (2 * pk j) ∧ pk j ≤ 6) {gr : Nat → Nat} (hgr : ∀ j, j < B → σ (5020 + j) 3 = nI (gr j) ∧ gr j < 4) {cd : Nat → Nat → Nat} (hcd : ∀ j k, j < B → k < pk j → σ (5030 + j) (2 * k) = nI (cd j k) ∧ cd j k < 7776) {K : Nat} (hK : σ 5003 900 = nI K) (hK60 : K ≤ 60) {C : Nat} (hS : σ 5004 900 = nI (2 * C)) (hC10 : C ≤ 10) (hfl : σ 7000 25 = nI 0 ∨ (σ 7000 25 = nI 1 ∧ σ 7000 20 = nI 1)) {g : Nat} (hg : σ 7000 23 = nI g) (hg1 : g < 200) {w : Nat} (hw : σ 7000 24 = nI w) (hw1 : w < 200) (hkp : σ 5000 1 = 3 → ∀ j, j < B → σ 5005 j = -1 ∨ ∃ n, n < pk j ∧ σ 5005 j = nI n) {tn : Nat → Nat} (htn : ∀ r, r < 5 → σ 5007 r = nI (tn r) ∧ tn r < 6) {sp : Nat → Nat} (hsp : ∀ r, r < R → σ (5010 + r) 0 = nI (sp r) ∧ sp r ≤ 5) {x : Int32} : XEx l m_X14_sale 22 6 108 [.ref 5000, .int x] (setM z σ h) (some (.int (f_Msale σ x R B pk gr cd K C g tn sp))) (setM z (g_Msale σ x R B pk gr cd K C g tn sp) h) := by
  refine XMet.of hl rfl rfl (Nat.le_of_ble_eq_true rfl) (fun Y O hh hQ => ?_)
  refine sw_cls (fun hcl => ?_)
  show SW Y 6 108 (setM z σ h) 0 [.ref 5000, .int x] []
  refine sw_aload_n O (xx_dt dd_X14_sale 0 rfl) rfl ?_
  refine sw_iconst (x := 0) O (xx_dt dd_X14_sale 1 rfl) (by decide) ?_
  refine sw_put (h2 := setM z (u2 σ 5000 0 0) h) O (xx_dt dd_X14_sale 2 rfl) cl_X14 fl_X14_46 (lm_mod (σ := σ)) (by decide) (by omega) rfl (fun _ => ⟨rfl, rfl⟩) (pm_mod (σ := σ) (by omega)) ?_
  refine sw_iload_n O (xx_dt dd_X14_sale 3 rfl) rfl ?_
  refine sw_iconst (x := 0) O (xx_dt dd_X14_sale 4 rfl) (by decide) ?_
  refine sw_bipush (x := 16) O (xx_dt dd_X14_sale 5 rfl) (by decide) ?_
  refine sw_callSx (as := [.int x, .int 0, .int 16]) (st := []) (st2 := [.int (bZ (n_bt x 0 16))]) O (ct_X14_is hl) ce_X14_is ml_X14_70 st_X14_is (xx_dt dd_X14_sale 6 rfl) (by omega) rfl rfl (Nat.le_of_ble_eq_true rfl) rfl ?_
  refine sw_if_eqB (tgt := 31) O (xx_dt dd_X14_sale 7 rfl) (by decide) (fun q1 => ?_) (fun q1 => ?_)
  · refine sw_aload_n O (xx_dt dd_X14_sale 16 rfl) rfl ?_
    refine sw_iconst (x := 1) O (xx_dt dd_X14_sale 17 rfl) (by decide) ?_
    refine sw_callVx (as := [.int 1]) (st := []) (st2 := [.int 0]) O (ct_X14_refuse hl (z := z) (σ := u2 σ 5000 0 0) hbs (x := 1)) ce_X14_refuse ml_X14_74 iv_X14_refuse cl_X14 rfl (lm_mod (σ := u2 σ 5000 0 0)) (xx_dt dd_X14_sale 18 rfl) (by omega) rfl rfl (Nat.le_of_ble_eq_true rfl) rfl ?_
    exact sw_iret O (xx_dt dd_X14_sale 19 rfl) rfl rfl (by rw [hQ]; exact ⟨by unfold f_Msale; simp only [if_neg q1], by unfold g_Msale; simp only [if_neg q1]⟩)
  · have hc12 := (bt_nat 16 q1 (by decide) rfl (by decide))
    refine sw_lsE (ls2 := [.ref 5000, .int (nI (cn x))]) (by rw [← hc12.1]) ?_
    have hd12 := hc12.2
    refine sw_aload_n O (xx_dt dd_X14_sale 8 rfl) rfl ?_
    refine sw_iload_n O (xx_dt dd_X14_sale 9 rfl) rfl ?_
    refine sw_new (k := 5) (n := 101) (r := 9000) O (xx_dt dd_X14_sale 10 rfl) cl_X10 nw_X14_218 ((setM_c0 (z := z) (σ := u2 σ 5000 0 0) hme.2.1.1.1 (by omega)).trans (hfr 9000 (by omega) (by omega))) (by omega) ?_
    rw [xx_blk_up]
    refine sw_dup O (xx_dt dd_X14_sale 11 rfl) rfl ?_
    refine sw_aload_n O (xx_dt dd_X14_sale 12 rfl) rfl ?_
    refine sw_callIx (k := 0) (n := 0) (k' := 5) (n' := 101) (as := [.ref 5000]) (st := [.ref 9000, .int (nI (cn x)), .ref 5000]) (st2 := [.ref 9000, .int (nI (cn x)), .ref 5000]) O (ct_X10_init hl (z := z) (σ := u2 σ 5000 0 0) hbs hfr hme.2.1.1.1 (R := R) hR (by omega) (B := B) hB (by omega) (pk := pk) (gr := gr) (cd := cd) (fun j9 hj9 => by rw [(u2_ne (by omega))]; exact hpk j9 hj9) (fun j9 hj9 => by rw [show (u2 σ 5000 0 0) (5020 + j9) 3 = σ (5020 + j9) 3 from (congrFun (u2_ne (by omega)) 3)]; exact hgr j9 hj9) (fun j9 k9 hj9 hk9 => by rw [(u2_ne (by omega))]; exact hcd j9 k9 hj9 hk9)) ce_X10_init ml_X14_220 ii_X10_init (xx_dt dd_X14_sale 13 rfl) (by omega) rfl rfl (Nat.le_of_ble_eq_true rfl) rfl ?_
    refine sw_callVx (as := [.int (nI (cn x)), .ref 9000]) (st := []) (st2 := [.int (f_MsaleNow (g_Cinit (u2 σ 5000 0 0) R B pk gr cd) R B K C pk g tn sp (cn x))]) O (ct_X14_saleNow hl (z := z) (σ := g_Cinit (u2 σ 5000 0 0) R B pk gr cd) hbs (R := R) ((congrFun (fr_Cinit (by omega)) 900).trans hR) (by omega) (B := B) ((congrFun (fr_Cinit (by omega)) 900).trans hB) (by omega) (K := K) ((congrFun (fr_Cinit (by omega)) 900).trans hK) (by omega) (C := C) ((congrFun (fr_Cinit (by omega)) 900).trans hS) (by omega) (pk := pk) (fun j9 hj9 => by rw [show (g_Cinit (u2 σ 5000 0 0) R B pk gr cd) (5030 + j9) 900 = σ (5030 + j9) 900 from ((congrFun (fr_Cinit (by omega)) 900).trans (congrFun (u2_ne (by omega)) 900))]; exact hpk j9 hj9) (by rw [show (g_Cinit (u2 σ 5000 0 0) R B pk gr cd) 7000 = σ 7000 from (fr_Cinit (by omega))]; exact hfl) (g := g) ((congrFun (fr_Cinit (by omega)) 23).trans hg) (by omega) (w := w) ((congrFun (fr_Cinit (by omega)) 24).trans hw) (by omega) (fun h39 j9 hj9 => by rw [show (g_Cinit (u2 σ 5000 0 0) R B pk gr cd) 5005 = σ 5005 from (fr_Cinit (by omega))]; exact hkp ((show (g_Cinit (u2 σ 5000 0 0) R B pk gr cd) 5000 1 = σ 5000 1 from congrFun (fr_Cinit (by omega)) 1).symm.trans h39) j9 hj9) (tn := tn) (fun j9 hj9 => by rw [show (g_Cinit (u2 σ 5000 0 0) R B pk gr cd) 5007 = σ 5007 from (fr_Cinit (by omega))]; exact htn j9 hj9) (sp := sp) (fun j9 hj9 => by rw [show (g_Cinit (u2 σ 5000 0 0) R B pk gr cd) (5010 + j9) 0 = σ (5010 + j9) 0 from ((congrFun (fr_Cinit (by omega)) 0).trans (congrFun (u2_ne (by omega)) 0))]; exact hsp j9 hj9) cf_Cinit (v := cn x) (by omega)) ce_X14_saleNow ml_X14_374 iv_X14_saleNow cl_X14 rfl (lm_mod (σ := g_Cinit (u2 σ 5000 0 0) R B pk gr cd)) (xx_dt dd_X14_sale 14 rfl) (by omega) rfl rfl (Nat.le_of_ble_eq_true rfl) rfl ?_
    refine sw_goto (tgt := 36) O (xx_dt dd_X14_sale 15 rfl) (by decide) ?_
    have me9 : mem_eq σ (u2 (g_Cinit (u2 σ 5000 0 0) R B pk gr cd) 9000 20 0) := (mem_eq.frame (τ0 := u2 σ 5000 0 0) (mem_eq.int (r := 5000) (i := 0) (x := 0) hme rfl) (fun q h1 h2 h3 => by simp (disch := omega) only [u2_ne, uR_ne, fr_Cinit, fr_Cpay1, fr_Cpay2]) rfl (fun q h1 h2 => by (simp (disch := omega) only [u2_ne, uR_ne, fr_Cinit, fr_Cpay1, fr_Cpay2]; exact (hme.2.2 q h1 h2).1)))
    exact sw_iretD (h' := setM z (u2 (g_Cinit (u2 σ 5000 0 0) R B pk gr cd) 9000 20 0) h) O (xx_dt dd_X14_sale 19 rfl) rfl rfl (drop9 hfr) (me9.cls hcl) (by rw [hh]; exact fun r hr => me9.dom hr) (by rw [hQ]; exact ⟨by unfold f_Msale; simp only [if_pos q1], by unfold g_Msale; simp only [if_pos q1]⟩)
