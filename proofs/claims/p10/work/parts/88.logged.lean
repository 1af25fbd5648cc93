/-! ===== the reference: isLogged ===== -/
theorem ct_anew0 {l : Launch} {h : XH} (hl : l.stackTraces = false) {z : Int64} {σ : XS9} {R B K : Nat} {GA : Nat → XS9 → Prop} (hbs : xx_bs h) (hfr : ∀ r, 5000 ≤ r → r < 20010 → h r = none) (hR : σ 5001 900 = nI R) (hR5 : R ≤ 5) (hB : σ 5002 900 = nI B) (hB6 : B ≤ 6) (hK : σ 5003 900 = nI K) (hK60 : K ≤ 60) (hk8 : σ 8000 20 = 0) (ha : AH GA σ (-1) 0 0 0 R B K) : XEx l m_X14_runAnew 10 490 8638 [.ref 5000, .int (-1), .int 0, .int 0, .int 0] (setM z σ h) (some (.ref 8000)) (setM z (g_MrunAnew σ (-1) 0 0 0 R B K) h) := ct_anewH (j := 0) (r := 0) hl hbs hfr hR hR5 hB hB6 hK hK60 hk8 (by omega) (by omega) ha
def x_MisLogged_11 (σ : XS9) (R B K : Nat) (s0 : Unit) : Unit ⊕ Int32 := xitR (fun i11 s11 => (if ((g_MrunAnew σ (-1) 0 0 0 R B K) (8000 + 1) i11) = (σ (7000 + 1) i11) then .inl () else .inr 0)) R 0 s0
def x_MisLogged_50 (σ : XS9) (R B K : Nat) (s0 : Unit) : Unit ⊕ Int32 := xitR (fun i50 s50 => (if ((g_MrunAnew σ (-1) 0 0 0 R B K) (8000 + 2) i50) = (σ (7000 + 2) i50) then .inl () else .inr 0)) B 0 s0
def f_MisLogged (σ : XS9) (R B K : Nat) : Int32 := (match (x_MisLogged_11 σ R B K ()) with | .inl s11 => (match (x_MisLogged_50 σ R B K ()) with | .inl s50 => 1 | .inr r50 => r50) | .inr r11 => r11)
theorem ct_X14_isLogged {l : Launch} {h : XH} (hl : l.stackTraces = false) {z : Int64} {σ : XS9} (hbs : xx_bs h) (hfr : ∀ r, 5000 ≤ r → r < 20010 → h r = none) (hme : mem_eq σ σ) {R : Nat} (hR : σ 5001 900 = nI R) (hR5 : R ≤ 5) {B : Nat} (hB : σ 5002 900 = nI B) (hB6 : B ≤ 6) {K : Nat} (hK : σ 5003 900 = nI K) (hK60 : K ≤ 60) (hf : σ 7000 20 = nI 1) (hf5 : σ 7000 25 = nI 1) {g : Nat} (hg : σ 7000 23 = nI g) (hg1 : g < 200) {w : Nat} (hw : σ 7000 24 = nI w) (hw1 : w < 200) {GA : Nat → XS9 → Prop} (ha : AH GA σ (-1) 0 0 0 R B K)  : XEx l m_X14_isLogged 11 490 8638 [.ref 5000] (setM z σ h) (some (.int (f_MisLogged σ R B K))) (setM z (u2 (g_MrunAnew σ (-1) 0 0 0 R B K) 8000 20 0) h) := by
  refine XMet.of hl rfl rfl (Nat.le_of_ble_eq_true rfl) (fun Y O hh hQ => ?_)
  refine sw_cls (fun hcl => ?_)
  show SW Y 490 8638 (setM z σ h) 0 [.ref 5000, xx_d, xx_d] []
  refine sw_aload_n O (xx_dt dd_X14_isLogged 0 rfl) rfl ?_
  refine sw_iconst (x := (-1)) O (xx_dt dd_X14_isLogged 1 rfl) (by decide) ?_
  refine sw_iconst (x := 0) O (xx_dt dd_X14_isLogged 2 rfl) (by decide) ?_
  refine sw_iconst (x := 0) O (xx_dt dd_X14_isLogged 3 rfl) (by decide) ?_
  refine sw_iconst (x := 0) O (xx_dt dd_X14_isLogged 4 rfl) (by decide) ?_
  obtain ⟨m9, hm9, hc9⟩ := anew_out hK60 ha
  refine sw_callVx (as := [.int (-1), .int 0, .int 0, .int 0]) (st := []) (st2 := [.ref 8000]) O (ct_anew0 hl (z := z) (σ := σ) hbs hfr  hR (by omega)  hB (by omega)  hK (by omega) hme.2.1.2.2 ha) ce_X14_runAnew ml_X14_390 iv_X14_runAnew cl_X14 rfl (lm_modC (σ := σ) (fl1 hf5)) (xx_dt dd_X14_isLogged 5 rfl) (by decide) rfl rfl (Nat.le_of_ble_eq_true rfl) rfl ?_
  refine sw_astore_n (ls2 := [.ref 5000, .ref 8000, xx_d]) O (xx_dt dd_X14_isLogged 6 rfl) (by decide) rfl ?_
  refine sw_iconst (x := 0) O (xx_dt dd_X14_isLogged 7 rfl) (by decide) ?_
  refine sw_istore_n (ls2 := [.ref 5000, .ref 8000, .int 0]) O (xx_dt dd_X14_isLogged 8 rfl) (by decide) rfl ?_
  refine sw_forR (S := Unit) (R := Int32) (fun i11 s11 => (if ((g_MrunAnew σ (-1) 0 0 0 R B K) (8000 + 1) i11) = (σ (7000 + 1) i11) then .inl () else .inr 0)) (fun _ _ => True) (FR := fun r9 => f_MisLogged σ R B K = r9) (hp := fun _ => setM z (g_MrunAnew σ (-1) 0 0 0 R B K) h) (hd := 11) (lc := fun i11 s11 => [.ref 5000, .ref 8000, .int (nI i11)]) (N := R) (fun i11 s11 hi11 hP11 => ⟨fun _ _ => trivial, fun kk11 kr11 => ?_⟩) R 0 () (by omega) (trivial) (fun sN11 eN11 hP11 => ?_) (fun r11 eN11 => ?_)
  · refine sw_iload_n O (xx_dt dd_X14_isLogged 9 rfl) rfl ?_
    refine sw_aload_n O (xx_dt dd_X14_isLogged 10 rfl) rfl ?_
    refine sw_get (v := .ref 5001) O (xx_dt dd_X14_isLogged 11 rfl) cl_X14 fl_X14_23 (lm_modC (σ := g_MrunAnew σ (-1) 0 0 0 R B K) (fl1 ((congrFun (fr_MrunAnew hc9 (by omega)) 25).trans hf5))) (by decide) rfl ?_
    refine sw_callVL (ci := 6) (as := []) (st := [.int (nI i11)]) (st2 := [.int (nI R), .int (nI i11)]) O (ct_AL_size hl (lm_5001 (σ := g_MrunAnew σ (-1) 0 0 0 R B K) (R := R) ((congrFun (fr_MrunAnew hc9 (by omega)) 900).trans hR) (by omega))) ce_Jx4a65c_size_8abf5 ml_X14_57 iv_Jx4a65c_size_8abf5 cl_Jx4a65c rfl (lm_5001 (σ := g_MrunAnew σ (-1) 0 0 0 R B K) (R := R) ((congrFun (fr_MrunAnew hc9 (by omega)) 900).trans hR) (by omega)) (xx_dt dd_X14_isLogged 12 rfl) (by decide) rfl rfl (Nat.le_of_ble_eq_true rfl) rfl ?_
    refine sw_icmp_ge (tgt := 48) O (xx_dt dd_X14_isLogged 13 rfl) (by decide) (fun q1 => ?_) (fun q1 => ?_)
    · exact absurd q1 (nI_ge (b := R) hi11 (by omega))
    · refine sw_aload_n O (xx_dt dd_X14_isLogged 14 rfl) rfl ?_
      refine sw_get (v := .ref (8000 + 1)) O (xx_dt dd_X14_isLogged 15 rfl) cl_X11 fl_X14_176 (lm_clk (σ := g_MrunAnew σ (-1) 0 0 0 R B K) (b := 8000) (.inr rfl) (fl1 hc9.1) (g := 2 * m9) hc9.2.2.2.1 (by omega) (w := 2 * m9) hc9.2.2.2.2.1 (by omega)) (by decide) rfl ?_
      refine sw_iload_n O (xx_dt dd_X14_isLogged 16 rfl) rfl ?_
      refine sw_iaload (v := .int ((g_MrunAnew σ (-1) 0 0 0 R B K) (8000 + 1) i11)) O (xx_dt dd_X14_isLogged 17 rfl) ((im_kpr (z := z) (σ := g_MrunAnew σ (-1) 0 0 0 R B K) (b := 8000) (.inr rfl) hc9.1 (R := R) ((congrFun (fr_MrunAnew hc9 (by omega)) 900).trans hR) (by omega)).get _) (pk_in i11 _ (by omega)) (by rw [nI_clamp (by omega)]; try exact rfl) ?_
      refine sw_aload_n O (xx_dt dd_X14_isLogged 18 rfl) rfl ?_
      refine sw_get (v := .ref 7000) O (xx_dt dd_X14_isLogged 19 rfl) cl_X14 fl_X14_141 (lm_modC (σ := g_MrunAnew σ (-1) 0 0 0 R B K) (fl1 ((congrFun (fr_MrunAnew hc9 (by omega)) 25).trans hf5))) (by decide) rfl ?_
      refine sw_get (v := .ref (7000 + 1)) O (xx_dt dd_X14_isLogged 20 rfl) cl_X11 fl_X14_176 (lm_clk (σ := g_MrunAnew σ (-1) 0 0 0 R B K) (b := 7000) (.inl rfl) (fl1 ((congrFun (fr_MrunAnew hc9 (by omega)) 20).trans hf)) (g := g) ((congrFun (fr_MrunAnew hc9 (by omega)) 23).trans hg) (by omega) (w := w) ((congrFun (fr_MrunAnew hc9 (by omega)) 24).trans hw) (by omega)) (by decide) rfl ?_
      refine sw_iload_n O (xx_dt dd_X14_isLogged 21 rfl) rfl ?_
      refine sw_iaload (v := .int (σ (7000 + 1) i11)) O (xx_dt dd_X14_isLogged 22 rfl) ((im_kpr (z := z) (σ := g_MrunAnew σ (-1) 0 0 0 R B K) (b := 7000) (.inl rfl) ((congrFun (fr_MrunAnew hc9 (by omega)) 20).trans hf) (R := R) ((congrFun (fr_MrunAnew hc9 (by omega)) 900).trans hR) (by omega)).get _) (pk_in i11 _ (by omega)) (by rw [nI_clamp (by omega)]; exact (congrArg Value.int (congrFun (fr_MrunAnew hc9 (by omega)) i11))) ?_
      refine sw_icmp_eq (tgt := 42) O (xx_dt dd_X14_isLogged 23 rfl) (by decide) (fun q2 => ?_) (fun q2 => ?_)
      · refine sw_iinc (y := nI (i11 + 1)) (ls2 := [.ref 5000, .ref 8000, .int (nI (i11 + 1))]) O (xx_dt dd_X14_isLogged 26 rfl) rfl (nI_1 _) (by decide) rfl ?_
        refine sw_goto (tgt := 11) O (xx_dt dd_X14_isLogged 27 rfl) (by decide) ?_
        exact kk11 () (by simp only [if_pos q2])
      · refine sw_iconst (x := 0) O (xx_dt dd_X14_isLogged 24 rfl) (by decide) ?_
        have me9 : mem_eq σ (u2 (g_MrunAnew σ (-1) 0 0 0 R B K) 8000 20 0) := (mem_eq.frame8 (τ0 := σ) hme (fun q h9 => by rw [u2_ne (by omega)]; exact hc9.2.2.2.2.2 q h9) u2_v)
        exact sw_iretD (h' := setM z (u2 (g_MrunAnew σ (-1) 0 0 0 R B K) 8000 20 0) h) O (xx_dt dd_X14_isLogged 25 rfl) rfl rfl (drop8 hfr) (me9.cls hcl) (by rw [hh]; exact fun r hr => me9.dom hr) (by rw [hQ]; exact ⟨by rw [kr11 0 (by simp only [if_neg q2])], rfl⟩)
  · show SW Y _ _ (setM z (g_MrunAnew σ (-1) 0 0 0 R B K) h) 11 [.ref 5000, .ref 8000, .int (nI R)] []
    refine sw_iload_n O (xx_dt dd_X14_isLogged 9 rfl) rfl ?_
    refine sw_aload_n O (xx_dt dd_X14_isLogged 10 rfl) rfl ?_
    refine sw_get (v := .ref 5001) O (xx_dt dd_X14_isLogged 11 rfl) cl_X14 fl_X14_23 (lm_modC (σ := g_MrunAnew σ (-1) 0 0 0 R B K) (fl1 ((congrFun (fr_MrunAnew hc9 (by omega)) 25).trans hf5))) (by decide) rfl ?_
    refine sw_callVL (ci := 6) (as := []) (st := [.int (nI R)]) (st2 := [.int (nI R), .int (nI R)]) O (ct_AL_size hl (lm_5001 (σ := g_MrunAnew σ (-1) 0 0 0 R B K) (R := R) ((congrFun (fr_MrunAnew hc9 (by omega)) 900).trans hR) (by omega))) ce_Jx4a65c_size_8abf5 ml_X14_57 iv_Jx4a65c_size_8abf5 cl_Jx4a65c rfl (lm_5001 (σ := g_MrunAnew σ (-1) 0 0 0 R B K) (R := R) ((congrFun (fr_MrunAnew hc9 (by omega)) 900).trans hR) (by omega)) (xx_dt dd_X14_isLogged 12 rfl) (by decide) rfl rfl (Nat.le_of_ble_eq_true rfl) rfl ?_
    refine sw_icmp_ge (tgt := 48) O (xx_dt dd_X14_isLogged 13 rfl) (by decide) (fun q1 => ?_) (fun q1 => ?_)
    · refine sw_iconst (x := 0) O (xx_dt dd_X14_isLogged 28 rfl) (by decide) ?_
      refine sw_istore_n (ls2 := [.ref 5000, .ref 8000, .int 0]) O (xx_dt dd_X14_isLogged 29 rfl) (by decide) rfl ?_
      refine sw_forR (S := Unit) (R := Int32) (fun i50 s50 => (if ((g_MrunAnew σ (-1) 0 0 0 R B K) (8000 + 2) i50) = (σ (7000 + 2) i50) then .inl () else .inr 0)) (fun _ _ => True) (FR := fun r9 => f_MisLogged σ R B K = r9) (hp := fun _ => setM z (g_MrunAnew σ (-1) 0 0 0 R B K) h) (hd := 50) (lc := fun i50 s50 => [.ref 5000, .ref 8000, .int (nI i50)]) (N := B) (fun i50 s50 hi50 hP50 => ⟨fun _ _ => trivial, fun kk50 kr50 => ?_⟩) B 0 () (by omega) (trivial) (fun sN50 eN50 hP50 => ?_) (fun r50 eN50 => ?_)
      · refine sw_iload_n O (xx_dt dd_X14_isLogged 30 rfl) rfl ?_
        refine sw_aload_n O (xx_dt dd_X14_isLogged 31 rfl) rfl ?_
        refine sw_get (v := .ref 5002) O (xx_dt dd_X14_isLogged 32 rfl) cl_X14 fl_X14_27 (lm_modC (σ := g_MrunAnew σ (-1) 0 0 0 R B K) (fl1 ((congrFun (fr_MrunAnew hc9 (by omega)) 25).trans hf5))) (by decide) rfl ?_
        refine sw_callVL (ci := 6) (as := []) (st := [.int (nI i50)]) (st2 := [.int (nI B), .int (nI i50)]) O (ct_AL_size hl (lm_5002 (σ := g_MrunAnew σ (-1) 0 0 0 R B K) (B := B) ((congrFun (fr_MrunAnew hc9 (by omega)) 900).trans hB) (by omega))) ce_Jx4a65c_size_8abf5 ml_X14_57 iv_Jx4a65c_size_8abf5 cl_Jx4a65c rfl (lm_5002 (σ := g_MrunAnew σ (-1) 0 0 0 R B K) (B := B) ((congrFun (fr_MrunAnew hc9 (by omega)) 900).trans hB) (by omega)) (xx_dt dd_X14_isLogged 33 rfl) (by decide) rfl rfl (Nat.le_of_ble_eq_true rfl) rfl ?_
        refine sw_icmp_ge (tgt := 87) O (xx_dt dd_X14_isLogged 34 rfl) (by decide) (fun q3 => ?_) (fun q3 => ?_)
        · exact absurd q3 (nI_ge (b := B) hi50 (by omega))
        · refine sw_aload_n O (xx_dt dd_X14_isLogged 35 rfl) rfl ?_
          refine sw_get (v := .ref (8000 + 2)) O (xx_dt dd_X14_isLogged 36 rfl) cl_X11 fl_X14_192 (lm_clk (σ := g_MrunAnew σ (-1) 0 0 0 R B K) (b := 8000) (.inr rfl) (fl1 hc9.1) (g := 2 * m9) hc9.2.2.2.1 (by omega) (w := 2 * m9) hc9.2.2.2.2.1 (by omega)) (by decide) rfl ?_
          refine sw_iload_n O (xx_dt dd_X14_isLogged 37 rfl) rfl ?_
          refine sw_iaload (v := .int ((g_MrunAnew σ (-1) 0 0 0 R B K) (8000 + 2) i50)) O (xx_dt dd_X14_isLogged 38 rfl) ((im_khe (z := z) (σ := g_MrunAnew σ (-1) 0 0 0 R B K) (b := 8000) (.inr rfl) hc9.1).get _) (pk_in i50 _ (by omega)) (by rw [nI_clamp (by omega)]; try exact rfl) ?_
          refine sw_aload_n O (xx_dt dd_X14_isLogged 39 rfl) rfl ?_
          refine sw_get (v := .ref 7000) O (xx_dt dd_X14_isLogged 40 rfl) cl_X14 fl_X14_141 (lm_modC (σ := g_MrunAnew σ (-1) 0 0 0 R B K) (fl1 ((congrFun (fr_MrunAnew hc9 (by omega)) 25).trans hf5))) (by decide) rfl ?_
          refine sw_get (v := .ref (7000 + 2)) O (xx_dt dd_X14_isLogged 41 rfl) cl_X11 fl_X14_192 (lm_clk (σ := g_MrunAnew σ (-1) 0 0 0 R B K) (b := 7000) (.inl rfl) (fl1 ((congrFun (fr_MrunAnew hc9 (by omega)) 20).trans hf)) (g := g) ((congrFun (fr_MrunAnew hc9 (by omega)) 23).trans hg) (by omega) (w := w) ((congrFun (fr_MrunAnew hc9 (by omega)) 24).trans hw) (by omega)) (by decide) rfl ?_
          refine sw_iload_n O (xx_dt dd_X14_isLogged 42 rfl) rfl ?_
          refine sw_iaload (v := .int (σ (7000 + 2) i50)) O (xx_dt dd_X14_isLogged 43 rfl) ((im_khe (z := z) (σ := g_MrunAnew σ (-1) 0 0 0 R B K) (b := 7000) (.inl rfl) ((congrFun (fr_MrunAnew hc9 (by omega)) 20).trans hf)).get _) (pk_in i50 _ (by omega)) (by rw [nI_clamp (by omega)]; exact (congrArg Value.int (congrFun (fr_MrunAnew hc9 (by omega)) i50))) ?_
          refine sw_icmp_eq (tgt := 81) O (xx_dt dd_X14_isLogged 44 rfl) (by decide) (fun q4 => ?_) (fun q4 => ?_)
          · refine sw_iinc (y := nI (i50 + 1)) (ls2 := [.ref 5000, .ref 8000, .int (nI (i50 + 1))]) O (xx_dt dd_X14_isLogged 47 rfl) rfl (nI_1 _) (by decide) rfl ?_
            refine sw_goto (tgt := 50) O (xx_dt dd_X14_isLogged 48 rfl) (by decide) ?_
            exact kk50 () (by simp only [if_pos q4])
          · refine sw_iconst (x := 0) O (xx_dt dd_X14_isLogged 45 rfl) (by decide) ?_
            have me9 : mem_eq σ (u2 (g_MrunAnew σ (-1) 0 0 0 R B K) 8000 20 0) := (mem_eq.frame8 (τ0 := σ) hme (fun q h9 => by rw [u2_ne (by omega)]; exact hc9.2.2.2.2.2 q h9) u2_v)
            exact sw_iretD (h' := setM z (u2 (g_MrunAnew σ (-1) 0 0 0 R B K) 8000 20 0) h) O (xx_dt dd_X14_isLogged 46 rfl) rfl rfl (drop8 hfr) (me9.cls hcl) (by rw [hh]; exact fun r hr => me9.dom hr) (by rw [hQ]; exact ⟨by rw [kr50 0 (by simp only [if_neg q4])], rfl⟩)
      · show SW Y _ _ (setM z (g_MrunAnew σ (-1) 0 0 0 R B K) h) 50 [.ref 5000, .ref 8000, .int (nI B)] []
        refine sw_iload_n O (xx_dt dd_X14_isLogged 30 rfl) rfl ?_
        refine sw_aload_n O (xx_dt dd_X14_isLogged 31 rfl) rfl ?_
        refine sw_get (v := .ref 5002) O (xx_dt dd_X14_isLogged 32 rfl) cl_X14 fl_X14_27 (lm_modC (σ := g_MrunAnew σ (-1) 0 0 0 R B K) (fl1 ((congrFun (fr_MrunAnew hc9 (by omega)) 25).trans hf5))) (by decide) rfl ?_
        refine sw_callVL (ci := 6) (as := []) (st := [.int (nI B)]) (st2 := [.int (nI B), .int (nI B)]) O (ct_AL_size hl (lm_5002 (σ := g_MrunAnew σ (-1) 0 0 0 R B K) (B := B) ((congrFun (fr_MrunAnew hc9 (by omega)) 900).trans hB) (by omega))) ce_Jx4a65c_size_8abf5 ml_X14_57 iv_Jx4a65c_size_8abf5 cl_Jx4a65c rfl (lm_5002 (σ := g_MrunAnew σ (-1) 0 0 0 R B K) (B := B) ((congrFun (fr_MrunAnew hc9 (by omega)) 900).trans hB) (by omega)) (xx_dt dd_X14_isLogged 33 rfl) (by decide) rfl rfl (Nat.le_of_ble_eq_true rfl) rfl ?_
        refine sw_icmp_ge (tgt := 87) O (xx_dt dd_X14_isLogged 34 rfl) (by decide) (fun q3 => ?_) (fun q3 => ?_)
        · refine sw_iconst (x := 1) O (xx_dt dd_X14_isLogged 49 rfl) (by decide) ?_
          have me9 : mem_eq σ (u2 (g_MrunAnew σ (-1) 0 0 0 R B K) 8000 20 0) := (mem_eq.frame8 (τ0 := σ) hme (fun q h9 => by rw [u2_ne (by omega)]; exact hc9.2.2.2.2.2 q h9) u2_v)
          exact sw_iretD (h' := setM z (u2 (g_MrunAnew σ (-1) 0 0 0 R B K) 8000 20 0) h) O (xx_dt dd_X14_isLogged 50 rfl) rfl rfl (drop8 hfr) (me9.cls hcl) (by rw [hh]; exact fun r hr => me9.dom hr) (by rw [hQ]; exact ⟨by unfold f_MisLogged; simp only [x_MisLogged_11, eN11, x_MisLogged_50, eN50], rfl⟩)
        · exact absurd (Int32.le_refl _) q3
      · unfold f_MisLogged; simp only [x_MisLogged_50, x_MisLogged_11, eN11, eN50]
    · exact absurd (Int32.le_refl _) q1
  · unfold f_MisLogged; simp only [x_MisLogged_11, eN11]
