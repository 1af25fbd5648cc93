/-! ===== a region's chart ===== -/
theorem setC_up {σ : XS9} {h : XH} {r : Nat} {c : XC} (hr : ¬ (1000 ≤ r ∧ r < 4000)) : setC σ (xx_up h r c) = xx_up (setC σ h) r c := by
  funext q
  unfold setC xx_up
  by_cases e : q = r
  · subst e
    rw [if_neg hr, if_pos rfl, if_pos rfl]
  · simp only [if_neg e]
theorem setC_out {σ : XS9} {h : XH} {r : Nat} (hr : ¬ (1000 ≤ r ∧ r < 4000)) : setC σ h r = h r := if_neg hr
def hB (h : XH) (c : Nat) (b : Int32) (G : Nat → Value) : XH := xx_up (xx_up h 4000 (1, 4, xx_sb 4001 c b)) 4001 (102, 16, G)
section
variable {σ : XS9} {h : XH} {c c' : Nat} {b b' : Int32} {G G' : Nat → Value}
theorem hB_r : setC σ (hB h c b G) 4000 = some (1, 4, xx_sb 4001 c b) := (setC_out (by omega)).trans ((xx_up_ne (by omega)).trans (xx_up_eq _ _ _))
theorem hB_v : setC σ (hB h c b G) 4001 = some (102, 16, G) := (setC_out (by omega)).trans (xx_up_eq _ _ _)
theorem hB_o {q : Nat} (h1 : ¬ (1000 ≤ q ∧ q < 4000)) (h2 : q ≠ 4000) (h3 : q ≠ 4001) : setC σ (hB h c b G) q = h q := (setC_out h1).trans ((xx_up_ne h3).trans (xx_up_ne h2))
theorem hB_up : xx_up (xx_up (setC σ (hB h c b G)) 4000 (1, 4, xx_sb 4001 c' b')) 4001 (102, 16, G') = setC σ (hB h c' b' G') := by
  rw [← setC_up (by omega), ← setC_up (by omega)]
  congr 1
  funext q
  unfold hB xx_up
  by_cases a1 : q = 4001 <;> by_cases a2 : q = 4000 <;> simp_all
theorem hB_set : xx_up (setC σ (hB h c b G)) 4000 (1, 4, xx_sb 4001 c' b') = setC σ (hB h c' b' G) := by
  rw [← setC_up (by omega)]
  congr 1
  funext q
  unfold hB xx_up
  by_cases a1 : q = 4001 <;> by_cases a2 : q = 4000 <;> simp_all
end
/-- the row of digits' signs -/
def xx_dig (h : XH) : Prop := ∃ F, h 4 = some (102, 100, F) ∧ ∀ x, x < 10 → F x = .int (48 + nI x)
theorem nar_dig {x : Nat} (hx : x < 10) : narrow .byte (.int (48 + nI x)) = .int (48 + nI x) := by
  have : ∀ a : Fin 10, (48 + nI a.1 : Int32).toInt8.toInt32 = 48 + nI a.1 := by decide +kernel
  exact congrArg Value.int (this ⟨x, hx⟩)
theorem dr_C {l : Launch} {σ : XS9} {h : XH} {c : Nat} {b : Int32} {G : Nat → Value} (hl : l.stackTraces = false) (hc : c < 16) {x : Int32} (hx : ¬ (255 : Int32) < x) (hx2 : x.toInt8.toInt32 = x) : XEx l m_J4_append_cf468 2 0 0 [.ref 4000, .int x] (setC σ (hB h c b G)) (some (.ref 4000)) (setC σ (hB h (c + 1) b (updV G c (.int x)))) := by
  have t := sb_appendC hl (h := setC σ (hB h c b G)) hB_r hB_v (by omega) (by omega) (by omega) hc hx hx2 (congrArg Value.int hx2)
  rw [hB_up] at t
  exact t
theorem dr_I {l : Launch} {σ : XS9} {h : XH} {c : Nat} {b : Int32} {G : Nat → Value} (hl : l.stackTraces = false) (hd : xx_dig h) (hc : c < 15) {x : Nat} (hx : x < 10) : XEx l m_J4_append_bf812 2 0 0 [.ref 4000, .int (nI x)] (setC σ (hB h c b G)) (some (.ref 4000)) (setC σ (hB h (c + 1) b (updV G c (.int (48 + nI x))))) := by
  obtain ⟨F, h4, hF⟩ := hd
  have t := sb_appendI hl (h := setC σ (hB h c b G)) hB_r hB_v (by omega) (by omega) (by omega) (by omega) hx ((hB_o (by omega) (by omega) (by omega)).trans h4) (hF x hx) (nar_dig hx)
  rw [hB_up] at t
  exact t
def sgn (z : Int32) : Int32 := if z = -1 then 45 else 48 + z
def gD (f : Nat → Int32) (G : Nat → Value) (s : Nat) : Nat → Value := fun j => if j < 2 * s - 1 then .int (if j % 2 = 1 then 44 else sgn (f (j / 2))) else G j
theorem gD_0 {f : Nat → Int32} {G : Nat → Value} : gD f G 0 = G := by
  funext j
  unfold gD
  rw [if_neg (by omega)]
theorem dr_1 {σ : XS9} {h : XH} {b : Int32} {f : Nat → Int32} {G : Nat → Value} {s : Nat} {w : Int32} (hs : 0 < s) (hw : w = sgn (f s)) : setC σ (hB h (2 * s - 1 + 1 + 1) b (updV (updV (gD f G s) (2 * s - 1) (.int 44)) (2 * s - 1 + 1) (.int w))) = setC σ (hB h (2 * (s + 1) - 1) b (gD f G (s + 1))) := by
  subst hw
  rw [show 2 * s - 1 + 1 + 1 = 2 * (s + 1) - 1 by omega, show 2 * s - 1 + 1 = 2 * s by omega]
  congr 2
  funext j
  unfold updV gD
  by_cases e : j = 2 * s
  · subst e
    rw [if_pos rfl, if_pos (by omega), if_neg (by omega), show 2 * s / 2 = s by omega]
  · rw [if_neg e]
    by_cases e2 : j = 2 * s - 1
    · rw [if_pos e2, if_pos (by omega), if_pos (by omega)]
    · rw [if_neg e2]
      by_cases e3 : j < 2 * s - 1
      · rw [if_pos e3, if_pos (show j < 2 * (s + 1) - 1 by omega)]
      · rw [if_neg e3, if_neg (by omega)]
theorem dr_0 {σ : XS9} {h : XH} {b : Int32} {f : Nat → Int32} {G : Nat → Value} {s : Nat} {w : Int32} (hs : s = 0) (hw : w = sgn (f s)) : setC σ (hB h (2 * s - 1 + 1) b (updV (gD f G s) (2 * s - 1) (.int w))) = setC σ (hB h (2 * (s + 1) - 1) b (gD f G (s + 1))) := by
  subst hs
  subst hw
  congr 2
  funext j
  unfold updV gD
  by_cases e : j = 0
  · subst e
    rfl
  · rw [if_neg (by omega), if_neg (by omega), if_neg (by omega)]
theorem ct_X3_draw {l : Launch} {h : XH} (hl : l.stackTraces = false) {σ : XS9} {b : Int32} {G : Nat → Value} {rg sp : Nat} (hr : rg < 5) (hsp : σ 1010 rg = nI sp) (hsp5 : sp ≤ 5) (hdg : xx_dig h) (hho : ∀ k, k < sp → σ (1141 + rg) k = -1 ∨ ∃ x, x < 10 ∧ σ (1141 + rg) k = nI x)  : XEx l m_X3_draw 3 0 0 [.ref 1005, .ref 1001, .int (nI rg), .ref 4000] (setC σ (hB h 0 b G)) (none) (setC σ (hB h (2 * sp - 1) b (gD (σ (1141 + rg)) G sp))) := by
  refine XMet.of hl rfl rfl (Nat.le_of_ble_eq_true rfl) (fun Y O hh hQ => ?_)
  show SW Y 0 0 (setC σ (hB h 0 b G)) 0 [.ref 1005, .ref 1001, .int (nI rg), .ref 4000, xx_d, xx_d] []
  refine sw_iconst (x := 0) O (xx_dt dd_X3_draw 0 rfl) (by decide) ?_
  refine sw_istore (ls2 := [.ref 1005, .ref 1001, .int (nI rg), .ref 4000, .int 0, xx_d]) O (xx_dt dd_X3_draw 1 rfl) (by decide) rfl ?_
  rw [show hB h 0 b G = hB h (2 * 0 - 1) b (gD (σ (1141 + rg)) G 0) by rw [gD_0]]
  refine sw_for (fun _ s => s + 1) (fun i s => s = i) (hp := fun s => setC σ (hB h (2 * s - 1) b (gD (σ (1141 + rg)) G s))) (hd := 3) (lc := fun i s => [.ref 1005, .ref 1001, .int (nI rg), .ref 4000, .int (nI i), xx_d]) (N := sp) (fun i s hi hP => ⟨by rw [hP], fun kk => ?_⟩) sp 0 0 (by omega) rfl (fun hP => ?_)
  · subst hP
    refine sw_iload O (xx_dt dd_X3_draw 2 rfl) rfl ?_
    refine sw_aload_n O (xx_dt dd_X3_draw 3 rfl) rfl ?_
    refine sw_get (v := .ref 1010) O (xx_dt dd_X3_draw 4 rfl) cl_X6 fl_X3_45 (ly_1001 σ (hB h (2 * s - 1) b (gD (σ (1141 + rg)) G s))) (by decide) rfl ?_
    refine sw_iload_n O (xx_dt dd_X3_draw 5 rfl) rfl ?_
    refine sw_iaload (v := .int (nI sp)) O (xx_dt dd_X3_draw 6 rfl) (ly_1010 σ (hB h (2 * s - 1) b (gD (σ (1141 + rg)) G s))) (pk_in rg _ (by omega)) (by rw [nI_clamp (by omega)]; exact (congrArg Value.int hsp)) ?_
    refine sw_icmp_ge (tgt := 66) O (xx_dt dd_X3_draw 7 rfl) (by decide) (fun q => absurd ((nI_leI (a := sp) (b := s) (by omega) (by omega)).mp q) (by omega)) (fun _ => ?_)
    refine sw_iload O (xx_dt dd_X3_draw 8 rfl) rfl ?_
    refine sw_if_le (tgt := 26) O (xx_dt dd_X3_draw 9 rfl) (by decide) (fun q => ?_) (fun q => ?_)
    · have hs0 : s = 0 := by have := (nI_leI (a := s) (b := 0) (by omega) (by omega)).mp q; omega
      refine sw_aload_n O (xx_dt dd_X3_draw 14 rfl) rfl ?_
      refine sw_get (v := .ref 1140) O (xx_dt dd_X3_draw 15 rfl) cl_X3 fl_X3_11 (ly_1005 σ (hB h (2 * s - 1) b (gD (σ (1141 + rg)) G s))) (by decide) rfl ?_
      refine sw_iload_n O (xx_dt dd_X3_draw 16 rfl) rfl ?_
      refine sw_aaload (v := .ref (1141 + rg)) O (xx_dt dd_X3_draw 17 rfl) (by omega) (by omega) (ly_1140 σ (hB h (2 * s - 1) b (gD (σ (1141 + rg)) G s))) (pk_in rg _ (by omega)) (by rw [nI_clamp (by omega)]; try exact rfl) ?_
      refine sw_iload O (xx_dt dd_X3_draw 18 rfl) rfl ?_
      refine sw_iaload (v := .int (σ (1141 + rg) s)) O (xx_dt dd_X3_draw 19 rfl) (lr_1140 σ (hB h (2 * s - 1) b (gD (σ (1141 + rg)) G s)) (k := rg) (by omega)) (pk_in s _ (by omega)) (by rw [nI_clamp (by omega)]; try exact rfl) ?_
      refine sw_istore (ls2 := [.ref 1005, .ref 1001, .int (nI rg), .ref 4000, .int (nI s), .int (σ (1141 + rg) s)]) O (xx_dt dd_X3_draw 20 rfl) (by decide) rfl ?_
      refine sw_iload O (xx_dt dd_X3_draw 21 rfl) rfl ?_
      refine sw_iconst (x := (-1)) O (xx_dt dd_X3_draw 22 rfl) (by decide) ?_
      refine sw_icmp_ne (tgt := 53) O (xx_dt dd_X3_draw 23 rfl) (by decide) (fun q2 => ?_) (fun q2 => ?_)
      · obtain ⟨x, hx, ex⟩ := (hho s hi).resolve_left q2
        have hsg : 48 + nI x = sgn (σ (1141 + rg) s) := by unfold sgn; rw [if_neg q2, ex]
        refine sw_aload_n O (xx_dt dd_X3_draw 29 rfl) rfl ?_
        rw [ex]
        refine sw_iload O (xx_dt dd_X3_draw 30 rfl) rfl ?_
        refine sw_callVx (as := [.int (nI x)]) (st := []) (st2 := [.ref 4000]) O (dr_I hl hdg (c := 2 * s - 1) (by omega) hx) ce_J4_append_bf812 ml_X3_68 iv_J4_append_bf812 cl_J4 rfl (hB_r) (xx_dt dd_X3_draw 31 rfl) (by decide) rfl rfl (Nat.le_of_ble_eq_true rfl) rfl ?_
        refine sw_pop O (xx_dt dd_X3_draw 32 rfl) rfl ?_
        rw [dr_0 hs0 hsg]
        refine sw_iinc (y := nI (s + 1)) (ls2 := [.ref 1005, .ref 1001, .int (nI rg), .ref 4000, .int (nI (s + 1)), .int (nI x)]) O (xx_dt dd_X3_draw 33 rfl) rfl (nI_1 _) (by decide) rfl ?_
        refine sw_goto (tgt := 3) O (xx_dt dd_X3_draw 34 rfl) (by decide) ?_
        refine sw_dum (ls2 := [.ref 1005, .ref 1001, .int (nI rg), .ref 4000, .int (nI (s + 1)), xx_d]) ⟨.inr rfl, .inr rfl, .inr rfl, .inr rfl, .inr rfl, .inl rfl, trivial⟩ ?_
        exact kk
      · have hsg : (45 : Int32) = sgn (σ (1141 + rg) s) := by unfold sgn; rw [if_pos q2]
        refine sw_aload_n O (xx_dt dd_X3_draw 24 rfl) rfl ?_
        refine sw_bipush (x := 45) O (xx_dt dd_X3_draw 25 rfl) (by decide) ?_
        refine sw_callVx (as := [.int 45]) (st := []) (st2 := [.ref 4000]) O (dr_C hl (c := 2 * s - 1) (by omega) (by decide) (by decide)) ce_J4_append_cf468 ml_X3_62 iv_J4_append_cf468 cl_J4 rfl (hB_r) (xx_dt dd_X3_draw 26 rfl) (by decide) rfl rfl (Nat.le_of_ble_eq_true rfl) rfl ?_
        refine sw_pop O (xx_dt dd_X3_draw 27 rfl) rfl ?_
        refine sw_goto (tgt := 60) O (xx_dt dd_X3_draw 28 rfl) (by decide) ?_
        rw [dr_0 hs0 hsg]
        refine sw_iinc (y := nI (s + 1)) (ls2 := [.ref 1005, .ref 1001, .int (nI rg), .ref 4000, .int (nI (s + 1)), .int (σ (1141 + rg) s)]) O (xx_dt dd_X3_draw 33 rfl) rfl (nI_1 _) (by decide) rfl ?_
        refine sw_goto (tgt := 3) O (xx_dt dd_X3_draw 34 rfl) (by decide) ?_
        refine sw_dum (ls2 := [.ref 1005, .ref 1001, .int (nI rg), .ref 4000, .int (nI (s + 1)), xx_d]) ⟨.inr rfl, .inr rfl, .inr rfl, .inr rfl, .inr rfl, .inl rfl, trivial⟩ ?_
        exact kk
    · have hs : 0 < s := Nat.pos_of_ne_zero (fun e => q (by rw [e]; exact Int32.le_refl _))
      refine sw_aload_n O (xx_dt dd_X3_draw 10 rfl) rfl ?_
      refine sw_bipush (x := 44) O (xx_dt dd_X3_draw 11 rfl) (by decide) ?_
      refine sw_callVx (as := [.int 44]) (st := []) (st2 := [.ref 4000]) O (dr_C hl (c := 2 * s - 1) (by omega) (by decide) (by decide)) ce_J4_append_cf468 ml_X3_62 iv_J4_append_cf468 cl_J4 rfl (hB_r) (xx_dt dd_X3_draw 12 rfl) (by decide) rfl rfl (Nat.le_of_ble_eq_true rfl) rfl ?_
      refine sw_pop O (xx_dt dd_X3_draw 13 rfl) rfl ?_
      refine sw_aload_n O (xx_dt dd_X3_draw 14 rfl) rfl ?_
      refine sw_get (v := .ref 1140) O (xx_dt dd_X3_draw 15 rfl) cl_X3 fl_X3_11 (ly_1005 σ (hB h (2 * s - 1 + 1) b (updV (gD (σ (1141 + rg)) G s) (2 * s - 1) (.int 44)))) (by decide) rfl ?_
      refine sw_iload_n O (xx_dt dd_X3_draw 16 rfl) rfl ?_
      refine sw_aaload (v := .ref (1141 + rg)) O (xx_dt dd_X3_draw 17 rfl) (by omega) (by omega) (ly_1140 σ (hB h (2 * s - 1 + 1) b (updV (gD (σ (1141 + rg)) G s) (2 * s - 1) (.int 44)))) (pk_in rg _ (by omega)) (by rw [nI_clamp (by omega)]; try exact rfl) ?_
      refine sw_iload O (xx_dt dd_X3_draw 18 rfl) rfl ?_
      refine sw_iaload (v := .int (σ (1141 + rg) s)) O (xx_dt dd_X3_draw 19 rfl) (lr_1140 σ (hB h (2 * s - 1 + 1) b (updV (gD (σ (1141 + rg)) G s) (2 * s - 1) (.int 44))) (k := rg) (by omega)) (pk_in s _ (by omega)) (by rw [nI_clamp (by omega)]; try exact rfl) ?_
      refine sw_istore (ls2 := [.ref 1005, .ref 1001, .int (nI rg), .ref 4000, .int (nI s), .int (σ (1141 + rg) s)]) O (xx_dt dd_X3_draw 20 rfl) (by decide) rfl ?_
      refine sw_iload O (xx_dt dd_X3_draw 21 rfl) rfl ?_
      refine sw_iconst (x := (-1)) O (xx_dt dd_X3_draw 22 rfl) (by decide) ?_
      refine sw_icmp_ne (tgt := 53) O (xx_dt dd_X3_draw 23 rfl) (by decide) (fun q2 => ?_) (fun q2 => ?_)
      · obtain ⟨x, hx, ex⟩ := (hho s hi).resolve_left q2
        have hsg : 48 + nI x = sgn (σ (1141 + rg) s) := by unfold sgn; rw [if_neg q2, ex]
        refine sw_aload_n O (xx_dt dd_X3_draw 29 rfl) rfl ?_
        rw [ex]
        refine sw_iload O (xx_dt dd_X3_draw 30 rfl) rfl ?_
        refine sw_callVx (as := [.int (nI x)]) (st := []) (st2 := [.ref 4000]) O (dr_I hl hdg (c := 2 * s - 1 + 1) (by omega) hx) ce_J4_append_bf812 ml_X3_68 iv_J4_append_bf812 cl_J4 rfl (hB_r) (xx_dt dd_X3_draw 31 rfl) (by decide) rfl rfl (Nat.le_of_ble_eq_true rfl) rfl ?_
        refine sw_pop O (xx_dt dd_X3_draw 32 rfl) rfl ?_
        rw [dr_1 hs hsg]
        refine sw_iinc (y := nI (s + 1)) (ls2 := [.ref 1005, .ref 1001, .int (nI rg), .ref 4000, .int (nI (s + 1)), .int (nI x)]) O (xx_dt dd_X3_draw 33 rfl) rfl (nI_1 _) (by decide) rfl ?_
        refine sw_goto (tgt := 3) O (xx_dt dd_X3_draw 34 rfl) (by decide) ?_
        refine sw_dum (ls2 := [.ref 1005, .ref 1001, .int (nI rg), .ref 4000, .int (nI (s + 1)), xx_d]) ⟨.inr rfl, .inr rfl, .inr rfl, .inr rfl, .inr rfl, .inl rfl, trivial⟩ ?_
        exact kk
      · have hsg : (45 : Int32) = sgn (σ (1141 + rg) s) := by unfold sgn; rw [if_pos q2]
        refine sw_aload_n O (xx_dt dd_X3_draw 24 rfl) rfl ?_
        refine sw_bipush (x := 45) O (xx_dt dd_X3_draw 25 rfl) (by decide) ?_
        refine sw_callVx (as := [.int 45]) (st := []) (st2 := [.ref 4000]) O (dr_C hl (c := 2 * s - 1 + 1) (by omega) (by decide) (by decide)) ce_J4_append_cf468 ml_X3_62 iv_J4_append_cf468 cl_J4 rfl (hB_r) (xx_dt dd_X3_draw 26 rfl) (by decide) rfl rfl (Nat.le_of_ble_eq_true rfl) rfl ?_
        refine sw_pop O (xx_dt dd_X3_draw 27 rfl) rfl ?_
        refine sw_goto (tgt := 60) O (xx_dt dd_X3_draw 28 rfl) (by decide) ?_
        rw [dr_1 hs hsg]
        refine sw_iinc (y := nI (s + 1)) (ls2 := [.ref 1005, .ref 1001, .int (nI rg), .ref 4000, .int (nI (s + 1)), .int (σ (1141 + rg) s)]) O (xx_dt dd_X3_draw 33 rfl) rfl (nI_1 _) (by decide) rfl ?_
        refine sw_goto (tgt := 3) O (xx_dt dd_X3_draw 34 rfl) (by decide) ?_
        refine sw_dum (ls2 := [.ref 1005, .ref 1001, .int (nI rg), .ref 4000, .int (nI (s + 1)), xx_d]) ⟨.inr rfl, .inr rfl, .inr rfl, .inr rfl, .inr rfl, .inl rfl, trivial⟩ ?_
        exact kk
  · have hx : ∀ f i s, s = i → xit (fun _ s => s + 1) f i s = i + f := by
      intro f
      induction f with
      | zero => intro i s e; exact e
      | succ f ih => intro i s e; show xit _ f (i + 1) (s + 1) = _; rw [ih (i + 1) (s + 1) (by rw [e])]; omega
    rw [hx sp 0 0 rfl, Nat.zero_add]
    refine sw_iload O (xx_dt dd_X3_draw 2 rfl) rfl ?_
    refine sw_aload_n O (xx_dt dd_X3_draw 3 rfl) rfl ?_
    refine sw_get (v := .ref 1010) O (xx_dt dd_X3_draw 4 rfl) cl_X6 fl_X3_45 (ly_1001 σ (hB h (2 * sp - 1) b (gD (σ (1141 + rg)) G sp))) (by decide) rfl ?_
    refine sw_iload_n O (xx_dt dd_X3_draw 5 rfl) rfl ?_
    refine sw_iaload (v := .int (nI sp)) O (xx_dt dd_X3_draw 6 rfl) (ly_1010 σ (hB h (2 * sp - 1) b (gD (σ (1141 + rg)) G sp))) (pk_in rg _ (by omega)) (by rw [nI_clamp (by omega)]; exact (congrArg Value.int hsp)) ?_
    refine sw_icmp_ge (tgt := 66) O (xx_dt dd_X3_draw 7 rfl) (by decide) (fun _ => ?_) (fun q => absurd (Int32.le_refl _) q)
    exact sw_ret O (xx_dt dd_X3_draw 35 rfl) rfl (by rw [hQ]; exact ⟨rfl, rfl⟩)
