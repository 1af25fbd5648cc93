section
/-! ===== the log run anew ===== -/
theorem fr_closeRound {σ : XS9} {b B R K : Nat} {x : Int32} {q : Nat} (h : q ≠ b ∧ q ≠ b + 1 ∧ q ≠ b + 2 ∧ q ≠ b + 3 ∧ q ≠ b + 4 ∧ q ≠ b + 6 ∧ q ≠ b + 7 ∧ q ≠ b + 8 ∧ q ≠ b + 101 + K ∧ q ≠ b + 201 + K ∧ q ≠ b + 301 + K) : g_closeRound σ b x B R K q = σ q := by
  have H0 : ∀ s0, (x_closeRound_92 σ b x B R K s0) q = s0 q := fun s0 => xit_keep (fun s : XS9 => s q) (fun i s => by (try dsimp only); (repeat' split) <;> first | rfl | simp (disch := omega) only [u2_ne, uR_ne, fr_fill, fr_useWaiver, fr_undoContradictions, fr_lowerEligible, fr_moveHeld, fr_raisePrices, fr_begin]) _ _ _
  unfold g_closeRound
  (repeat' split) <;> first | rfl | simp (disch := omega) only [u2_ne, uR_ne, fr_fill, fr_useWaiver, fr_undoContradictions, fr_lowerEligible, fr_moveHeld, fr_raisePrices, fr_begin, H0]
theorem rounds_closeRound {σ : XS9} {b B R K : Nat} {x : Int32} (hK : K < 60) : g_closeRound σ b x B R K b 9 = nI (K + 1) := by
  unfold g_closeRound
  have e : nI K < (60 : Int32) := nI_lt (a := K) (b := 60) hK (by omega)
  rw [if_pos e]
  split <;> exact u2_at
theorem rounds_begin {σ : XS9} {b : Nat} : g_begin σ b b 9 = nI 0 := by
  unfold g_begin
  rw [u2_oi (by decide), u2_at]
  rfl
def x_runLog_11 (σ : XS9) (b c : Nat) (x : Int32) (j r : Nat) (y : Int32) (B R K : Nat) (s0 : XS9 × Int32) : XS9 × Int32 := xitB (fun i11 s11 => (if s11.2 = 0 then (if (nI (i11 + 1)) = x then .inl (g_closeRound (u2 (u2 (uR s11.1 (b + 3) (va_cpy (s11.1 (c + 201 + i11)) (s11.1 (b + 3)) 0 0 6)) (b + 3) j (f_replaced ((uR s11.1 (b + 3) (va_cpy (s11.1 (c + 201 + i11)) (s11.1 (b + 3)) 0 0 6)) (b + 3) j) r y)) b 12 (s11.1 (c + 8) i11)) b (s11.1 (c + 7) i11) B R i11, f_closeRound (u2 (u2 (uR s11.1 (b + 3) (va_cpy (s11.1 (c + 201 + i11)) (s11.1 (b + 3)) 0 0 6)) (b + 3) j (f_replaced ((uR s11.1 (b + 3) (va_cpy (s11.1 (c + 201 + i11)) (s11.1 (b + 3)) 0 0 6)) (b + 3) j) r y)) b 12 (s11.1 (c + 8) i11)) b (s11.1 (c + 7) i11) B R i11) else .inl (g_closeRound (u2 (uR s11.1 (b + 3) (va_cpy (s11.1 (c + 201 + i11)) (s11.1 (b + 3)) 0 0 6)) b 12 (s11.1 (c + 8) i11)) b (s11.1 (c + 7) i11) B R i11, f_closeRound (u2 (uR s11.1 (b + 3) (va_cpy (s11.1 (c + 201 + i11)) (s11.1 (b + 3)) 0 0 6)) b 12 (s11.1 (c + 8) i11)) b (s11.1 (c + 7) i11) B R i11)) else .inr (s11.1, s11.2))) K 0 s0
def g_runLog (σ : XS9) (b c : Nat) (x : Int32) (j r : Nat) (y : Int32) (B R K : Nat) : XS9 := (x_runLog_11 σ b c x j r y B R K (g_begin σ b, 0)).1
theorem ct_X1_runLog {l : Launch} {h : XH} (hl : l.stackTraces = false) {σ : XS9} {b c : Nat} (hb : b = 2000 ∨ b = 3000) (hc : c = 2000 ∨ c = 3000) (hbc : b ≠ c) {B : Nat} (hB : σ 1001 9 = nI B) (hB6 : B ≤ 6) {R : Nat} (hR : σ 1001 4 = nI R) (hR5 : R ≤ 5) {K : Nat} (hK : σ c 9 = nI K) (hK60 : K ≤ 60) {x y : Int32} {j r : Nat} (hj : j < 6) (hr : r < 5) : XEx l m_X1_runLog 4 0 0 [.ref b, .ref 1001, .ref c, .int x, .int (nI j), .int (nI r), .int y] (setC σ h) (none) (setC (g_runLog σ b c x j r y B R K) h) := by
  refine XMet.of hl rfl rfl (Nat.le_of_ble_eq_true rfl) (fun Y O hh hQ => ?_)
  show SW Y 0 0 (setC σ h) 0 [.ref b, .ref 1001, .ref c, .int x, .int (nI j), .int (nI r), .int y, xx_d, xx_d] []
  refine sw_aload_n O (xx_dt dd_X1_runLog 0 rfl) rfl ?_
  refine sw_aload_n O (xx_dt dd_X1_runLog 1 rfl) rfl ?_
  refine sw_callVx (as := [.ref 1001]) (st := []) (st2 := []) O (ct_X1_begin hl (σ := σ) hb) ce_X1_begin ml_X1_156 iv_X1_begin cl_X1 rfl (lk_0 σ h hb) (xx_dt dd_X1_runLog 2 rfl) (by decide) rfl rfl (Nat.le_of_ble_eq_true rfl) rfl ?_
  refine sw_iconst (x := 0) O (xx_dt dd_X1_runLog 3 rfl) (by decide) ?_
  refine sw_istore (ls2 := [.ref b, .ref 1001, .ref c, .int x, .int (nI j), .int (nI r), .int y, .int 0, xx_d]) O (xx_dt dd_X1_runLog 4 rfl) (by decide) rfl ?_
  refine sw_iconst (x := 0) O (xx_dt dd_X1_runLog 5 rfl) (by decide) ?_
  refine sw_istore (ls2 := [.ref b, .ref 1001, .ref c, .int x, .int (nI j), .int (nI r), .int y, .int 0, .int 0]) O (xx_dt dd_X1_runLog 6 rfl) (by decide) rfl ?_
  refine sw_forB (fun i11 s11 => (if s11.2 = 0 then (if (nI (i11 + 1)) = x then .inl (g_closeRound (u2 (u2 (uR s11.1 (b + 3) (va_cpy (s11.1 (c + 201 + i11)) (s11.1 (b + 3)) 0 0 6)) (b + 3) j (f_replaced ((uR s11.1 (b + 3) (va_cpy (s11.1 (c + 201 + i11)) (s11.1 (b + 3)) 0 0 6)) (b + 3) j) r y)) b 12 (s11.1 (c + 8) i11)) b (s11.1 (c + 7) i11) B R i11, f_closeRound (u2 (u2 (uR s11.1 (b + 3) (va_cpy (s11.1 (c + 201 + i11)) (s11.1 (b + 3)) 0 0 6)) (b + 3) j (f_replaced ((uR s11.1 (b + 3) (va_cpy (s11.1 (c + 201 + i11)) (s11.1 (b + 3)) 0 0 6)) (b + 3) j) r y)) b 12 (s11.1 (c + 8) i11)) b (s11.1 (c + 7) i11) B R i11) else .inl (g_closeRound (u2 (uR s11.1 (b + 3) (va_cpy (s11.1 (c + 201 + i11)) (s11.1 (b + 3)) 0 0 6)) b 12 (s11.1 (c + 8) i11)) b (s11.1 (c + 7) i11) B R i11, f_closeRound (u2 (uR s11.1 (b + 3) (va_cpy (s11.1 (c + 201 + i11)) (s11.1 (b + 3)) 0 0 6)) b 12 (s11.1 (c + 8) i11)) b (s11.1 (c + 7) i11) B R i11)) else .inr (s11.1, s11.2))) (fun i11 s11 => (s11.1 1001 9 = nI B ∧ s11.1 1001 4 = nI R ∧ s11.1 c 9 = nI K) ∧ s11.1 b 9 = nI i11) (fun s11 => s11.1 1001 9 = nI B ∧ s11.1 1001 4 = nI R ∧ s11.1 c 9 = nI K) (hp := fun s11 => setC s11.1 h) (hd := 11) (lc := fun i11 s11 => [.ref b, .ref 1001, .ref c, .int x, .int (nI j), .int (nI r), .int y, .int s11.2, .int (nI i11)]) (ex := 103) (lx := fun s11 => [.ref b, .ref 1001, .ref c, .int x, .int (nI j), .int (nI r), .int y, .int s11.2, xx_d]) (N := K) (fun i11 s11 hi11 hP11 => ⟨⟨fun s' e' => ⟨(by revert e'; (try dsimp only); (repeat' split) <;> intro e' <;> first | (cases e'; done) | (injection e' with e'; subst e'; first | exact hP11.1 | (simp (disch := omega) only [u2_ne, uR_ne, fr_fill, fr_useWaiver, fr_undoContradictions, fr_lowerEligible, fr_moveHeld, fr_raisePrices, fr_begin, fr_closeRound]; exact hP11.1))), (by revert e'; (try dsimp only); (repeat' split) <;> intro e' <;> first | (cases e'; done) | (injection e' with e'; subst e'; exact rounds_closeRound (by omega)))⟩, (by intro s' e'; revert e'; (try dsimp only); (repeat' split) <;> intro e' <;> first | (cases e'; done) | (injection e' with e'; subst e'; first | exact hP11.1 | (simp (disch := omega) only [u2_ne, uR_ne, fr_fill, fr_useWaiver, fr_undoContradictions, fr_lowerEligible, fr_moveHeld, fr_raisePrices, fr_begin, fr_closeRound]; exact hP11.1)))⟩, fun kk11 kb11 => ?_⟩) (fun s11 hP11 => ⟨hP11.1, fun kx11 => ?_⟩) K 0 (g_begin σ b, 0) (by omega) (⟨⟨((congrFun (fr_begin (by omega)) 9).trans hB), ((congrFun (fr_begin (by omega)) 4).trans hR), ((congrFun (fr_begin (by omega)) 9).trans hK)⟩, rounds_begin⟩) (fun hP11 => ?_)
  · refine sw_iload O (xx_dt dd_X1_runLog 7 rfl) rfl ?_
    refine sw_aload_n O (xx_dt dd_X1_runLog 8 rfl) rfl ?_
    refine sw_get (v := .int (nI K)) O (xx_dt dd_X1_runLog 9 rfl) cl_X1 fl_X1_65 (lk_0 s11.1 h hc) (by decide) (congrArg Value.int hP11.1.2.2) ?_
    refine sw_icmp_ge (tgt := 103) O (xx_dt dd_X1_runLog 10 rfl) (by decide) (fun q1 => ?_) (fun q1 => ?_)
    · exact absurd q1 (nI_ge (b := K) hi11 (by omega))
    · refine sw_iload O (xx_dt dd_X1_runLog 11 rfl) rfl ?_
      refine sw_if_ne (tgt := 103) O (xx_dt dd_X1_runLog 12 rfl) (by decide) (fun q2 => ?_) (fun q2 => ?_)
      · refine sw_dum (ls2 := [.ref b, .ref 1001, .ref c, .int x, .int (nI j), .int (nI r), .int y, .int s11.2, xx_d]) ⟨.inr rfl, .inr rfl, .inr rfl, .inr rfl, .inr rfl, .inr rfl, .inr rfl, .inr rfl, .inl rfl, trivial⟩ ?_
        exact kb11 (s11.1, s11.2) (by simp only [if_neg q2])
      · refine sw_aload_n O (xx_dt dd_X1_runLog 13 rfl) rfl ?_
        refine sw_get (v := .ref (c + 200)) O (xx_dt dd_X1_runLog 14 rfl) cl_X1 fl_X1_35 (lk_0 s11.1 h hc) (by decide) rfl ?_
        refine sw_iload O (xx_dt dd_X1_runLog 15 rfl) rfl ?_
        refine sw_aaload (v := .ref (c + 201 + i11)) O (xx_dt dd_X1_runLog 16 rfl) (by omega) (by omega) (lk_200 s11.1 h hc) (pk_in i11 _ (by omega)) (by rw [nI_clamp (by omega)]; try exact rfl) ?_
        refine sw_iconst (x := 0) O (xx_dt dd_X1_runLog 17 rfl) (by decide) ?_
        refine sw_aload_n O (xx_dt dd_X1_runLog 18 rfl) rfl ?_
        refine sw_get (v := .ref (b + 3)) O (xx_dt dd_X1_runLog 19 rfl) cl_X1 fl_X1_18 (lk_0 s11.1 h hb) (by decide) rfl ?_
        refine sw_iconst (x := 0) O (xx_dt dd_X1_runLog 20 rfl) (by decide) ?_
        refine sw_bipush (x := 6) O (xx_dt dd_X1_runLog 21 rfl) (by decide) ?_
        refine sw_copy (h2' := setC (uR s11.1 (b + 3) (va_cpy (s11.1 (c + 201 + i11)) (s11.1 (b + 3)) 0 0 6)) h) O ay_X1_52 (xx_dt dd_X1_runLog 22 rfl) ((ikr_200 hc (k := i11) (by omega)).getE rfl) ((ik_3 hb).getE rfl) (by omega) (by decide) (by decide) (by decide) (by decide) (by decide) (by omega) (by decide +kernel) (ik_3 hb).putR ?_
        refine sw_iload O (xx_dt dd_X1_runLog 23 rfl) rfl ?_
        refine sw_iconst (x := 1) O (xx_dt dd_X1_runLog 24 rfl) (by decide) ?_
        refine sw_iadd O (xx_dt dd_X1_runLog 25 rfl) ?_
        rw [nI_a1 i11]
        refine sw_iload_n O (xx_dt dd_X1_runLog 26 rfl) rfl ?_
        refine sw_icmp_ne (tgt := 72) O (xx_dt dd_X1_runLog 27 rfl) (by decide) (fun q3 => ?_) (fun q3 => ?_)
        · refine sw_aload_n O (xx_dt dd_X1_runLog 39 rfl) rfl ?_
          refine sw_aload_n O (xx_dt dd_X1_runLog 40 rfl) rfl ?_
          refine sw_get (v := .ref (c + 8)) O (xx_dt dd_X1_runLog 41 rfl) cl_X1 fl_X1_44 (lk_0 (uR s11.1 (b + 3) (va_cpy (s11.1 (c + 201 + i11)) (s11.1 (b + 3)) 0 0 6)) h hc) (by decide) rfl ?_
          refine sw_iload O (xx_dt dd_X1_runLog 42 rfl) rfl ?_
          refine sw_iaload (v := .int (s11.1 (c + 8) i11)) O (xx_dt dd_X1_runLog 43 rfl) (lk_8 (uR s11.1 (b + 3) (va_cpy (s11.1 (c + 201 + i11)) (s11.1 (b + 3)) 0 0 6)) h hc) (pk_in i11 _ (by omega)) (by rw [nI_clamp (by omega)]; exact (congrArg Value.int (congrFun (uR_ne (by omega)) i11))) ?_
          refine sw_put (h2 := setC (u2 (uR s11.1 (b + 3) (va_cpy (s11.1 (c + 201 + i11)) (s11.1 (b + 3)) 0 0 6)) b 12 (s11.1 (c + 8) i11)) h) O (xx_dt dd_X1_runLog 44 rfl) cl_X1 fl_X1_69 (lk_0 (uR s11.1 (b + 3) (va_cpy (s11.1 (c + 201 + i11)) (s11.1 (b + 3)) 0 0 6)) h hb) (by decide) (by omega) rfl (fun _ => ⟨rfl, rfl⟩) (pk_f12 hb) ?_
          refine sw_aload_n O (xx_dt dd_X1_runLog 45 rfl) rfl ?_
          refine sw_aload_n O (xx_dt dd_X1_runLog 46 rfl) rfl ?_
          refine sw_aload_n O (xx_dt dd_X1_runLog 47 rfl) rfl ?_
          refine sw_get (v := .ref (c + 7)) O (xx_dt dd_X1_runLog 48 rfl) cl_X1 fl_X1_41 (lk_0 (u2 (uR s11.1 (b + 3) (va_cpy (s11.1 (c + 201 + i11)) (s11.1 (b + 3)) 0 0 6)) b 12 (s11.1 (c + 8) i11)) h hc) (by decide) rfl ?_
          refine sw_iload O (xx_dt dd_X1_runLog 49 rfl) rfl ?_
          refine sw_iaload (v := .int (s11.1 (c + 7) i11)) O (xx_dt dd_X1_runLog 50 rfl) (lk_7 (u2 (uR s11.1 (b + 3) (va_cpy (s11.1 (c + 201 + i11)) (s11.1 (b + 3)) 0 0 6)) b 12 (s11.1 (c + 8) i11)) h hc) (pk_in i11 _ (by omega)) (by rw [nI_clamp (by omega)]; exact (congrArg Value.int ((congrFun (u2_ne (by omega)) i11).trans (congrFun (uR_ne (by omega)) i11)))) ?_
          refine sw_callVx (as := [.ref 1001, .int (s11.1 (c + 7) i11)]) (st := []) (st2 := [.int (f_closeRound (u2 (uR s11.1 (b + 3) (va_cpy (s11.1 (c + 201 + i11)) (s11.1 (b + 3)) 0 0 6)) b 12 (s11.1 (c + 8) i11)) b (s11.1 (c + 7) i11) B R i11)]) O (ct_X1_closeRound hl (σ := u2 (uR s11.1 (b + 3) (va_cpy (s11.1 (c + 201 + i11)) (s11.1 (b + 3)) 0 0 6)) b 12 (s11.1 (c + 8) i11)) hb (B := B) (((congrFun (u2_ne (by omega)) 9).trans (congrFun (uR_ne (by omega)) 9)).trans hP11.1.1) (by omega) (R := R) (((congrFun (u2_ne (by omega)) 4).trans (congrFun (uR_ne (by omega)) 4)).trans hP11.1.2.1) (by omega) (K := i11) (((u2_oi (by decide)).trans (congrFun (uR_ne (by omega)) 9)).trans hP11.2) (by omega) (x := s11.1 (c + 7) i11)) ce_X1_closeRound ml_X1_159 iv_X1_closeRound cl_X1 rfl (lk_0 (u2 (uR s11.1 (b + 3) (va_cpy (s11.1 (c + 201 + i11)) (s11.1 (b + 3)) 0 0 6)) b 12 (s11.1 (c + 8) i11)) h hb) (xx_dt dd_X1_runLog 51 rfl) (by decide) rfl rfl (Nat.le_of_ble_eq_true rfl) rfl ?_
          refine sw_istore (ls2 := [.ref b, .ref 1001, .ref c, .int x, .int (nI j), .int (nI r), .int y, .int (f_closeRound (u2 (uR s11.1 (b + 3) (va_cpy (s11.1 (c + 201 + i11)) (s11.1 (b + 3)) 0 0 6)) b 12 (s11.1 (c + 8) i11)) b (s11.1 (c + 7) i11) B R i11), .int (nI i11)]) O (xx_dt dd_X1_runLog 52 rfl) (by decide) rfl ?_
          refine sw_iinc (y := nI (i11 + 1)) (ls2 := [.ref b, .ref 1001, .ref c, .int x, .int (nI j), .int (nI r), .int y, .int (f_closeRound (u2 (uR s11.1 (b + 3) (va_cpy (s11.1 (c + 201 + i11)) (s11.1 (b + 3)) 0 0 6)) b 12 (s11.1 (c + 8) i11)) b (s11.1 (c + 7) i11) B R i11), .int (nI (i11 + 1))]) O (xx_dt dd_X1_runLog 53 rfl) rfl (nI_1 _) (by decide) rfl ?_
          refine sw_goto (tgt := 11) O (xx_dt dd_X1_runLog 54 rfl) (by decide) ?_
          exact kk11 (g_closeRound (u2 (uR s11.1 (b + 3) (va_cpy (s11.1 (c + 201 + i11)) (s11.1 (b + 3)) 0 0 6)) b 12 (s11.1 (c + 8) i11)) b (s11.1 (c + 7) i11) B R i11, f_closeRound (u2 (uR s11.1 (b + 3) (va_cpy (s11.1 (c + 201 + i11)) (s11.1 (b + 3)) 0 0 6)) b 12 (s11.1 (c + 8) i11)) b (s11.1 (c + 7) i11) B R i11) (by simp only [if_pos q2, if_neg q3])
        · refine sw_aload_n O (xx_dt dd_X1_runLog 28 rfl) rfl ?_
          refine sw_get (v := .ref (b + 3)) O (xx_dt dd_X1_runLog 29 rfl) cl_X1 fl_X1_18 (lk_0 (uR s11.1 (b + 3) (va_cpy (s11.1 (c + 201 + i11)) (s11.1 (b + 3)) 0 0 6)) h hb) (by decide) rfl ?_
          refine sw_iload O (xx_dt dd_X1_runLog 30 rfl) rfl ?_
          refine sw_aload_n O (xx_dt dd_X1_runLog 31 rfl) rfl ?_
          refine sw_get (v := .ref (b + 3)) O (xx_dt dd_X1_runLog 32 rfl) cl_X1 fl_X1_18 (lk_0 (uR s11.1 (b + 3) (va_cpy (s11.1 (c + 201 + i11)) (s11.1 (b + 3)) 0 0 6)) h hb) (by decide) rfl ?_
          refine sw_iload O (xx_dt dd_X1_runLog 33 rfl) rfl ?_
          refine sw_iaload (v := .int ((uR s11.1 (b + 3) (va_cpy (s11.1 (c + 201 + i11)) (s11.1 (b + 3)) 0 0 6)) (b + 3) j)) O (xx_dt dd_X1_runLog 34 rfl) (lk_3 (uR s11.1 (b + 3) (va_cpy (s11.1 (c + 201 + i11)) (s11.1 (b + 3)) 0 0 6)) h hb) (pk_in j _ (by omega)) (by rw [nI_clamp (by omega)]; try exact rfl) ?_
          refine sw_iload O (xx_dt dd_X1_runLog 35 rfl) rfl ?_
          refine sw_iload O (xx_dt dd_X1_runLog 36 rfl) rfl ?_
          refine sw_callSx (as := [.int ((uR s11.1 (b + 3) (va_cpy (s11.1 (c + 201 + i11)) (s11.1 (b + 3)) 0 0 6)) (b + 3) j), .int (nI r), .int y]) (st := [.int (nI j), .ref (b + 3)]) (st2 := [.int (f_replaced ((uR s11.1 (b + 3) (va_cpy (s11.1 (c + 201 + i11)) (s11.1 (b + 3)) 0 0 6)) (b + 3) j) r y), .int (nI j), .ref (b + 3)]) O (ct_X0_replaced hl (c := (uR s11.1 (b + 3) (va_cpy (s11.1 (c + 201 + i11)) (s11.1 (b + 3)) 0 0 6)) (b + 3) j) (m := y) (r := r) (by omega)) ce_X0_replaced ml_X1_78 st_X0_replaced (xx_dt dd_X1_runLog 37 rfl) (by decide) rfl rfl (Nat.le_of_ble_eq_true rfl) rfl ?_
          refine sw_iastore (h2 := setC (u2 (uR s11.1 (b + 3) (va_cpy (s11.1 (c + 201 + i11)) (s11.1 (b + 3)) 0 0 6)) (b + 3) j (f_replaced ((uR s11.1 (b + 3) (va_cpy (s11.1 (c + 201 + i11)) (s11.1 (b + 3)) 0 0 6)) (b + 3) j) r y)) h) O (xx_dt dd_X1_runLog 38 rfl) (lk_3 (uR s11.1 (b + 3) (va_cpy (s11.1 (c + 201 + i11)) (s11.1 (b + 3)) 0 0 6)) h hb) (pk_in j _ (by omega)) (by omega) (by rw [nI_clamp (by omega)]; exact (pk_a3 hb)) ?_
          refine sw_aload_n O (xx_dt dd_X1_runLog 39 rfl) rfl ?_
          refine sw_aload_n O (xx_dt dd_X1_runLog 40 rfl) rfl ?_
          refine sw_get (v := .ref (c + 8)) O (xx_dt dd_X1_runLog 41 rfl) cl_X1 fl_X1_44 (lk_0 (u2 (uR s11.1 (b + 3) (va_cpy (s11.1 (c + 201 + i11)) (s11.1 (b + 3)) 0 0 6)) (b + 3) j (f_replaced ((uR s11.1 (b + 3) (va_cpy (s11.1 (c + 201 + i11)) (s11.1 (b + 3)) 0 0 6)) (b + 3) j) r y)) h hc) (by decide) rfl ?_
          refine sw_iload O (xx_dt dd_X1_runLog 42 rfl) rfl ?_
          refine sw_iaload (v := .int (s11.1 (c + 8) i11)) O (xx_dt dd_X1_runLog 43 rfl) (lk_8 (u2 (uR s11.1 (b + 3) (va_cpy (s11.1 (c + 201 + i11)) (s11.1 (b + 3)) 0 0 6)) (b + 3) j (f_replaced ((uR s11.1 (b + 3) (va_cpy (s11.1 (c + 201 + i11)) (s11.1 (b + 3)) 0 0 6)) (b + 3) j) r y)) h hc) (pk_in i11 _ (by omega)) (by rw [nI_clamp (by omega)]; exact (congrArg Value.int ((congrFun (u2_ne (by omega)) i11).trans (congrFun (uR_ne (by omega)) i11)))) ?_
          refine sw_put (h2 := setC (u2 (u2 (uR s11.1 (b + 3) (va_cpy (s11.1 (c + 201 + i11)) (s11.1 (b + 3)) 0 0 6)) (b + 3) j (f_replaced ((uR s11.1 (b + 3) (va_cpy (s11.1 (c + 201 + i11)) (s11.1 (b + 3)) 0 0 6)) (b + 3) j) r y)) b 12 (s11.1 (c + 8) i11)) h) O (xx_dt dd_X1_runLog 44 rfl) cl_X1 fl_X1_69 (lk_0 (u2 (uR s11.1 (b + 3) (va_cpy (s11.1 (c + 201 + i11)) (s11.1 (b + 3)) 0 0 6)) (b + 3) j (f_replaced ((uR s11.1 (b + 3) (va_cpy (s11.1 (c + 201 + i11)) (s11.1 (b + 3)) 0 0 6)) (b + 3) j) r y)) h hb) (by decide) (by omega) rfl (fun _ => ⟨rfl, rfl⟩) (pk_f12 hb) ?_
          refine sw_aload_n O (xx_dt dd_X1_runLog 45 rfl) rfl ?_
          refine sw_aload_n O (xx_dt dd_X1_runLog 46 rfl) rfl ?_
          refine sw_aload_n O (xx_dt dd_X1_runLog 47 rfl) rfl ?_
          refine sw_get (v := .ref (c + 7)) O (xx_dt dd_X1_runLog 48 rfl) cl_X1 fl_X1_41 (lk_0 (u2 (u2 (uR s11.1 (b + 3) (va_cpy (s11.1 (c + 201 + i11)) (s11.1 (b + 3)) 0 0 6)) (b + 3) j (f_replaced ((uR s11.1 (b + 3) (va_cpy (s11.1 (c + 201 + i11)) (s11.1 (b + 3)) 0 0 6)) (b + 3) j) r y)) b 12 (s11.1 (c + 8) i11)) h hc) (by decide) rfl ?_
          refine sw_iload O (xx_dt dd_X1_runLog 49 rfl) rfl ?_
          refine sw_iaload (v := .int (s11.1 (c + 7) i11)) O (xx_dt dd_X1_runLog 50 rfl) (lk_7 (u2 (u2 (uR s11.1 (b + 3) (va_cpy (s11.1 (c + 201 + i11)) (s11.1 (b + 3)) 0 0 6)) (b + 3) j (f_replaced ((uR s11.1 (b + 3) (va_cpy (s11.1 (c + 201 + i11)) (s11.1 (b + 3)) 0 0 6)) (b + 3) j) r y)) b 12 (s11.1 (c + 8) i11)) h hc) (pk_in i11 _ (by omega)) (by rw [nI_clamp (by omega)]; exact (congrArg Value.int (((congrFun (u2_ne (by omega)) i11).trans (congrFun (u2_ne (by omega)) i11)).trans (congrFun (uR_ne (by omega)) i11)))) ?_
          refine sw_callVx (as := [.ref 1001, .int (s11.1 (c + 7) i11)]) (st := []) (st2 := [.int (f_closeRound (u2 (u2 (uR s11.1 (b + 3) (va_cpy (s11.1 (c + 201 + i11)) (s11.1 (b + 3)) 0 0 6)) (b + 3) j (f_replaced ((uR s11.1 (b + 3) (va_cpy (s11.1 (c + 201 + i11)) (s11.1 (b + 3)) 0 0 6)) (b + 3) j) r y)) b 12 (s11.1 (c + 8) i11)) b (s11.1 (c + 7) i11) B R i11)]) O (ct_X1_closeRound hl (σ := u2 (u2 (uR s11.1 (b + 3) (va_cpy (s11.1 (c + 201 + i11)) (s11.1 (b + 3)) 0 0 6)) (b + 3) j (f_replaced ((uR s11.1 (b + 3) (va_cpy (s11.1 (c + 201 + i11)) (s11.1 (b + 3)) 0 0 6)) (b + 3) j) r y)) b 12 (s11.1 (c + 8) i11)) hb (B := B) ((((congrFun (u2_ne (by omega)) 9).trans (congrFun (u2_ne (by omega)) 9)).trans (congrFun (uR_ne (by omega)) 9)).trans hP11.1.1) (by omega) (R := R) ((((congrFun (u2_ne (by omega)) 4).trans (congrFun (u2_ne (by omega)) 4)).trans (congrFun (uR_ne (by omega)) 4)).trans hP11.1.2.1) (by omega) (K := i11) ((((u2_oi (by decide)).trans (congrFun (u2_ne (by omega)) 9)).trans (congrFun (uR_ne (by omega)) 9)).trans hP11.2) (by omega) (x := s11.1 (c + 7) i11)) ce_X1_closeRound ml_X1_159 iv_X1_closeRound cl_X1 rfl (lk_0 (u2 (u2 (uR s11.1 (b + 3) (va_cpy (s11.1 (c + 201 + i11)) (s11.1 (b + 3)) 0 0 6)) (b + 3) j (f_replaced ((uR s11.1 (b + 3) (va_cpy (s11.1 (c + 201 + i11)) (s11.1 (b + 3)) 0 0 6)) (b + 3) j) r y)) b 12 (s11.1 (c + 8) i11)) h hb) (xx_dt dd_X1_runLog 51 rfl) (by decide) rfl rfl (Nat.le_of_ble_eq_true rfl) rfl ?_
          refine sw_istore (ls2 := [.ref b, .ref 1001, .ref c, .int x, .int (nI j), .int (nI r), .int y, .int (f_closeRound (u2 (u2 (uR s11.1 (b + 3) (va_cpy (s11.1 (c + 201 + i11)) (s11.1 (b + 3)) 0 0 6)) (b + 3) j (f_replaced ((uR s11.1 (b + 3) (va_cpy (s11.1 (c + 201 + i11)) (s11.1 (b + 3)) 0 0 6)) (b + 3) j) r y)) b 12 (s11.1 (c + 8) i11)) b (s11.1 (c + 7) i11) B R i11), .int (nI i11)]) O (xx_dt dd_X1_runLog 52 rfl) (by decide) rfl ?_
          refine sw_iinc (y := nI (i11 + 1)) (ls2 := [.ref b, .ref 1001, .ref c, .int x, .int (nI j), .int (nI r), .int y, .int (f_closeRound (u2 (u2 (uR s11.1 (b + 3) (va_cpy (s11.1 (c + 201 + i11)) (s11.1 (b + 3)) 0 0 6)) (b + 3) j (f_replaced ((uR s11.1 (b + 3) (va_cpy (s11.1 (c + 201 + i11)) (s11.1 (b + 3)) 0 0 6)) (b + 3) j) r y)) b 12 (s11.1 (c + 8) i11)) b (s11.1 (c + 7) i11) B R i11), .int (nI (i11 + 1))]) O (xx_dt dd_X1_runLog 53 rfl) rfl (nI_1 _) (by decide) rfl ?_
          refine sw_goto (tgt := 11) O (xx_dt dd_X1_runLog 54 rfl) (by decide) ?_
          exact kk11 (g_closeRound (u2 (u2 (uR s11.1 (b + 3) (va_cpy (s11.1 (c + 201 + i11)) (s11.1 (b + 3)) 0 0 6)) (b + 3) j (f_replaced ((uR s11.1 (b + 3) (va_cpy (s11.1 (c + 201 + i11)) (s11.1 (b + 3)) 0 0 6)) (b + 3) j) r y)) b 12 (s11.1 (c + 8) i11)) b (s11.1 (c + 7) i11) B R i11, f_closeRound (u2 (u2 (uR s11.1 (b + 3) (va_cpy (s11.1 (c + 201 + i11)) (s11.1 (b + 3)) 0 0 6)) (b + 3) j (f_replaced ((uR s11.1 (b + 3) (va_cpy (s11.1 (c + 201 + i11)) (s11.1 (b + 3)) 0 0 6)) (b + 3) j) r y)) b 12 (s11.1 (c + 8) i11)) b (s11.1 (c + 7) i11) B R i11) (by simp only [if_pos q2, if_pos q3])
  · show SW Y _ _ (setC s11.1 h) 11 [.ref b, .ref 1001, .ref c, .int x, .int (nI j), .int (nI r), .int y, .int s11.2, .int (nI K)] []
    refine sw_iload O (xx_dt dd_X1_runLog 7 rfl) rfl ?_
    refine sw_aload_n O (xx_dt dd_X1_runLog 8 rfl) rfl ?_
    refine sw_get (v := .int (nI K)) O (xx_dt dd_X1_runLog 9 rfl) cl_X1 fl_X1_65 (lk_0 s11.1 h hc) (by decide) (congrArg Value.int hP11.1.2.2) ?_
    refine sw_icmp_ge (tgt := 103) O (xx_dt dd_X1_runLog 10 rfl) (by decide) (fun q1 => ?_) (fun q1 => ?_)
    · refine sw_dum (ls2 := [.ref b, .ref 1001, .ref c, .int x, .int (nI j), .int (nI r), .int y, .int s11.2, xx_d]) ⟨.inr rfl, .inr rfl, .inr rfl, .inr rfl, .inr rfl, .inr rfl, .inr rfl, .inr rfl, .inl rfl, trivial⟩ ?_
      exact kx11
    · exact absurd (Int32.le_refl _) q1
  · show SW Y _ _ (setC ((x_runLog_11 σ b c x j r y B R K (g_begin σ b, 0)).1) h) 103 [.ref b, .ref 1001, .ref c, .int x, .int (nI j), .int (nI r), .int y, .int ((x_runLog_11 σ b c x j r y B R K (g_begin σ b, 0)).2), xx_d] []
    exact sw_ret O (xx_dt dd_X1_runLog 55 rfl) rfl (by rw [hQ]; exact ⟨rfl, by unfold g_runLog; rfl⟩)
end
section
/-! ===== Stations ===== -/
def f_add (σ : XS9) (x y : Int32) (C : Nat) : Int32 := nI C
def g_add (σ : XS9) (x y : Int32) (C : Nat) : XS9 := u2 (u2 (u2 σ 1151 C x) 1150 C y) 1006 1 (nI (C + 1))
theorem ct_X5_add {l : Launch} {h : XH} (hl : l.stackTraces = false) {σ : XS9} {C : Nat} (hC : σ 1006 1 = nI C) (hC10 : C < 10) {x y : Int32} : XEx l m_X5_add 0 0 0 [.ref 1006, .int x, .int y] (setC σ h) (some (.int (f_add σ x y C))) (setC (g_add σ x y C) h) := by
  refine XMet.of hl rfl rfl (Nat.le_of_ble_eq_true rfl) (fun Y O hh hQ => ?_)
  show SW Y 0 0 (setC σ h) 0 [.ref 1006, .int x, .int y, xx_d] []
  refine sw_aload_n O (xx_dt dd_X5_add 0 rfl) rfl ?_
  refine sw_get (v := .int (nI C)) O (xx_dt dd_X5_add 1 rfl) cl_X5 fl_X5_24 (ly_1006 σ h) (by decide) (congrArg Value.int hC) ?_
  refine sw_istore_n (ls2 := [.ref 1006, .int x, .int y, .int (nI C)]) O (xx_dt dd_X5_add 2 rfl) (by decide) rfl ?_
  refine sw_iload_n O (xx_dt dd_X5_add 3 rfl) rfl ?_
  refine sw_bipush (x := 10) O (xx_dt dd_X5_add 4 rfl) (by decide) ?_
  refine sw_icmp_ge (tgt := 35) O (xx_dt dd_X5_add 5 rfl) (by decide) (fun q1 => ?_) (fun q1 => ?_)
  · exact absurd q1 (nI_ge (b := 10) hC10 (by omega))
  · refine sw_aload_n O (xx_dt dd_X5_add 6 rfl) rfl ?_
    refine sw_get (v := .ref 1151) O (xx_dt dd_X5_add 7 rfl) cl_X5 fl_X5_15 (ly_1006 σ h) (by decide) rfl ?_
    refine sw_iload_n O (xx_dt dd_X5_add 8 rfl) rfl ?_
    refine sw_iload_n O (xx_dt dd_X5_add 9 rfl) rfl ?_
    refine sw_iastore (h2 := setC (u2 σ 1151 C x) h) O (xx_dt dd_X5_add 10 rfl) (ly_1151 σ h) (pk_in C _ (by omega)) (by decide) (by rw [nI_clamp (by omega)]; exact pa_1151) ?_
    refine sw_aload_n O (xx_dt dd_X5_add 11 rfl) rfl ?_
    refine sw_get (v := .ref 1150) O (xx_dt dd_X5_add 12 rfl) cl_X5 fl_X5_9 (ly_1006 (u2 σ 1151 C x) h) (by decide) rfl ?_
    refine sw_iload_n O (xx_dt dd_X5_add 13 rfl) rfl ?_
    refine sw_iload_n O (xx_dt dd_X5_add 14 rfl) rfl ?_
    refine sw_iastore (h2 := setC (u2 (u2 σ 1151 C x) 1150 C y) h) O (xx_dt dd_X5_add 15 rfl) (ly_1150 (u2 σ 1151 C x) h) (pk_in C _ (by omega)) (by decide) (by rw [nI_clamp (by omega)]; exact pa_1150) ?_
    refine sw_aload_n O (xx_dt dd_X5_add 16 rfl) rfl ?_
    refine sw_dup O (xx_dt dd_X5_add 17 rfl) rfl ?_
    refine sw_get (v := .int (nI C)) O (xx_dt dd_X5_add 18 rfl) cl_X5 fl_X5_24 (ly_1006 (u2 (u2 σ 1151 C x) 1150 C y) h) (by decide) (congrArg Value.int hC) ?_
    refine sw_iconst (x := 1) O (xx_dt dd_X5_add 19 rfl) (by decide) ?_
    refine sw_iadd O (xx_dt dd_X5_add 20 rfl) ?_
    rw [nI_a1 C]
    refine sw_put (h2 := setC (u2 (u2 (u2 σ 1151 C x) 1150 C y) 1006 1 (nI (C + 1))) h) O (xx_dt dd_X5_add 21 rfl) cl_X5 fl_X5_24 (ly_1006 (u2 (u2 σ 1151 C x) 1150 C y) h) (by decide) (by decide) rfl (fun _ => ⟨rfl, rfl⟩) pu_1006_1 ?_
    refine sw_iload_n O (xx_dt dd_X5_add 22 rfl) rfl ?_
    exact sw_iret O (xx_dt dd_X5_add 23 rfl) rfl rfl (by rw [hQ]; exact ⟨by unfold f_add; rfl, by unfold g_add; rfl⟩)
def x_countIn_4 (σ : XS9) (x : Int32) (C : Nat) (s0 : Int32) : Int32 := xit (fun i4 s4 => (if (σ 1151 i4) = x then s4 + 1 else s4)) C 0 s0
def f_countIn (σ : XS9) (x : Int32) (C : Nat) : Int32 := (x_countIn_4 σ x C 0)
theorem ct_X5_countIn {l : Launch} {h : XH} (hl : l.stackTraces = false) {σ : XS9} {C : Nat} (hC : σ 1006 1 = nI C) (hC10 : C ≤ 10) {x : Int32} : XEx l m_X5_countIn 0 0 0 [.ref 1006, .int x] (setC σ h) (some (.int (f_countIn σ x C))) (setC σ h) := by
  refine XMet.of hl rfl rfl (Nat.le_of_ble_eq_true rfl) (fun Y O hh hQ => ?_)
  show SW Y 0 0 (setC σ h) 0 [.ref 1006, .int x, xx_d, xx_d] []
  refine sw_iconst (x := 0) O (xx_dt dd_X5_countIn 0 rfl) (by decide) ?_
  refine sw_istore_n (ls2 := [.ref 1006, .int x, .int 0, xx_d]) O (xx_dt dd_X5_countIn 1 rfl) (by decide) rfl ?_
  refine sw_iconst (x := 0) O (xx_dt dd_X5_countIn 2 rfl) (by decide) ?_
  refine sw_istore_n (ls2 := [.ref 1006, .int x, .int 0, .int 0]) O (xx_dt dd_X5_countIn 3 rfl) (by decide) rfl ?_
  refine sw_for (fun i4 s4 => (if (σ 1151 i4) = x then s4 + 1 else s4)) (fun _ _ => True) (hp := fun _ => setC σ h) (hd := 4) (lc := fun i4 s4 => [.ref 1006, .int x, .int s4, .int (nI i4)]) (N := C) (fun i4 s4 hi4 hP4 => ⟨trivial, fun kk4 => ?_⟩) C 0 0 (by omega) (trivial) (fun hP4 => ?_)
  · refine sw_iload_n O (xx_dt dd_X5_countIn 4 rfl) rfl ?_
    refine sw_aload_n O (xx_dt dd_X5_countIn 5 rfl) rfl ?_
    refine sw_get (v := .int (nI C)) O (xx_dt dd_X5_countIn 6 rfl) cl_X5 fl_X5_24 (ly_1006 σ h) (by decide) (congrArg Value.int hC) ?_
    refine sw_icmp_ge (tgt := 31) O (xx_dt dd_X5_countIn 7 rfl) (by decide) (fun q1 => ?_) (fun q1 => ?_)
    · exact absurd q1 (nI_ge (b := C) hi4 (by omega))
    · refine sw_aload_n O (xx_dt dd_X5_countIn 8 rfl) rfl ?_
      refine sw_get (v := .ref 1151) O (xx_dt dd_X5_countIn 9 rfl) cl_X5 fl_X5_15 (ly_1006 σ h) (by decide) rfl ?_
      refine sw_iload_n O (xx_dt dd_X5_countIn 10 rfl) rfl ?_
      refine sw_iaload (v := .int (σ 1151 i4)) O (xx_dt dd_X5_countIn 11 rfl) (ly_1151 σ h) (pk_in i4 _ (by omega)) (by rw [nI_clamp (by omega)]; try exact rfl) ?_
      refine sw_iload_n O (xx_dt dd_X5_countIn 12 rfl) rfl ?_
      refine sw_icmp_ne (tgt := 25) O (xx_dt dd_X5_countIn 13 rfl) (by decide) (fun q2 => ?_) (fun q2 => ?_)
      · refine sw_iinc (y := nI (i4 + 1)) (ls2 := [.ref 1006, .int x, .int s4, .int (nI (i4 + 1))]) O (xx_dt dd_X5_countIn 15 rfl) rfl (nI_1 _) (by decide) rfl ?_
        refine sw_goto (tgt := 4) O (xx_dt dd_X5_countIn 16 rfl) (by decide) ?_
        simp only [if_neg q2] at kk4
        exact kk4
      · refine sw_iinc (y := s4 + 1) (ls2 := [.ref 1006, .int x, .int (s4 + 1), .int (nI i4)]) O (xx_dt dd_X5_countIn 14 rfl) rfl rfl (by decide) rfl ?_
        refine sw_iinc (y := nI (i4 + 1)) (ls2 := [.ref 1006, .int x, .int (s4 + 1), .int (nI (i4 + 1))]) O (xx_dt dd_X5_countIn 15 rfl) rfl (nI_1 _) (by decide) rfl ?_
        refine sw_goto (tgt := 4) O (xx_dt dd_X5_countIn 16 rfl) (by decide) ?_
        simp only [if_pos q2] at kk4
        exact kk4
  · show SW Y _ _ (setC σ h) 4 [.ref 1006, .int x, .int (x_countIn_4 σ x C 0), .int (nI C)] []
    refine sw_iload_n O (xx_dt dd_X5_countIn 4 rfl) rfl ?_
    refine sw_aload_n O (xx_dt dd_X5_countIn 5 rfl) rfl ?_
    refine sw_get (v := .int (nI C)) O (xx_dt dd_X5_countIn 6 rfl) cl_X5 fl_X5_24 (ly_1006 σ h) (by decide) (congrArg Value.int hC) ?_
    refine sw_icmp_ge (tgt := 31) O (xx_dt dd_X5_countIn 7 rfl) (by decide) (fun q1 => ?_) (fun q1 => ?_)
    · refine sw_iload_n O (xx_dt dd_X5_countIn 17 rfl) rfl ?_
      exact sw_iret O (xx_dt dd_X5_countIn 18 rfl) rfl rfl (by rw [hQ]; exact ⟨by unfold f_countIn; rfl, rfl⟩)
    · exact absurd (Int32.le_refl _) q1
def x_asksOf_4 (σ : XS9) (x : Int32) (C : Nat) (s0 : Int32) : Int32 := xit (fun i4 s4 => (if (x &&& (1 <<< ((nI i4) &&& 31))) = 0 then s4 else s4 + (σ 1150 i4))) C 0 s0
def f_asksOf (σ : XS9) (x : Int32) (C : Nat) : Int32 := (x_asksOf_4 σ x C 0)
theorem ct_X5_asksOf {l : Launch} {h : XH} (hl : l.stackTraces = false) {σ : XS9} {C : Nat} (hC : σ 1006 1 = nI C) (hC10 : C ≤ 10) {x : Int32} : XEx l m_X5_asksOf 0 0 0 [.ref 1006, .int x] (setC σ h) (some (.int (f_asksOf σ x C))) (setC σ h) := by
  refine XMet.of hl rfl rfl (Nat.le_of_ble_eq_true rfl) (fun Y O hh hQ => ?_)
  show SW Y 0 0 (setC σ h) 0 [.ref 1006, .int x, xx_d, xx_d] []
  refine sw_iconst (x := 0) O (xx_dt dd_X5_asksOf 0 rfl) (by decide) ?_
  refine sw_istore_n (ls2 := [.ref 1006, .int x, .int 0, xx_d]) O (xx_dt dd_X5_asksOf 1 rfl) (by decide) rfl ?_
  refine sw_iconst (x := 0) O (xx_dt dd_X5_asksOf 2 rfl) (by decide) ?_
  refine sw_istore_n (ls2 := [.ref 1006, .int x, .int 0, .int 0]) O (xx_dt dd_X5_asksOf 3 rfl) (by decide) rfl ?_
  refine sw_for (fun i4 s4 => (if (x &&& (1 <<< ((nI i4) &&& 31))) = 0 then s4 else s4 + (σ 1150 i4))) (fun _ _ => True) (hp := fun _ => setC σ h) (hd := 4) (lc := fun i4 s4 => [.ref 1006, .int x, .int s4, .int (nI i4)]) (N := C) (fun i4 s4 hi4 hP4 => ⟨trivial, fun kk4 => ?_⟩) C 0 0 (by omega) (trivial) (fun hP4 => ?_)
  · refine sw_iload_n O (xx_dt dd_X5_asksOf 4 rfl) rfl ?_
    refine sw_aload_n O (xx_dt dd_X5_asksOf 5 rfl) rfl ?_
    refine sw_get (v := .int (nI C)) O (xx_dt dd_X5_asksOf 6 rfl) cl_X5 fl_X5_24 (ly_1006 σ h) (by decide) (congrArg Value.int hC) ?_
    refine sw_icmp_ge (tgt := 35) O (xx_dt dd_X5_asksOf 7 rfl) (by decide) (fun q1 => ?_) (fun q1 => ?_)
    · exact absurd q1 (nI_ge (b := C) hi4 (by omega))
    · refine sw_iload_n O (xx_dt dd_X5_asksOf 8 rfl) rfl ?_
      refine sw_iconst (x := 1) O (xx_dt dd_X5_asksOf 9 rfl) (by decide) ?_
      refine sw_iload_n O (xx_dt dd_X5_asksOf 10 rfl) rfl ?_
      refine sw_ishl O (xx_dt dd_X5_asksOf 11 rfl) ?_
      refine sw_iand O (xx_dt dd_X5_asksOf 12 rfl) ?_
      refine sw_if_eq (tgt := 29) O (xx_dt dd_X5_asksOf 13 rfl) (by decide) (fun q2 => ?_) (fun q2 => ?_)
      · refine sw_iinc (y := nI (i4 + 1)) (ls2 := [.ref 1006, .int x, .int s4, .int (nI (i4 + 1))]) O (xx_dt dd_X5_asksOf 21 rfl) rfl (nI_1 _) (by decide) rfl ?_
        refine sw_goto (tgt := 4) O (xx_dt dd_X5_asksOf 22 rfl) (by decide) ?_
        simp only [if_pos q2] at kk4
        exact kk4
      · refine sw_iload_n O (xx_dt dd_X5_asksOf 14 rfl) rfl ?_
        refine sw_aload_n O (xx_dt dd_X5_asksOf 15 rfl) rfl ?_
        refine sw_get (v := .ref 1150) O (xx_dt dd_X5_asksOf 16 rfl) cl_X5 fl_X5_9 (ly_1006 σ h) (by decide) rfl ?_
        refine sw_iload_n O (xx_dt dd_X5_asksOf 17 rfl) rfl ?_
        refine sw_iaload (v := .int (σ 1150 i4)) O (xx_dt dd_X5_asksOf 18 rfl) (ly_1150 σ h) (pk_in i4 _ (by omega)) (by rw [nI_clamp (by omega)]; try exact rfl) ?_
        refine sw_iadd O (xx_dt dd_X5_asksOf 19 rfl) ?_
        refine sw_istore_n (ls2 := [.ref 1006, .int x, .int (s4 + (σ 1150 i4)), .int (nI i4)]) O (xx_dt dd_X5_asksOf 20 rfl) (by decide) rfl ?_
        refine sw_iinc (y := nI (i4 + 1)) (ls2 := [.ref 1006, .int x, .int (s4 + (σ 1150 i4)), .int (nI (i4 + 1))]) O (xx_dt dd_X5_asksOf 21 rfl) rfl (nI_1 _) (by decide) rfl ?_
        refine sw_goto (tgt := 4) O (xx_dt dd_X5_asksOf 22 rfl) (by decide) ?_
        simp only [if_neg q2] at kk4
        exact kk4
  · show SW Y _ _ (setC σ h) 4 [.ref 1006, .int x, .int (x_asksOf_4 σ x C 0), .int (nI C)] []
    refine sw_iload_n O (xx_dt dd_X5_asksOf 4 rfl) rfl ?_
    refine sw_aload_n O (xx_dt dd_X5_asksOf 5 rfl) rfl ?_
    refine sw_get (v := .int (nI C)) O (xx_dt dd_X5_asksOf 6 rfl) cl_X5 fl_X5_24 (ly_1006 σ h) (by decide) (congrArg Value.int hC) ?_
    refine sw_icmp_ge (tgt := 35) O (xx_dt dd_X5_asksOf 7 rfl) (by decide) (fun q1 => ?_) (fun q1 => ?_)
    · refine sw_iload_n O (xx_dt dd_X5_asksOf 23 rfl) rfl ?_
      exact sw_iret O (xx_dt dd_X5_asksOf 24 rfl) rfl rfl (by rw [hQ]; exact ⟨by unfold f_asksOf; rfl, rfl⟩)
    · exact absurd (Int32.le_refl _) q1
def x_channelOf_2 (σ : XS9) (x : Int32) (s0 : Unit) : Unit ⊕ Int32 := xitR (fun i2 s2 => (if ((σ 1153 i2) &&& (1 <<< (x &&& 31))) = 0 then .inl () else .inr (nI i2))) 6 0 s0
def f_channelOf (σ : XS9) (x : Int32) : Int32 := (match (x_channelOf_2 σ x ()) with | .inl s2 => (-1) | .inr r2 => r2)
theorem ct_X5_channelOf {l : Launch} {h : XH} (hl : l.stackTraces = false) {σ : XS9} {x : Int32} : XEx l m_X5_channelOf 0 0 0 [.ref 1006, .int x] (setC σ h) (some (.int (f_channelOf σ x))) (setC σ h) := by
  refine XMet.of hl rfl rfl (Nat.le_of_ble_eq_true rfl) (fun Y O hh hQ => ?_)
  show SW Y 0 0 (setC σ h) 0 [.ref 1006, .int x, xx_d] []
  refine sw_iconst (x := 0) O (xx_dt dd_X5_channelOf 0 rfl) (by decide) ?_
  refine sw_istore_n (ls2 := [.ref 1006, .int x, .int 0]) O (xx_dt dd_X5_channelOf 1 rfl) (by decide) rfl ?_
  refine sw_forR (R := Int32) (fun i2 s2 => (if ((σ 1153 i2) &&& (1 <<< (x &&& 31))) = 0 then .inl () else .inr (nI i2))) (fun _ _ => True) (FR := fun r => f_channelOf σ x = r) (hp := fun _ => setC σ h) (hd := 2) (lc := fun i2 s2 => [.ref 1006, .int x, .int (nI i2)]) (N := 6) (fun i2 s2 hi2 hP2 => ⟨fun _ _ => trivial, fun kk2 kr2 => ?_⟩) 6 0 () (by omega) (trivial) (fun sN2 eN2 hP2 => ?_) (fun r2 eN2 => ?_)
  · refine sw_iload_n O (xx_dt dd_X5_channelOf 2 rfl) rfl ?_
    refine sw_bipush (x := 6) O (xx_dt dd_X5_channelOf 3 rfl) (by decide) ?_
    refine sw_icmp_ge (tgt := 29) O (xx_dt dd_X5_channelOf 4 rfl) (by decide) (fun q1 => ?_) (fun q1 => ?_)
    · exact absurd q1 (nI_ge (b := 6) hi2 (by omega))
    · refine sw_aload_n O (xx_dt dd_X5_channelOf 5 rfl) rfl ?_
      refine sw_get (v := .ref 1153) O (xx_dt dd_X5_channelOf 6 rfl) cl_X5 fl_X5_21 (ly_1006 σ h) (by decide) rfl ?_
      refine sw_iload_n O (xx_dt dd_X5_channelOf 7 rfl) rfl ?_
      refine sw_iaload (v := .int (σ 1153 i2)) O (xx_dt dd_X5_channelOf 8 rfl) (ly_1153 σ h) (pk_in i2 _ (by omega)) (by rw [nI_clamp (by omega)]; try exact rfl) ?_
      refine sw_iconst (x := 1) O (xx_dt dd_X5_channelOf 9 rfl) (by decide) ?_
      refine sw_iload_n O (xx_dt dd_X5_channelOf 10 rfl) rfl ?_
      refine sw_ishl O (xx_dt dd_X5_channelOf 11 rfl) ?_
      refine sw_iand O (xx_dt dd_X5_channelOf 12 rfl) ?_
      refine sw_if_eq (tgt := 23) O (xx_dt dd_X5_channelOf 13 rfl) (by decide) (fun q2 => ?_) (fun q2 => ?_)
      · refine sw_iinc (y := nI (i2 + 1)) (ls2 := [.ref 1006, .int x, .int (nI (i2 + 1))]) O (xx_dt dd_X5_channelOf 16 rfl) rfl (nI_1 _) (by decide) rfl ?_
        refine sw_goto (tgt := 2) O (xx_dt dd_X5_channelOf 17 rfl) (by decide) ?_
        exact kk2 () (by simp only [if_pos q2])
      · refine sw_iload_n O (xx_dt dd_X5_channelOf 14 rfl) rfl ?_
        exact sw_iret O (xx_dt dd_X5_channelOf 15 rfl) rfl rfl (by rw [hQ, kr2 (nI i2) (by simp only [if_neg q2])]; exact ⟨rfl, rfl⟩)
  · show SW Y _ _ (setC σ h) 2 [.ref 1006, .int x, .int (nI 6)] []
    refine sw_iload_n O (xx_dt dd_X5_channelOf 2 rfl) rfl ?_
    refine sw_bipush (x := 6) O (xx_dt dd_X5_channelOf 3 rfl) (by decide) ?_
    refine sw_icmp_ge (tgt := 29) O (xx_dt dd_X5_channelOf 4 rfl) (by decide) (fun q1 => ?_) (fun q1 => ?_)
    · refine sw_iconst (x := (-1)) O (xx_dt dd_X5_channelOf 18 rfl) (by decide) ?_
      exact sw_iret O (xx_dt dd_X5_channelOf 19 rfl) rfl rfl (by rw [hQ]; exact ⟨by unfold f_channelOf; simp only [x_channelOf_2, eN2], rfl⟩)
    · exact absurd (Int32.le_refl _) q1
  · unfold f_channelOf; simp only [x_channelOf_2, eN2]
/-! ===== Payments ===== -/
def f_roomOutside (σ : XS9) (x : Int32) (i : Nat) : Int32 := (if (x &&& (1 <<< ((nI i) &&& 31))) = 0 then (σ (1131 + 0) i) - (σ (1131 + 2) i) else 0)
theorem ct_X4_roomOutside {l : Launch} {h : XH} (hl : l.stackTraces = false) {σ : XS9} {x : Int32} {i : Nat} (hi : i < 6) : XEx l m_X4_roomOutside 0 0 0 [.ref 1004, .int x, .int (nI i)] (setC σ h) (some (.int (f_roomOutside σ x i))) (setC σ h) := by
  refine XMet.of hl rfl rfl (Nat.le_of_ble_eq_true rfl) (fun Y O hh hQ => ?_)
  show SW Y 0 0 (setC σ h) 0 [.ref 1004, .int x, .int (nI i)] []
  refine sw_iload_n O (xx_dt dd_X4_roomOutside 0 rfl) rfl ?_
  refine sw_iconst (x := 1) O (xx_dt dd_X4_roomOutside 1 rfl) (by decide) ?_
  refine sw_iload_n O (xx_dt dd_X4_roomOutside 2 rfl) rfl ?_
  refine sw_ishl O (xx_dt dd_X4_roomOutside 3 rfl) ?_
  refine sw_iand O (xx_dt dd_X4_roomOutside 4 rfl) ?_
  refine sw_if_eq (tgt := 12) O (xx_dt dd_X4_roomOutside 5 rfl) (by decide) (fun q1 => ?_) (fun q1 => ?_)
  · refine sw_aload_n O (xx_dt dd_X4_roomOutside 8 rfl) rfl ?_
    refine sw_get (v := .ref 1130) O (xx_dt dd_X4_roomOutside 9 rfl) cl_X4 fl_X4_11 (ly_1004 σ h) (by decide) rfl ?_
    refine sw_iconst (x := 0) O (xx_dt dd_X4_roomOutside 10 rfl) (by decide) ?_
    refine sw_aaload (v := .ref (1131 + 0)) O (xx_dt dd_X4_roomOutside 11 rfl) (by omega) (by omega) (ly_1130 σ h) (by unfold vp_in; decide) rfl ?_
    refine sw_iload_n O (xx_dt dd_X4_roomOutside 12 rfl) rfl ?_
    refine sw_iaload (v := .int (σ (1131 + 0) i)) O (xx_dt dd_X4_roomOutside 13 rfl) (lr_1130 σ h (k := 0) (by omega)) (pk_in i _ (by omega)) (by rw [nI_clamp (by omega)]; try exact rfl) ?_
    refine sw_aload_n O (xx_dt dd_X4_roomOutside 14 rfl) rfl ?_
    refine sw_get (v := .ref 1130) O (xx_dt dd_X4_roomOutside 15 rfl) cl_X4 fl_X4_11 (ly_1004 σ h) (by decide) rfl ?_
    refine sw_iconst (x := 2) O (xx_dt dd_X4_roomOutside 16 rfl) (by decide) ?_
    refine sw_aaload (v := .ref (1131 + 2)) O (xx_dt dd_X4_roomOutside 17 rfl) (by omega) (by omega) (ly_1130 σ h) (by unfold vp_in; decide) rfl ?_
    refine sw_iload_n O (xx_dt dd_X4_roomOutside 18 rfl) rfl ?_
    refine sw_iaload (v := .int (σ (1131 + 2) i)) O (xx_dt dd_X4_roomOutside 19 rfl) (lr_1130 σ h (k := 2) (by omega)) (pk_in i _ (by omega)) (by rw [nI_clamp (by omega)]; try exact rfl) ?_
    refine sw_isub O (xx_dt dd_X4_roomOutside 20 rfl) ?_
    exact sw_iret O (xx_dt dd_X4_roomOutside 21 rfl) rfl rfl (by rw [hQ]; exact ⟨by unfold f_roomOutside; simp only [if_pos q1], rfl⟩)
  · refine sw_iconst (x := 0) O (xx_dt dd_X4_roomOutside 6 rfl) (by decide) ?_
    refine sw_goto (tgt := 29) O (xx_dt dd_X4_roomOutside 7 rfl) (by decide) ?_
    exact sw_iret O (xx_dt dd_X4_roomOutside 21 rfl) rfl rfl (by rw [hQ]; exact ⟨by unfold f_roomOutside; simp only [if_neg q1], rfl⟩)
def x_objection_11 (σ : XS9) (S w : Nat) (s0 : Int32) : Int32 := xit (fun i11 s11 => (if ((nI S) &&& (1 <<< ((nI i11) &&& 31))) = 0 then s11 - (σ (1131 + w) i11) else s11 - (σ (1131 + 0) i11))) 6 0 s0
def f_objection (σ : XS9) (S w : Nat) : Int32 := (x_objection_11 σ S w (σ 1041 S))
theorem ct_X4_objection {l : Launch} {h : XH} (hl : l.stackTraces = false) {σ : XS9} {S w : Nat} (hS : S < 64) (hw : w < 3) : XEx l m_X4_objection 0 0 0 [.ref 1004, .ref 1003, .int (nI S), .int (nI w)] (setC σ h) (some (.int (f_objection σ S w))) (setC σ h) := by
  refine XMet.of hl rfl rfl (Nat.le_of_ble_eq_true rfl) (fun Y O hh hQ => ?_)
  show SW Y 0 0 (setC σ h) 0 [.ref 1004, .ref 1003, .int (nI S), .int (nI w), xx_d, xx_d, xx_d] []
  refine sw_aload_n O (xx_dt dd_X4_objection 0 rfl) rfl ?_
  refine sw_get (v := .ref 1041) O (xx_dt dd_X4_objection 1 rfl) cl_X2 fl_X4_42 (ly_1003 σ h) (by decide) rfl ?_
  refine sw_iload_n O (xx_dt dd_X4_objection 2 rfl) rfl ?_
  refine sw_iaload (v := .int (σ 1041 S)) O (xx_dt dd_X4_objection 3 rfl) (ly_1041 σ h) (pk_in S _ (by omega)) (by rw [nI_clamp (by omega)]; try exact rfl) ?_
  refine sw_istore (ls2 := [.ref 1004, .ref 1003, .int (nI S), .int (nI w), .int (σ 1041 S), xx_d, xx_d]) O (xx_dt dd_X4_objection 4 rfl) (by decide) rfl ?_
  refine sw_iconst (x := 0) O (xx_dt dd_X4_objection 5 rfl) (by decide) ?_
  refine sw_istore (ls2 := [.ref 1004, .ref 1003, .int (nI S), .int (nI w), .int (σ 1041 S), .int 0, xx_d]) O (xx_dt dd_X4_objection 6 rfl) (by decide) rfl ?_
  refine sw_for (fun i11 s11 => (if ((nI S) &&& (1 <<< ((nI i11) &&& 31))) = 0 then s11 - (σ (1131 + w) i11) else s11 - (σ (1131 + 0) i11))) (fun _ _ => True) (hp := fun _ => setC σ h) (hd := 11) (lc := fun i11 s11 => [.ref 1004, .ref 1003, .int (nI S), .int (nI w), .int s11, .int (nI i11), xx_d]) (N := 6) (fun i11 s11 hi11 hP11 => ⟨trivial, fun kk11 => ?_⟩) 6 0 (σ 1041 S) (by omega) (trivial) (fun hP11 => ?_)
  · refine sw_iload O (xx_dt dd_X4_objection 7 rfl) rfl ?_
    refine sw_bipush (x := 6) O (xx_dt dd_X4_objection 8 rfl) (by decide) ?_
    refine sw_icmp_ge (tgt := 71) O (xx_dt dd_X4_objection 9 rfl) (by decide) (fun q1 => ?_) (fun q1 => ?_)
    · exact absurd q1 (nI_ge (b := 6) hi11 (by omega))
    · refine sw_iload_n O (xx_dt dd_X4_objection 10 rfl) rfl ?_
      refine sw_iconst (x := 1) O (xx_dt dd_X4_objection 11 rfl) (by decide) ?_
      refine sw_iload O (xx_dt dd_X4_objection 12 rfl) rfl ?_
      refine sw_ishl O (xx_dt dd_X4_objection 13 rfl) ?_
      refine sw_iand O (xx_dt dd_X4_objection 14 rfl) ?_
      refine sw_if_eq (tgt := 31) O (xx_dt dd_X4_objection 15 rfl) (by decide) (fun q2 => ?_) (fun q2 => ?_)
      · refine sw_iconst (x := 0) O (xx_dt dd_X4_objection 18 rfl) (by decide) ?_
        refine sw_istore (ls2 := [.ref 1004, .ref 1003, .int (nI S), .int (nI w), .int s11, .int (nI i11), .int 0]) O (xx_dt dd_X4_objection 19 rfl) (by decide) rfl ?_
        refine sw_iload O (xx_dt dd_X4_objection 20 rfl) rfl ?_
        refine sw_iload O (xx_dt dd_X4_objection 21 rfl) rfl ?_
        refine sw_if_eq (tgt := 53) O (xx_dt dd_X4_objection 22 rfl) (by decide) (fun q3 => ?_) (fun q3 => ?_)
        · refine sw_aload_n O (xx_dt dd_X4_objection 30 rfl) rfl ?_
          refine sw_get (v := .ref 1130) O (xx_dt dd_X4_objection 31 rfl) cl_X4 fl_X4_11 (ly_1004 σ h) (by decide) rfl ?_
          refine sw_iload_n O (xx_dt dd_X4_objection 32 rfl) rfl ?_
          refine sw_aaload (v := .ref (1131 + w)) O (xx_dt dd_X4_objection 33 rfl) (by omega) (by omega) (ly_1130 σ h) (pk_in w _ (by omega)) (by rw [nI_clamp (by omega)]; try exact rfl) ?_
          refine sw_iload O (xx_dt dd_X4_objection 34 rfl) rfl ?_
          refine sw_iaload (v := .int (σ (1131 + w) i11)) O (xx_dt dd_X4_objection 35 rfl) (lr_1130 σ h (k := w) (by omega)) (pk_in i11 _ (by omega)) (by rw [nI_clamp (by omega)]; try exact rfl) ?_
          refine sw_isub O (xx_dt dd_X4_objection 36 rfl) ?_
          refine sw_istore (ls2 := [.ref 1004, .ref 1003, .int (nI S), .int (nI w), .int (s11 - (σ (1131 + w) i11)), .int (nI i11), .int 0]) O (xx_dt dd_X4_objection 37 rfl) (by decide) rfl ?_
          refine sw_iinc (y := nI (i11 + 1)) (ls2 := [.ref 1004, .ref 1003, .int (nI S), .int (nI w), .int (s11 - (σ (1131 + w) i11)), .int (nI (i11 + 1)), .int 0]) O (xx_dt dd_X4_objection 38 rfl) rfl (nI_1 _) (by decide) rfl ?_
          refine sw_goto (tgt := 11) O (xx_dt dd_X4_objection 39 rfl) (by decide) ?_
          refine sw_dum (ls2 := [.ref 1004, .ref 1003, .int (nI S), .int (nI w), .int (s11 - (σ (1131 + w) i11)), .int (nI (i11 + 1)), xx_d]) ⟨.inr rfl, .inr rfl, .inr rfl, .inr rfl, .inr rfl, .inr rfl, .inl rfl, trivial⟩ ?_
          simp only [if_pos q2] at kk11
          exact kk11
        · exact absurd q3 (by decide)
      · refine sw_iconst (x := 1) O (xx_dt dd_X4_objection 16 rfl) (by decide) ?_
        refine sw_goto (tgt := 32) O (xx_dt dd_X4_objection 17 rfl) (by decide) ?_
        refine sw_istore (ls2 := [.ref 1004, .ref 1003, .int (nI S), .int (nI w), .int s11, .int (nI i11), .int 1]) O (xx_dt dd_X4_objection 19 rfl) (by decide) rfl ?_
        refine sw_iload O (xx_dt dd_X4_objection 20 rfl) rfl ?_
        refine sw_iload O (xx_dt dd_X4_objection 21 rfl) rfl ?_
        refine sw_if_eq (tgt := 53) O (xx_dt dd_X4_objection 22 rfl) (by decide) (fun q4 => ?_) (fun q4 => ?_)
        · exact absurd q4 (by decide)
        · refine sw_aload_n O (xx_dt dd_X4_objection 23 rfl) rfl ?_
          refine sw_get (v := .ref 1130) O (xx_dt dd_X4_objection 24 rfl) cl_X4 fl_X4_11 (ly_1004 σ h) (by decide) rfl ?_
          refine sw_iconst (x := 0) O (xx_dt dd_X4_objection 25 rfl) (by decide) ?_
          refine sw_aaload (v := .ref (1131 + 0)) O (xx_dt dd_X4_objection 26 rfl) (by omega) (by omega) (ly_1130 σ h) (by unfold vp_in; decide) rfl ?_
          refine sw_iload O (xx_dt dd_X4_objection 27 rfl) rfl ?_
          refine sw_iaload (v := .int (σ (1131 + 0) i11)) O (xx_dt dd_X4_objection 28 rfl) (lr_1130 σ h (k := 0) (by omega)) (pk_in i11 _ (by omega)) (by rw [nI_clamp (by omega)]; try exact rfl) ?_
          refine sw_goto (tgt := 62) O (xx_dt dd_X4_objection 29 rfl) (by decide) ?_
          refine sw_isub O (xx_dt dd_X4_objection 36 rfl) ?_
          refine sw_istore (ls2 := [.ref 1004, .ref 1003, .int (nI S), .int (nI w), .int (s11 - (σ (1131 + 0) i11)), .int (nI i11), .int 1]) O (xx_dt dd_X4_objection 37 rfl) (by decide) rfl ?_
          refine sw_iinc (y := nI (i11 + 1)) (ls2 := [.ref 1004, .ref 1003, .int (nI S), .int (nI w), .int (s11 - (σ (1131 + 0) i11)), .int (nI (i11 + 1)), .int 1]) O (xx_dt dd_X4_objection 38 rfl) rfl (nI_1 _) (by decide) rfl ?_
          refine sw_goto (tgt := 11) O (xx_dt dd_X4_objection 39 rfl) (by decide) ?_
          refine sw_dum (ls2 := [.ref 1004, .ref 1003, .int (nI S), .int (nI w), .int (s11 - (σ (1131 + 0) i11)), .int (nI (i11 + 1)), xx_d]) ⟨.inr rfl, .inr rfl, .inr rfl, .inr rfl, .inr rfl, .inr rfl, .inl rfl, trivial⟩ ?_
          simp only [if_neg q2] at kk11
          exact kk11
  · show SW Y _ _ (setC σ h) 11 [.ref 1004, .ref 1003, .int (nI S), .int (nI w), .int (x_objection_11 σ S w (σ 1041 S)), .int (nI 6), xx_d] []
    refine sw_iload O (xx_dt dd_X4_objection 7 rfl) rfl ?_
    refine sw_bipush (x := 6) O (xx_dt dd_X4_objection 8 rfl) (by decide) ?_
    refine sw_icmp_ge (tgt := 71) O (xx_dt dd_X4_objection 9 rfl) (by decide) (fun q1 => ?_) (fun q1 => ?_)
    · refine sw_iload O (xx_dt dd_X4_objection 40 rfl) rfl ?_
      exact sw_iret O (xx_dt dd_X4_objection 41 rfl) rfl rfl (by rw [hQ]; exact ⟨by unfold f_objection; rfl, rfl⟩)
    · exact absurd (Int32.le_refl _) q1
def x_raiseEach_6 (σ : XS9) (x y z : Int32) (s0 : XS9 × Int32) : XS9 × Int32 := xit (fun i6 s6 => (if z < (s6.2 + y) then (s6.1, s6.2) else (if (f_roomOutside s6.1 x i6) < y then (s6.1, s6.2) else (u2 s6.1 (1131 + 2) i6 ((s6.1 (1131 + 2) i6) + y), s6.2 + y)))) 6 0 s0
def f_raiseEach (σ : XS9) (x y z : Int32) : Int32 := (x_raiseEach_6 σ x y z (σ, 0)).2
def g_raiseEach (σ : XS9) (x y z : Int32) : XS9 := (x_raiseEach_6 σ x y z (σ, 0)).1
theorem ct_X4_raiseEach {l : Launch} {h : XH} (hl : l.stackTraces = false) {σ : XS9} {x y z : Int32} : XEx l m_X4_raiseEach 1 0 0 [.ref 1004, .int x, .int y, .int z] (setC σ h) (some (.int (f_raiseEach σ x y z))) (setC (g_raiseEach σ x y z) h) := by
  refine XMet.of hl rfl rfl (Nat.le_of_ble_eq_true rfl) (fun Y O hh hQ => ?_)
  show SW Y 0 0 (setC σ h) 0 [.ref 1004, .int x, .int y, .int z, xx_d, xx_d] []
  refine sw_iconst (x := 0) O (xx_dt dd_X4_raiseEach 0 rfl) (by decide) ?_
  refine sw_istore (ls2 := [.ref 1004, .int x, .int y, .int z, .int 0, xx_d]) O (xx_dt dd_X4_raiseEach 1 rfl) (by decide) rfl ?_
  refine sw_iconst (x := 0) O (xx_dt dd_X4_raiseEach 2 rfl) (by decide) ?_
  refine sw_istore (ls2 := [.ref 1004, .int x, .int y, .int z, .int 0, .int 0]) O (xx_dt dd_X4_raiseEach 3 rfl) (by decide) rfl ?_
  refine sw_for (fun i6 s6 => (if z < (s6.2 + y) then (s6.1, s6.2) else (if (f_roomOutside s6.1 x i6) < y then (s6.1, s6.2) else (u2 s6.1 (1131 + 2) i6 ((s6.1 (1131 + 2) i6) + y), s6.2 + y)))) (fun _ _ => True) (hp := fun s6 => setC s6.1 h) (hd := 6) (lc := fun i6 s6 => [.ref 1004, .int x, .int y, .int z, .int s6.2, .int (nI i6)]) (N := 6) (fun i6 s6 hi6 hP6 => ⟨trivial, fun kk6 => ?_⟩) 6 0 (σ, 0) (by omega) (trivial) (fun hP6 => ?_)
  · refine sw_iload O (xx_dt dd_X4_raiseEach 4 rfl) rfl ?_
    refine sw_bipush (x := 6) O (xx_dt dd_X4_raiseEach 5 rfl) (by decide) ?_
    refine sw_icmp_ge (tgt := 57) O (xx_dt dd_X4_raiseEach 6 rfl) (by decide) (fun q1 => ?_) (fun q1 => ?_)
    · exact absurd q1 (nI_ge (b := 6) hi6 (by omega))
    · refine sw_iload O (xx_dt dd_X4_raiseEach 7 rfl) rfl ?_
      refine sw_iload_n O (xx_dt dd_X4_raiseEach 8 rfl) rfl ?_
      refine sw_iadd O (xx_dt dd_X4_raiseEach 9 rfl) ?_
      refine sw_iload_n O (xx_dt dd_X4_raiseEach 10 rfl) rfl ?_
      refine sw_icmp_gt (tgt := 51) O (xx_dt dd_X4_raiseEach 11 rfl) (by decide) (fun q2 => ?_) (fun q2 => ?_)
      · refine sw_iinc (y := nI (i6 + 1)) (ls2 := [.ref 1004, .int x, .int y, .int z, .int s6.2, .int (nI (i6 + 1))]) O (xx_dt dd_X4_raiseEach 32 rfl) rfl (nI_1 _) (by decide) rfl ?_
        refine sw_goto (tgt := 6) O (xx_dt dd_X4_raiseEach 33 rfl) (by decide) ?_
        simp only [if_pos q2] at kk6
        exact kk6
      · refine sw_aload_n O (xx_dt dd_X4_raiseEach 12 rfl) rfl ?_
        refine sw_iload_n O (xx_dt dd_X4_raiseEach 13 rfl) rfl ?_
        refine sw_iload O (xx_dt dd_X4_raiseEach 14 rfl) rfl ?_
        refine sw_callVx (as := [.int x, .int (nI i6)]) (st := []) (st2 := [.int (f_roomOutside s6.1 x i6)]) O (ct_X4_roomOutside hl (σ := s6.1) (x := x) (i := i6) (by omega)) ce_X4_roomOutside ml_X4_45 iv_X4_roomOutside cl_X4 rfl (ly_1004 s6.1 h) (xx_dt dd_X4_raiseEach 15 rfl) (by decide) rfl rfl (Nat.le_of_ble_eq_true rfl) rfl ?_
        refine sw_iload_n O (xx_dt dd_X4_raiseEach 16 rfl) rfl ?_
        refine sw_icmp_lt (tgt := 51) O (xx_dt dd_X4_raiseEach 17 rfl) (by decide) (fun q3 => ?_) (fun q3 => ?_)
        · refine sw_iinc (y := nI (i6 + 1)) (ls2 := [.ref 1004, .int x, .int y, .int z, .int s6.2, .int (nI (i6 + 1))]) O (xx_dt dd_X4_raiseEach 32 rfl) rfl (nI_1 _) (by decide) rfl ?_
          refine sw_goto (tgt := 6) O (xx_dt dd_X4_raiseEach 33 rfl) (by decide) ?_
          simp only [if_neg q2, if_pos q3] at kk6
          exact kk6
        · refine sw_aload_n O (xx_dt dd_X4_raiseEach 18 rfl) rfl ?_
          refine sw_get (v := .ref 1130) O (xx_dt dd_X4_raiseEach 19 rfl) cl_X4 fl_X4_11 (ly_1004 s6.1 h) (by decide) rfl ?_
          refine sw_iconst (x := 2) O (xx_dt dd_X4_raiseEach 20 rfl) (by decide) ?_
          refine sw_aaload (v := .ref (1131 + 2)) O (xx_dt dd_X4_raiseEach 21 rfl) (by omega) (by omega) (ly_1130 s6.1 h) (by unfold vp_in; decide) rfl ?_
          refine sw_iload O (xx_dt dd_X4_raiseEach 22 rfl) rfl ?_
          refine sw_dup2 O (xx_dt dd_X4_raiseEach 23 rfl) rfl rfl ?_
          refine sw_iaload (v := .int (s6.1 (1131 + 2) i6)) O (xx_dt dd_X4_raiseEach 24 rfl) (lr_1130 s6.1 h (k := 2) (by omega)) (pk_in i6 _ (by omega)) (by rw [nI_clamp (by omega)]; try exact rfl) ?_
          refine sw_iload_n O (xx_dt dd_X4_raiseEach 25 rfl) rfl ?_
          refine sw_iadd O (xx_dt dd_X4_raiseEach 26 rfl) ?_
          refine sw_iastore (h2 := setC (u2 s6.1 (1131 + 2) i6 ((s6.1 (1131 + 2) i6) + y)) h) O (xx_dt dd_X4_raiseEach 27 rfl) (lr_1130 s6.1 h (k := 2) (by omega)) (pk_in i6 _ (by omega)) (by omega) (by rw [nI_clamp (by omega)]; exact (pr_1130 (by omega))) ?_
          refine sw_iload O (xx_dt dd_X4_raiseEach 28 rfl) rfl ?_
          refine sw_iload_n O (xx_dt dd_X4_raiseEach 29 rfl) rfl ?_
          refine sw_iadd O (xx_dt dd_X4_raiseEach 30 rfl) ?_
          refine sw_istore (ls2 := [.ref 1004, .int x, .int y, .int z, .int (s6.2 + y), .int (nI i6)]) O (xx_dt dd_X4_raiseEach 31 rfl) (by decide) rfl ?_
          refine sw_iinc (y := nI (i6 + 1)) (ls2 := [.ref 1004, .int x, .int y, .int z, .int (s6.2 + y), .int (nI (i6 + 1))]) O (xx_dt dd_X4_raiseEach 32 rfl) rfl (nI_1 _) (by decide) rfl ?_
          refine sw_goto (tgt := 6) O (xx_dt dd_X4_raiseEach 33 rfl) (by decide) ?_
          simp only [if_neg q2, if_neg q3] at kk6
          exact kk6
  · show SW Y _ _ (setC ((x_raiseEach_6 σ x y z (σ, 0)).1) h) 6 [.ref 1004, .int x, .int y, .int z, .int ((x_raiseEach_6 σ x y z (σ, 0)).2), .int (nI 6)] []
    refine sw_iload O (xx_dt dd_X4_raiseEach 4 rfl) rfl ?_
    refine sw_bipush (x := 6) O (xx_dt dd_X4_raiseEach 5 rfl) (by decide) ?_
    refine sw_icmp_ge (tgt := 57) O (xx_dt dd_X4_raiseEach 6 rfl) (by decide) (fun q1 => ?_) (fun q1 => ?_)
    · refine sw_iload O (xx_dt dd_X4_raiseEach 34 rfl) rfl ?_
      exact sw_iret O (xx_dt dd_X4_raiseEach 35 rfl) rfl rfl (by rw [hQ]; exact ⟨by unfold f_raiseEach; rfl, by unfold g_raiseEach; rfl⟩)
    · exact absurd (Int32.le_refl _) q1
/-! ===== Market ===== -/
def f_isOut (σ : XS9) (i : Nat) : Int32 := (if ((σ 1003 5) &&& (1 <<< ((nI i) &&& 31))) = 0 then 0 else 1)
theorem ct_X2_isOut {l : Launch} {h : XH} (hl : l.stackTraces = false) {σ : XS9} {i : Nat} : XEx l m_X2_isOut 0 0 0 [.ref 1003, .int (nI i)] (setC σ h) (some (.int (f_isOut σ i))) (setC σ h) := by
  refine XMet.of hl rfl rfl (Nat.le_of_ble_eq_true rfl) (fun Y O hh hQ => ?_)
  show SW Y 0 0 (setC σ h) 0 [.ref 1003, .int (nI i)] []
  refine sw_aload_n O (xx_dt dd_X2_isOut 0 rfl) rfl ?_
  refine sw_get (v := .int (σ 1003 5)) O (xx_dt dd_X2_isOut 1 rfl) cl_X2 fl_X2_50 (ly_1003 σ h) (by decide) rfl ?_
  refine sw_iconst (x := 1) O (xx_dt dd_X2_isOut 2 rfl) (by decide) ?_
  refine sw_iload_n O (xx_dt dd_X2_isOut 3 rfl) rfl ?_
  refine sw_ishl O (xx_dt dd_X2_isOut 4 rfl) ?_
  refine sw_iand O (xx_dt dd_X2_isOut 5 rfl) ?_
  refine sw_if_eq (tgt := 15) O (xx_dt dd_X2_isOut 6 rfl) (by decide) (fun q1 => ?_) (fun q1 => ?_)
  · refine sw_iconst (x := 0) O (xx_dt dd_X2_isOut 9 rfl) (by decide) ?_
    exact sw_iret O (xx_dt dd_X2_isOut 10 rfl) rfl rfl (by rw [hQ]; exact ⟨by unfold f_isOut; simp only [if_pos q1], rfl⟩)
  · refine sw_iconst (x := 1) O (xx_dt dd_X2_isOut 7 rfl) (by decide) ?_
    refine sw_goto (tgt := 16) O (xx_dt dd_X2_isOut 8 rfl) (by decide) ?_
    exact sw_iret O (xx_dt dd_X2_isOut 10 rfl) rfl rfl (by rw [hQ]; exact ⟨by unfold f_isOut; simp only [if_neg q1], rfl⟩)
def x_winners_4 (σ : XS9)  (s0 : Int32) : Int32 := xit (fun i4 s4 => (if (σ 1040 i4) = (-1) then s4 else s4 + 1)) 6 0 s0
def f_winners (σ : XS9)  : Int32 := (x_winners_4 σ 0)
theorem ct_X2_winners {l : Launch} {h : XH} (hl : l.stackTraces = false) {σ : XS9}  : XEx l m_X2_winners 0 0 0 [.ref 1003] (setC σ h) (some (.int (f_winners σ))) (setC σ h) := by
  refine XMet.of hl rfl rfl (Nat.le_of_ble_eq_true rfl) (fun Y O hh hQ => ?_)
  show SW Y 0 0 (setC σ h) 0 [.ref 1003, xx_d, xx_d] []
  refine sw_iconst (x := 0) O (xx_dt dd_X2_winners 0 rfl) (by decide) ?_
  refine sw_istore_n (ls2 := [.ref 1003, .int 0, xx_d]) O (xx_dt dd_X2_winners 1 rfl) (by decide) rfl ?_
  refine sw_iconst (x := 0) O (xx_dt dd_X2_winners 2 rfl) (by decide) ?_
  refine sw_istore_n (ls2 := [.ref 1003, .int 0, .int 0]) O (xx_dt dd_X2_winners 3 rfl) (by decide) rfl ?_
  refine sw_for (fun i4 s4 => (if (σ 1040 i4) = (-1) then s4 else s4 + 1)) (fun _ _ => True) (hp := fun _ => setC σ h) (hd := 4) (lc := fun i4 s4 => [.ref 1003, .int s4, .int (nI i4)]) (N := 6) (fun i4 s4 hi4 hP4 => ⟨trivial, fun kk4 => ?_⟩) 6 0 0 (by omega) (trivial) (fun hP4 => ?_)
  · refine sw_iload_n O (xx_dt dd_X2_winners 4 rfl) rfl ?_
    refine sw_bipush (x := 6) O (xx_dt dd_X2_winners 5 rfl) (by decide) ?_
    refine sw_icmp_ge (tgt := 29) O (xx_dt dd_X2_winners 6 rfl) (by decide) (fun q1 => ?_) (fun q1 => ?_)
    · exact absurd q1 (nI_ge (b := 6) hi4 (by omega))
    · refine sw_aload_n O (xx_dt dd_X2_winners 7 rfl) rfl ?_
      refine sw_get (v := .ref 1040) O (xx_dt dd_X2_winners 8 rfl) cl_X2 fl_X2_23 (ly_1003 σ h) (by decide) rfl ?_
      refine sw_iload_n O (xx_dt dd_X2_winners 9 rfl) rfl ?_
      refine sw_iaload (v := .int (σ 1040 i4)) O (xx_dt dd_X2_winners 10 rfl) (ly_1040 σ h) (pk_in i4 _ (by omega)) (by rw [nI_clamp (by omega)]; try exact rfl) ?_
      refine sw_iconst (x := (-1)) O (xx_dt dd_X2_winners 11 rfl) (by decide) ?_
      refine sw_icmp_eq (tgt := 23) O (xx_dt dd_X2_winners 12 rfl) (by decide) (fun q2 => ?_) (fun q2 => ?_)
      · refine sw_iinc (y := nI (i4 + 1)) (ls2 := [.ref 1003, .int s4, .int (nI (i4 + 1))]) O (xx_dt dd_X2_winners 14 rfl) rfl (nI_1 _) (by decide) rfl ?_
        refine sw_goto (tgt := 4) O (xx_dt dd_X2_winners 15 rfl) (by decide) ?_
        simp only [if_pos q2] at kk4
        exact kk4
      · refine sw_iinc (y := s4 + 1) (ls2 := [.ref 1003, .int (s4 + 1), .int (nI i4)]) O (xx_dt dd_X2_winners 13 rfl) rfl rfl (by decide) rfl ?_
        refine sw_iinc (y := nI (i4 + 1)) (ls2 := [.ref 1003, .int (s4 + 1), .int (nI (i4 + 1))]) O (xx_dt dd_X2_winners 14 rfl) rfl (nI_1 _) (by decide) rfl ?_
        refine sw_goto (tgt := 4) O (xx_dt dd_X2_winners 15 rfl) (by decide) ?_
        simp only [if_neg q2] at kk4
        exact kk4
  · show SW Y _ _ (setC σ h) 4 [.ref 1003, .int (x_winners_4 σ 0), .int (nI 6)] []
    refine sw_iload_n O (xx_dt dd_X2_winners 4 rfl) rfl ?_
    refine sw_bipush (x := 6) O (xx_dt dd_X2_winners 5 rfl) (by decide) ?_
    refine sw_icmp_ge (tgt := 29) O (xx_dt dd_X2_winners 6 rfl) (by decide) (fun q1 => ?_) (fun q1 => ?_)
    · refine sw_iload_n O (xx_dt dd_X2_winners 16 rfl) rfl ?_
      exact sw_iret O (xx_dt dd_X2_winners 17 rfl) rfl rfl (by rw [hQ]; exact ⟨by unfold f_winners; rfl, rfl⟩)
    · exact absurd (Int32.le_refl _) q1
def f_amountWon (σ : XS9) (i : Nat) : Int32 := (if (σ 1040 i) < 0 then 0 else (if 6 ≤ (σ 1040 i) then 0 else σ (1031 + i) (Int32.toNatClampNeg (σ 1040 i))))
theorem ct_X2_amountWon {l : Launch} {h : XH} (hl : l.stackTraces = false) {σ : XS9} {i : Nat} (hi : i < 6) : XEx l m_X2_amountWon 0 0 0 [.ref 1003, .int (nI i)] (setC σ h) (some (.int (f_amountWon σ i))) (setC σ h) := by
  refine XMet.of hl rfl rfl (Nat.le_of_ble_eq_true rfl) (fun Y O hh hQ => ?_)
  show SW Y 0 0 (setC σ h) 0 [.ref 1003, .int (nI i), xx_d] []
  refine sw_aload_n O (xx_dt dd_X2_amountWon 0 rfl) rfl ?_
  refine sw_get (v := .ref 1040) O (xx_dt dd_X2_amountWon 1 rfl) cl_X2 fl_X2_23 (ly_1003 σ h) (by decide) rfl ?_
  refine sw_iload_n O (xx_dt dd_X2_amountWon 2 rfl) rfl ?_
  refine sw_iaload (v := .int (σ 1040 i)) O (xx_dt dd_X2_amountWon 3 rfl) (ly_1040 σ h) (pk_in i _ (by omega)) (by rw [nI_clamp (by omega)]; try exact rfl) ?_
  refine sw_istore_n (ls2 := [.ref 1003, .int (nI i), .int (σ 1040 i)]) O (xx_dt dd_X2_amountWon 4 rfl) (by decide) rfl ?_
  refine sw_iload_n O (xx_dt dd_X2_amountWon 5 rfl) rfl ?_
  refine sw_if_lt (tgt := 28) O (xx_dt dd_X2_amountWon 6 rfl) (by decide) (fun q1 => ?_) (fun q1 => ?_)
  · refine sw_iconst (x := 0) O (xx_dt dd_X2_amountWon 17 rfl) (by decide) ?_
    exact sw_iret O (xx_dt dd_X2_amountWon 18 rfl) rfl rfl (by rw [hQ]; exact ⟨by unfold f_amountWon; simp only [if_pos q1], rfl⟩)
  · refine sw_iload_n O (xx_dt dd_X2_amountWon 7 rfl) rfl ?_
    refine sw_bipush (x := 6) O (xx_dt dd_X2_amountWon 8 rfl) (by decide) ?_
    refine sw_icmp_ge (tgt := 28) O (xx_dt dd_X2_amountWon 9 rfl) (by decide) (fun q2 => ?_) (fun q2 => ?_)
    · refine sw_iconst (x := 0) O (xx_dt dd_X2_amountWon 17 rfl) (by decide) ?_
      exact sw_iret O (xx_dt dd_X2_amountWon 18 rfl) rfl rfl (by rw [hQ]; exact ⟨by unfold f_amountWon; simp only [if_neg q1, if_pos q2], rfl⟩)
    · refine sw_aload_n O (xx_dt dd_X2_amountWon 10 rfl) rfl ?_
      refine sw_get (v := .ref 1030) O (xx_dt dd_X2_amountWon 11 rfl) cl_X2 fl_X2_20 (ly_1003 σ h) (by decide) rfl ?_
      refine sw_iload_n O (xx_dt dd_X2_amountWon 12 rfl) rfl ?_
      refine sw_aaload (v := .ref (1031 + i)) O (xx_dt dd_X2_amountWon 13 rfl) (by omega) (by omega) (ly_1030 σ h) (pk_in i _ (by omega)) (by rw [nI_clamp (by omega)]; try exact rfl) ?_
      refine sw_iload_n O (xx_dt dd_X2_amountWon 14 rfl) rfl ?_
      refine sw_iaload (v := .int (σ (1031 + i) (Int32.toNatClampNeg (σ 1040 i)))) O (xx_dt dd_X2_amountWon 15 rfl) (lr_1030 σ h (k := i) (by omega)) (vp_6 (by assumption) (by assumption)) rfl ?_
      refine sw_goto (tgt := 29) O (xx_dt dd_X2_amountWon 16 rfl) (by decide) ?_
      exact sw_iret O (xx_dt dd_X2_amountWon 18 rfl) rfl rfl (by rw [hQ]; exact ⟨by unfold f_amountWon; simp only [if_neg q1, if_neg q2], rfl⟩)
def f_blocksWon (σ : XS9) (i r : Nat) : Int32 := (if (σ 1040 i) < 0 then 0 else (if 6 ≤ (σ 1040 i) then 0 else f_many (σ (1022 + i) (Int32.toNatClampNeg (σ 1040 i))) r))
theorem ct_X2_blocksWon {l : Launch} {h : XH} (hl : l.stackTraces = false) {σ : XS9} {i r : Nat} (hi : i < 6) (hr : r < 5) : XEx l m_X2_blocksWon 1 0 0 [.ref 1003, .int (nI i), .int (nI r)] (setC σ h) (some (.int (f_blocksWon σ i r))) (setC σ h) := by
  refine XMet.of hl rfl rfl (Nat.le_of_ble_eq_true rfl) (fun Y O hh hQ => ?_)
  show SW Y 0 0 (setC σ h) 0 [.ref 1003, .int (nI i), .int (nI r), xx_d] []
  refine sw_aload_n O (xx_dt dd_X2_blocksWon 0 rfl) rfl ?_
  refine sw_get (v := .ref 1040) O (xx_dt dd_X2_blocksWon 1 rfl) cl_X2 fl_X2_23 (ly_1003 σ h) (by decide) rfl ?_
  refine sw_iload_n O (xx_dt dd_X2_blocksWon 2 rfl) rfl ?_
  refine sw_iaload (v := .int (σ 1040 i)) O (xx_dt dd_X2_blocksWon 3 rfl) (ly_1040 σ h) (pk_in i _ (by omega)) (by rw [nI_clamp (by omega)]; try exact rfl) ?_
  refine sw_istore_n (ls2 := [.ref 1003, .int (nI i), .int (nI r), .int (σ 1040 i)]) O (xx_dt dd_X2_blocksWon 4 rfl) (by decide) rfl ?_
  refine sw_iload_n O (xx_dt dd_X2_blocksWon 5 rfl) rfl ?_
  refine sw_if_lt (tgt := 32) O (xx_dt dd_X2_blocksWon 6 rfl) (by decide) (fun q1 => ?_) (fun q1 => ?_)
  · refine sw_iconst (x := 0) O (xx_dt dd_X2_blocksWon 19 rfl) (by decide) ?_
    exact sw_iret O (xx_dt dd_X2_blocksWon 20 rfl) rfl rfl (by rw [hQ]; exact ⟨by unfold f_blocksWon; simp only [if_pos q1], rfl⟩)
  · refine sw_iload_n O (xx_dt dd_X2_blocksWon 7 rfl) rfl ?_
    refine sw_bipush (x := 6) O (xx_dt dd_X2_blocksWon 8 rfl) (by decide) ?_
    refine sw_icmp_ge (tgt := 32) O (xx_dt dd_X2_blocksWon 9 rfl) (by decide) (fun q2 => ?_) (fun q2 => ?_)
    · refine sw_iconst (x := 0) O (xx_dt dd_X2_blocksWon 19 rfl) (by decide) ?_
      exact sw_iret O (xx_dt dd_X2_blocksWon 20 rfl) rfl rfl (by rw [hQ]; exact ⟨by unfold f_blocksWon; simp only [if_neg q1, if_pos q2], rfl⟩)
    · refine sw_aload_n O (xx_dt dd_X2_blocksWon 10 rfl) rfl ?_
      refine sw_get (v := .ref 1021) O (xx_dt dd_X2_blocksWon 11 rfl) cl_X2 fl_X2_17 (ly_1003 σ h) (by decide) rfl ?_
      refine sw_iload_n O (xx_dt dd_X2_blocksWon 12 rfl) rfl ?_
      refine sw_aaload (v := .ref (1022 + i)) O (xx_dt dd_X2_blocksWon 13 rfl) (by omega) (by omega) (ly_1021 σ h) (pk_in i _ (by omega)) (by rw [nI_clamp (by omega)]; try exact rfl) ?_
      refine sw_iload_n O (xx_dt dd_X2_blocksWon 14 rfl) rfl ?_
      refine sw_iaload (v := .int (σ (1022 + i) (Int32.toNatClampNeg (σ 1040 i)))) O (xx_dt dd_X2_blocksWon 15 rfl) (lr_1021 σ h (k := i) (by omega)) (vp_6 (by assumption) (by assumption)) rfl ?_
      refine sw_iload_n O (xx_dt dd_X2_blocksWon 16 rfl) rfl ?_
      refine sw_callSx (as := [.int (σ (1022 + i) (Int32.toNatClampNeg (σ 1040 i))), .int (nI r)]) (st := []) (st2 := [.int (f_many (σ (1022 + i) (Int32.toNatClampNeg (σ 1040 i))) r)]) O (ct_X0_many hl (c := σ (1022 + i) (Int32.toNatClampNeg (σ 1040 i))) (r := r) (by omega)) ce_X0_many ml_X2_54 st_X0_many (xx_dt dd_X2_blocksWon 17 rfl) (by decide) rfl rfl (Nat.le_of_ble_eq_true rfl) rfl ?_
      refine sw_goto (tgt := 33) O (xx_dt dd_X2_blocksWon 18 rfl) (by decide) ?_
      exact sw_iret O (xx_dt dd_X2_blocksWon 20 rfl) rfl rfl (by rw [hQ]; exact ⟨by unfold f_blocksWon; simp only [if_neg q1, if_neg q2], rfl⟩)
def x_isAhead_2 (f g : Nat → Int32) (s0 : Unit) : Unit ⊕ Int32 := xitR (fun i2 s2 => (if (f i2) = (g i2) then .inl () else (if (g i2) ≤ (f i2) then .inr 0 else .inr 1))) 6 0 s0
def f_isAhead (f g : Nat → Int32) : Int32 := (match (x_isAhead_2 f g ()) with | .inl s2 => 0 | .inr r2 => r2)
theorem ct_X2_isAhead {l : Launch} {h : XH} (hl : l.stackTraces = false) {a b : Nat} {f g : Nat → Int32} (ha : h a = some (100, 6, fun k => .int (f k))) (hb : h b = some (100, 6, fun k => .int (g k))) : XEx l m_X2_isAhead 0 0 0 [.ref a, .ref b] (h) (some (.int (f_isAhead f g))) (h) := by
  refine XMet.of hl rfl rfl (Nat.le_of_ble_eq_true rfl) (fun Y O hh hQ => ?_)
  show SW Y 0 0 (h) 0 [.ref a, .ref b, xx_d] []
  refine sw_iconst (x := 0) O (xx_dt dd_X2_isAhead 0 rfl) (by decide) ?_
  refine sw_istore_n (ls2 := [.ref a, .ref b, .int 0]) O (xx_dt dd_X2_isAhead 1 rfl) (by decide) rfl ?_
  refine sw_forR (R := Int32) (fun i2 s2 => (if (f i2) = (g i2) then .inl () else (if (g i2) ≤ (f i2) then .inr 0 else .inr 1))) (fun _ _ => True) (FR := fun r => f_isAhead f g = r) (hp := fun _ => h) (hd := 2) (lc := fun i2 s2 => [.ref a, .ref b, .int (nI i2)]) (N := 6) (fun i2 s2 hi2 hP2 => ⟨fun _ _ => trivial, fun kk2 kr2 => ?_⟩) 6 0 () (by omega) (trivial) (fun sN2 eN2 hP2 => ?_) (fun r2 eN2 => ?_)
  · refine sw_iload_n O (xx_dt dd_X2_isAhead 2 rfl) rfl ?_
    refine sw_bipush (x := 6) O (xx_dt dd_X2_isAhead 3 rfl) (by decide) ?_
    refine sw_icmp_ge (tgt := 38) O (xx_dt dd_X2_isAhead 4 rfl) (by decide) (fun q1 => ?_) (fun q1 => ?_)
    · exact absurd q1 (nI_ge (b := 6) hi2 (by omega))
    · refine sw_aload_n O (xx_dt dd_X2_isAhead 5 rfl) rfl ?_
      refine sw_iload_n O (xx_dt dd_X2_isAhead 6 rfl) rfl ?_
      refine sw_iaload (v := .int (f i2)) O (xx_dt dd_X2_isAhead 7 rfl) (ha) (pk_in i2 _ (by omega)) (by rw [nI_clamp (by omega)]; try exact rfl) ?_
      refine sw_aload_n O (xx_dt dd_X2_isAhead 8 rfl) rfl ?_
      refine sw_iload_n O (xx_dt dd_X2_isAhead 9 rfl) rfl ?_
      refine sw_iaload (v := .int (g i2)) O (xx_dt dd_X2_isAhead 10 rfl) (hb) (pk_in i2 _ (by omega)) (by rw [nI_clamp (by omega)]; try exact rfl) ?_
      refine sw_icmp_eq (tgt := 32) O (xx_dt dd_X2_isAhead 11 rfl) (by decide) (fun q2 => ?_) (fun q2 => ?_)
      · refine sw_iinc (y := nI (i2 + 1)) (ls2 := [.ref a, .ref b, .int (nI (i2 + 1))]) O (xx_dt dd_X2_isAhead 23 rfl) rfl (nI_1 _) (by decide) rfl ?_
        refine sw_goto (tgt := 2) O (xx_dt dd_X2_isAhead 24 rfl) (by decide) ?_
        exact kk2 () (by simp only [if_pos q2])
      · refine sw_aload_n O (xx_dt dd_X2_isAhead 12 rfl) rfl ?_
        refine sw_iload_n O (xx_dt dd_X2_isAhead 13 rfl) rfl ?_
        refine sw_iaload (v := .int (f i2)) O (xx_dt dd_X2_isAhead 14 rfl) (ha) (pk_in i2 _ (by omega)) (by rw [nI_clamp (by omega)]; try exact rfl) ?_
        refine sw_aload_n O (xx_dt dd_X2_isAhead 15 rfl) rfl ?_
        refine sw_iload_n O (xx_dt dd_X2_isAhead 16 rfl) rfl ?_
        refine sw_iaload (v := .int (g i2)) O (xx_dt dd_X2_isAhead 17 rfl) (hb) (pk_in i2 _ (by omega)) (by rw [nI_clamp (by omega)]; try exact rfl) ?_
        refine sw_icmp_ge (tgt := 30) O (xx_dt dd_X2_isAhead 18 rfl) (by decide) (fun q3 => ?_) (fun q3 => ?_)
        · refine sw_iconst (x := 0) O (xx_dt dd_X2_isAhead 21 rfl) (by decide) ?_
          exact sw_iret O (xx_dt dd_X2_isAhead 22 rfl) rfl rfl (by rw [hQ, kr2 0 (by simp only [if_neg q2, if_pos q3])]; exact ⟨rfl, rfl⟩)
        · refine sw_iconst (x := 1) O (xx_dt dd_X2_isAhead 19 rfl) (by decide) ?_
          refine sw_goto (tgt := 31) O (xx_dt dd_X2_isAhead 20 rfl) (by decide) ?_
          exact sw_iret O (xx_dt dd_X2_isAhead 22 rfl) rfl rfl (by rw [hQ, kr2 1 (by simp only [if_neg q2, if_neg q3])]; exact ⟨rfl, rfl⟩)
  · show SW Y _ _ (h) 2 [.ref a, .ref b, .int (nI 6)] []
    refine sw_iload_n O (xx_dt dd_X2_isAhead 2 rfl) rfl ?_
    refine sw_bipush (x := 6) O (xx_dt dd_X2_isAhead 3 rfl) (by decide) ?_
    refine sw_icmp_ge (tgt := 38) O (xx_dt dd_X2_isAhead 4 rfl) (by decide) (fun q1 => ?_) (fun q1 => ?_)
    · refine sw_iconst (x := 0) O (xx_dt dd_X2_isAhead 25 rfl) (by decide) ?_
      exact sw_iret O (xx_dt dd_X2_isAhead 26 rfl) rfl rfl (by rw [hQ]; exact ⟨by unfold f_isAhead; simp only [x_isAhead_2, eN2], rfl⟩)
    · exact absurd (Int32.le_refl _) q1
  · unfold f_isAhead; simp only [x_isAhead_2, eN2]

def x_moveTaken_19 (σ : XS9) (i : Nat) (x y : Int32) (R : Nat) (gr : Nat → Nat) (s0 : XS9 × Int32) : XS9 × Int32 := xit (fun i19 s19 => (u2 (u2 s19.1 1044 i19 ((s19.1 1044 i19) + ((s19.2 - s19.2 / 6 * 6) * y))) (1121 + gr i) i19 ((s19.1 (1121 + gr i) i19) + ((s19.2 - s19.2 / 6 * 6) * y)), s19.2 / 6)) R 0 s0
def g_moveTaken (σ : XS9) (i : Nat) (x y : Int32) (R : Nat) (gr : Nat → Nat) : XS9 := (x_moveTaken_19 σ i x y R gr (σ, x)).1
theorem ct_X2_moveTaken {l : Launch} {h : XH} (hl : l.stackTraces = false) {σ : XS9} {R : Nat} (hR : σ 1001 4 = nI R) (hR5 : R ≤ 5) {gr : Nat → Nat} (hgr : ∀ i, i < 6 → σ 1017 i = nI (gr i) ∧ gr i < 4) {i : Nat} {x y : Int32} (hi : i < 6) : XEx l m_X2_moveTaken 0 0 0 [.ref 1003, .ref 1001, .int (nI i), .int x, .int y] (setC σ h) (none) (setC (g_moveTaken σ i x y R gr) h) := by
  refine XMet.of hl rfl rfl (Nat.le_of_ble_eq_true rfl) (fun Y O hh hQ => ?_)
  show SW Y 0 0 (setC σ h) 0 [.ref 1003, .ref 1001, .int (nI i), .int x, .int y, xx_d, xx_d, xx_d, xx_d] []
  refine sw_aload_n O (xx_dt dd_X2_moveTaken 0 rfl) rfl ?_
  refine sw_get (v := .ref 1120) O (xx_dt dd_X2_moveTaken 1 rfl) cl_X2 fl_X2_41 (ly_1003 σ h) (by decide) rfl ?_
  refine sw_aload_n O (xx_dt dd_X2_moveTaken 2 rfl) rfl ?_
  refine sw_get (v := .ref 1017) O (xx_dt dd_X2_moveTaken 3 rfl) cl_X6 fl_X2_87 (ly_1001 σ h) (by decide) rfl ?_
  refine sw_iload_n O (xx_dt dd_X2_moveTaken 4 rfl) rfl ?_
  have hz9 := (hgr i (by omega)).2
  refine sw_iaload (v := .int (nI (gr i))) O (xx_dt dd_X2_moveTaken 5 rfl) (ly_1017 σ h) (pk_in i _ (by omega)) (by rw [nI_clamp (by omega)]; exact (congrArg Value.int (hgr i (by omega)).1)) ?_
  refine sw_aaload (v := .ref (1121 + gr i)) O (xx_dt dd_X2_moveTaken 6 rfl) (by omega) (by omega) (ly_1120 σ h) (pk_in (gr i) _ (by omega)) (by rw [nI_clamp (by omega)]; try exact rfl) ?_
  refine sw_astore (ls2 := [.ref 1003, .ref 1001, .int (nI i), .int x, .int y, .ref (1121 + gr i), xx_d, xx_d, xx_d]) O (xx_dt dd_X2_moveTaken 7 rfl) (by decide) rfl ?_
  refine sw_iload_n O (xx_dt dd_X2_moveTaken 8 rfl) rfl ?_
  refine sw_istore (ls2 := [.ref 1003, .ref 1001, .int (nI i), .int x, .int y, .ref (1121 + gr i), .int x, xx_d, xx_d]) O (xx_dt dd_X2_moveTaken 9 rfl) (by decide) rfl ?_
  refine sw_iconst (x := 0) O (xx_dt dd_X2_moveTaken 10 rfl) (by decide) ?_
  refine sw_istore (ls2 := [.ref 1003, .ref 1001, .int (nI i), .int x, .int y, .ref (1121 + gr i), .int x, .int 0, xx_d]) O (xx_dt dd_X2_moveTaken 11 rfl) (by decide) rfl ?_
  refine sw_for (fun i19 s19 => (u2 (u2 s19.1 1044 i19 ((s19.1 1044 i19) + ((s19.2 - s19.2 / 6 * 6) * y))) (1121 + gr i) i19 ((s19.1 (1121 + gr i) i19) + ((s19.2 - s19.2 / 6 * 6) * y)), s19.2 / 6)) (fun _ s19 => s19.1 1001 4 = nI R) (hp := fun s19 => setC s19.1 h) (hd := 19) (lc := fun i19 s19 => [.ref 1003, .ref 1001, .int (nI i), .int x, .int y, .ref (1121 + gr i), .int s19.2, .int (nI i19), xx_d]) (N := R) (fun i19 s19 hi19 hP19 => ⟨(by (try dsimp only); (repeat' split) <;> first | exact hP19 | (simp (disch := omega) only [u2_ne, uR_ne, fr_fill, fr_useWaiver, fr_undoContradictions, fr_lowerEligible, fr_moveHeld, fr_raisePrices, fr_begin, fr_closeRound]; exact hP19)), fun kk19 => ?_⟩) R 0 (σ, x) (by omega) (hR) (fun hP19 => ?_)
  · refine sw_iload O (xx_dt dd_X2_moveTaken 12 rfl) rfl ?_
    refine sw_aload_n O (xx_dt dd_X2_moveTaken 13 rfl) rfl ?_
    refine sw_get (v := .int (nI R)) O (xx_dt dd_X2_moveTaken 14 rfl) cl_X6 fl_X2_90 (ly_1001 s19.1 h) (by decide) (congrArg Value.int hP19) ?_
    refine sw_icmp_ge (tgt := 73) O (xx_dt dd_X2_moveTaken 15 rfl) (by decide) (fun q1 => ?_) (fun q1 => ?_)
    · exact absurd q1 (nI_ge (b := R) hi19 (by omega))
    · refine sw_iload O (xx_dt dd_X2_moveTaken 16 rfl) rfl ?_
      refine sw_bipush (x := 6) O (xx_dt dd_X2_moveTaken 17 rfl) (by decide) ?_
      refine sw_irem O (xx_dt dd_X2_moveTaken 18 rfl) (by first | decide | assumption) ?_
      refine sw_iload O (xx_dt dd_X2_moveTaken 19 rfl) rfl ?_
      refine sw_imul O (xx_dt dd_X2_moveTaken 20 rfl) ?_
      refine sw_istore (ls2 := [.ref 1003, .ref 1001, .int (nI i), .int x, .int y, .ref (1121 + gr i), .int s19.2, .int (nI i19), .int ((s19.2 - s19.2 / 6 * 6) * y)]) O (xx_dt dd_X2_moveTaken 21 rfl) (by decide) rfl ?_
      refine sw_iload O (xx_dt dd_X2_moveTaken 22 rfl) rfl ?_
      refine sw_bipush (x := 6) O (xx_dt dd_X2_moveTaken 23 rfl) (by decide) ?_
      refine sw_idiv O (xx_dt dd_X2_moveTaken 24 rfl) (by first | decide | assumption) ?_
      refine sw_istore (ls2 := [.ref 1003, .ref 1001, .int (nI i), .int x, .int y, .ref (1121 + gr i), .int (s19.2 / 6), .int (nI i19), .int ((s19.2 - s19.2 / 6 * 6) * y)]) O (xx_dt dd_X2_moveTaken 25 rfl) (by decide) rfl ?_
      refine sw_aload_n O (xx_dt dd_X2_moveTaken 26 rfl) rfl ?_
      refine sw_get (v := .ref 1044) O (xx_dt dd_X2_moveTaken 27 rfl) cl_X2 fl_X2_38 (ly_1003 s19.1 h) (by decide) rfl ?_
      refine sw_iload O (xx_dt dd_X2_moveTaken 28 rfl) rfl ?_
      refine sw_dup2 O (xx_dt dd_X2_moveTaken 29 rfl) rfl rfl ?_
      refine sw_iaload (v := .int (s19.1 1044 i19)) O (xx_dt dd_X2_moveTaken 30 rfl) (ly_1044 s19.1 h) (pk_in i19 _ (by omega)) (by rw [nI_clamp (by omega)]; try exact rfl) ?_
      refine sw_iload O (xx_dt dd_X2_moveTaken 31 rfl) rfl ?_
      refine sw_iadd O (xx_dt dd_X2_moveTaken 32 rfl) ?_
      refine sw_iastore (h2 := setC (u2 s19.1 1044 i19 ((s19.1 1044 i19) + ((s19.2 - s19.2 / 6 * 6) * y))) h) O (xx_dt dd_X2_moveTaken 33 rfl) (ly_1044 s19.1 h) (pk_in i19 _ (by omega)) (by decide) (by rw [nI_clamp (by omega)]; exact pa_1044) ?_
      refine sw_aload O (xx_dt dd_X2_moveTaken 34 rfl) rfl ?_
      refine sw_iload O (xx_dt dd_X2_moveTaken 35 rfl) rfl ?_
      refine sw_dup2 O (xx_dt dd_X2_moveTaken 36 rfl) rfl rfl ?_
      refine sw_iaload (v := .int (s19.1 (1121 + gr i) i19)) O (xx_dt dd_X2_moveTaken 37 rfl) (lr_1120 (u2 s19.1 1044 i19 ((s19.1 1044 i19) + ((s19.2 - s19.2 / 6 * 6) * y))) h (k := gr i) (by omega)) (pk_in i19 _ (by omega)) (by rw [nI_clamp (by omega)]; exact (congrArg Value.int (congrFun (u2_ne (by omega)) i19))) ?_
      refine sw_iload O (xx_dt dd_X2_moveTaken 38 rfl) rfl ?_
      refine sw_iadd O (xx_dt dd_X2_moveTaken 39 rfl) ?_
      refine sw_iastore (h2 := setC (u2 (u2 s19.1 1044 i19 ((s19.1 1044 i19) + ((s19.2 - s19.2 / 6 * 6) * y))) (1121 + gr i) i19 ((s19.1 (1121 + gr i) i19) + ((s19.2 - s19.2 / 6 * 6) * y))) h) O (xx_dt dd_X2_moveTaken 40 rfl) (lr_1120 (u2 s19.1 1044 i19 ((s19.1 1044 i19) + ((s19.2 - s19.2 / 6 * 6) * y))) h (k := gr i) (by omega)) (pk_in i19 _ (by omega)) (by omega) (by rw [nI_clamp (by omega)]; exact (pr_1120 (by omega))) ?_
      refine sw_iinc (y := nI (i19 + 1)) (ls2 := [.ref 1003, .ref 1001, .int (nI i), .int x, .int y, .ref (1121 + gr i), .int (s19.2 / 6), .int (nI (i19 + 1)), .int ((s19.2 - s19.2 / 6 * 6) * y)]) O (xx_dt dd_X2_moveTaken 41 rfl) rfl (nI_1 _) (by decide) rfl ?_
      refine sw_goto (tgt := 19) O (xx_dt dd_X2_moveTaken 42 rfl) (by decide) ?_
      refine sw_dum (ls2 := [.ref 1003, .ref 1001, .int (nI i), .int x, .int y, .ref (1121 + gr i), .int (s19.2 / 6), .int (nI (i19 + 1)), xx_d]) ⟨.inr rfl, .inr rfl, .inr rfl, .inr rfl, .inr rfl, .inr rfl, .inr rfl, .inr rfl, .inl rfl, trivial⟩ ?_
      exact kk19
  · show SW Y _ _ (setC ((x_moveTaken_19 σ i x y R gr (σ, x)).1) h) 19 [.ref 1003, .ref 1001, .int (nI i), .int x, .int y, .ref (1121 + gr i), .int ((x_moveTaken_19 σ i x y R gr (σ, x)).2), .int (nI R), xx_d] []
    refine sw_iload O (xx_dt dd_X2_moveTaken 12 rfl) rfl ?_
    refine sw_aload_n O (xx_dt dd_X2_moveTaken 13 rfl) rfl ?_
    refine sw_get (v := .int (nI R)) O (xx_dt dd_X2_moveTaken 14 rfl) cl_X6 fl_X2_90 (ly_1001 ((x_moveTaken_19 σ i x y R gr (σ, x)).1) h) (by decide) (congrArg Value.int hP19) ?_
    refine sw_icmp_ge (tgt := 73) O (xx_dt dd_X2_moveTaken 15 rfl) (by decide) (fun q1 => ?_) (fun q1 => ?_)
    · exact sw_ret O (xx_dt dd_X2_moveTaken 43 rfl) rfl (by rw [hQ]; exact ⟨rfl, by unfold g_moveTaken; rfl⟩)
    · exact absurd (Int32.le_refl _) q1
theorem fr_moveTaken {σ : XS9} {i R : Nat} {x y : Int32} {gr : Nat → Nat} (hg : gr i < 4) {q : Nat} (h : q ≠ 1044 ∧ q ≠ 1121 + gr i) : g_moveTaken σ i x y R gr q = σ q := by
  have H0 : ∀ s0, (x_moveTaken_19 σ i x y R gr s0).1 q = s0.1 q := fun s0 => xit_keep (fun s : XS9 × Int32 => s.1 q) (fun i s => by (try dsimp only); (repeat' split) <;> first | rfl | simp (disch := omega) only [u2_ne, uR_ne, fr_fill, fr_useWaiver, fr_undoContradictions, fr_lowerEligible, fr_moveHeld, fr_raisePrices, fr_begin, fr_closeRound]) _ _ _
  unfold g_moveTaken
  (repeat' split) <;> first | rfl | simp (disch := omega) only [u2_ne, uR_ne, fr_fill, fr_useWaiver, fr_undoContradictions, fr_lowerEligible, fr_moveHeld, fr_raisePrices, fr_begin, fr_closeRound, H0]
def x_fits_19 (σ : XS9) (i : Nat) (x : Int32) (R : Nat) (gr : Nat → Nat) (s0 : Int32) : Int32 ⊕ Int32 := xitR (fun i19 s19 => (if ((σ 1010 i19) - (σ 1044 i19)) < (s19 - s19 / 6 * 6) then .inr 0 else (if (nI (gr i)) = 0 then .inl (s19 / 6) else (if (s19 - s19 / 6 * 6) ≤ ((σ 1001 10) - (σ (1121 + gr i) i19)) then .inl (s19 / 6) else .inr 0)))) R 0 s0
def f_fits (σ : XS9) (i : Nat) (x : Int32) (R : Nat) (gr : Nat → Nat) : Int32 := (match (x_fits_19 σ i x R gr x) with | .inl s19 => 1 | .inr r19 => r19)
theorem ct_X2_fits {l : Launch} {h : XH} (hl : l.stackTraces = false) {σ : XS9} {R : Nat} (hR : σ 1001 4 = nI R) (hR5 : R ≤ 5) {gr : Nat → Nat} (hgr : ∀ i, i < 6 → σ 1017 i = nI (gr i) ∧ gr i < 4) {i : Nat} {x : Int32} (hi : i < 6) : XEx l m_X2_fits 0 0 0 [.ref 1003, .ref 1001, .int (nI i), .int x] (setC σ h) (some (.int (f_fits σ i x R gr))) (setC σ h) := by
  refine XMet.of hl rfl rfl (Nat.le_of_ble_eq_true rfl) (fun Y O hh hQ => ?_)
  show SW Y 0 0 (setC σ h) 0 [.ref 1003, .ref 1001, .int (nI i), .int x, xx_d, xx_d, xx_d, xx_d] []
  refine sw_aload_n O (xx_dt dd_X2_fits 0 rfl) rfl ?_
  refine sw_get (v := .ref 1120) O (xx_dt dd_X2_fits 1 rfl) cl_X2 fl_X2_41 (ly_1003 σ h) (by decide) rfl ?_
  refine sw_aload_n O (xx_dt dd_X2_fits 2 rfl) rfl ?_
  refine sw_get (v := .ref 1017) O (xx_dt dd_X2_fits 3 rfl) cl_X6 fl_X2_87 (ly_1001 σ h) (by decide) rfl ?_
  refine sw_iload_n O (xx_dt dd_X2_fits 4 rfl) rfl ?_
  have hz9 := (hgr i (by omega)).2
  refine sw_iaload (v := .int (nI (gr i))) O (xx_dt dd_X2_fits 5 rfl) (ly_1017 σ h) (pk_in i _ (by omega)) (by rw [nI_clamp (by omega)]; exact (congrArg Value.int (hgr i (by omega)).1)) ?_
  refine sw_aaload (v := .ref (1121 + gr i)) O (xx_dt dd_X2_fits 6 rfl) (by omega) (by omega) (ly_1120 σ h) (pk_in (gr i) _ (by omega)) (by rw [nI_clamp (by omega)]; try exact rfl) ?_
  refine sw_astore (ls2 := [.ref 1003, .ref 1001, .int (nI i), .int x, .ref (1121 + gr i), xx_d, xx_d, xx_d]) O (xx_dt dd_X2_fits 7 rfl) (by decide) rfl ?_
  refine sw_iload_n O (xx_dt dd_X2_fits 8 rfl) rfl ?_
  refine sw_istore (ls2 := [.ref 1003, .ref 1001, .int (nI i), .int x, .ref (1121 + gr i), .int x, xx_d, xx_d]) O (xx_dt dd_X2_fits 9 rfl) (by decide) rfl ?_
  refine sw_iconst (x := 0) O (xx_dt dd_X2_fits 10 rfl) (by decide) ?_
  refine sw_istore (ls2 := [.ref 1003, .ref 1001, .int (nI i), .int x, .ref (1121 + gr i), .int x, .int 0, xx_d]) O (xx_dt dd_X2_fits 11 rfl) (by decide) rfl ?_
  refine sw_forR (R := Int32) (fun i19 s19 => (if ((σ 1010 i19) - (σ 1044 i19)) < (s19 - s19 / 6 * 6) then .inr 0 else (if (nI (gr i)) = 0 then .inl (s19 / 6) else (if (s19 - s19 / 6 * 6) ≤ ((σ 1001 10) - (σ (1121 + gr i) i19)) then .inl (s19 / 6) else .inr 0)))) (fun _ _ => True) (FR := fun r => f_fits σ i x R gr = r) (hp := fun _ => setC σ h) (hd := 19) (lc := fun i19 s19 => [.ref 1003, .ref 1001, .int (nI i), .int x, .ref (1121 + gr i), .int s19, .int (nI i19), xx_d]) (N := R) (fun i19 s19 hi19 hP19 => ⟨fun _ _ => trivial, fun kk19 kr19 => ?_⟩) R 0 x (by omega) (trivial) (fun sN19 eN19 hP19 => ?_) (fun r19 eN19 => ?_)
  · refine sw_iload O (xx_dt dd_X2_fits 12 rfl) rfl ?_
    refine sw_aload_n O (xx_dt dd_X2_fits 13 rfl) rfl ?_
    refine sw_get (v := .int (nI R)) O (xx_dt dd_X2_fits 14 rfl) cl_X6 fl_X2_90 (ly_1001 σ h) (by decide) (congrArg Value.int hR) ?_
    refine sw_icmp_ge (tgt := 94) O (xx_dt dd_X2_fits 15 rfl) (by decide) (fun q1 => ?_) (fun q1 => ?_)
    · exact absurd q1 (nI_ge (b := R) hi19 (by omega))
    · refine sw_iload O (xx_dt dd_X2_fits 16 rfl) rfl ?_
      refine sw_bipush (x := 6) O (xx_dt dd_X2_fits 17 rfl) (by decide) ?_
      refine sw_irem O (xx_dt dd_X2_fits 18 rfl) (by first | decide | assumption) ?_
      refine sw_istore (ls2 := [.ref 1003, .ref 1001, .int (nI i), .int x, .ref (1121 + gr i), .int s19, .int (nI i19), .int (s19 - s19 / 6 * 6)]) O (xx_dt dd_X2_fits 19 rfl) (by decide) rfl ?_
      refine sw_iload O (xx_dt dd_X2_fits 20 rfl) rfl ?_
      refine sw_bipush (x := 6) O (xx_dt dd_X2_fits 21 rfl) (by decide) ?_
      refine sw_idiv O (xx_dt dd_X2_fits 22 rfl) (by first | decide | assumption) ?_
      refine sw_istore (ls2 := [.ref 1003, .ref 1001, .int (nI i), .int x, .ref (1121 + gr i), .int (s19 / 6), .int (nI i19), .int (s19 - s19 / 6 * 6)]) O (xx_dt dd_X2_fits 23 rfl) (by decide) rfl ?_
      refine sw_iload O (xx_dt dd_X2_fits 24 rfl) rfl ?_
      refine sw_aload_n O (xx_dt dd_X2_fits 25 rfl) rfl ?_
      refine sw_get (v := .ref 1010) O (xx_dt dd_X2_fits 26 rfl) cl_X6 fl_X2_93 (ly_1001 σ h) (by decide) rfl ?_
      refine sw_iload O (xx_dt dd_X2_fits 27 rfl) rfl ?_
      refine sw_iaload (v := .int (σ 1010 i19)) O (xx_dt dd_X2_fits 28 rfl) (ly_1010 σ h) (pk_in i19 _ (by omega)) (by rw [nI_clamp (by omega)]; try exact rfl) ?_
      refine sw_aload_n O (xx_dt dd_X2_fits 29 rfl) rfl ?_
      refine sw_get (v := .ref 1044) O (xx_dt dd_X2_fits 30 rfl) cl_X2 fl_X2_38 (ly_1003 σ h) (by decide) rfl ?_
      refine sw_iload O (xx_dt dd_X2_fits 31 rfl) rfl ?_
      refine sw_iaload (v := .int (σ 1044 i19)) O (xx_dt dd_X2_fits 32 rfl) (ly_1044 σ h) (pk_in i19 _ (by omega)) (by rw [nI_clamp (by omega)]; try exact rfl) ?_
      refine sw_isub O (xx_dt dd_X2_fits 33 rfl) ?_
      refine sw_icmp_gt (tgt := 86) O (xx_dt dd_X2_fits 34 rfl) (by decide) (fun q2 => ?_) (fun q2 => ?_)
      · refine sw_iconst (x := 0) O (xx_dt dd_X2_fits 48 rfl) (by decide) ?_
        exact sw_iret O (xx_dt dd_X2_fits 49 rfl) rfl rfl (by rw [hQ, kr19 0 (by simp only [if_pos q2])]; exact ⟨rfl, rfl⟩)
      · refine sw_aload_n O (xx_dt dd_X2_fits 35 rfl) rfl ?_
        refine sw_get (v := .ref 1017) O (xx_dt dd_X2_fits 36 rfl) cl_X6 fl_X2_87 (ly_1001 σ h) (by decide) rfl ?_
        refine sw_iload_n O (xx_dt dd_X2_fits 37 rfl) rfl ?_
        have hz67 := (hgr i (by omega)).2
        refine sw_iaload (v := .int (nI (gr i))) O (xx_dt dd_X2_fits 38 rfl) (ly_1017 σ h) (pk_in i _ (by omega)) (by rw [nI_clamp (by omega)]; exact (congrArg Value.int (hgr i (by omega)).1)) ?_
        refine sw_if_eq (tgt := 88) O (xx_dt dd_X2_fits 39 rfl) (by decide) (fun q3 => ?_) (fun q3 => ?_)
        · refine sw_iinc (y := nI (i19 + 1)) (ls2 := [.ref 1003, .ref 1001, .int (nI i), .int x, .ref (1121 + gr i), .int (s19 / 6), .int (nI (i19 + 1)), .int (s19 - s19 / 6 * 6)]) O (xx_dt dd_X2_fits 50 rfl) rfl (nI_1 _) (by decide) rfl ?_
          refine sw_goto (tgt := 19) O (xx_dt dd_X2_fits 51 rfl) (by decide) ?_
          refine sw_dum (ls2 := [.ref 1003, .ref 1001, .int (nI i), .int x, .ref (1121 + gr i), .int (s19 / 6), .int (nI (i19 + 1)), xx_d]) ⟨.inr rfl, .inr rfl, .inr rfl, .inr rfl, .inr rfl, .inr rfl, .inr rfl, .inl rfl, trivial⟩ ?_
          exact kk19 (s19 / 6) (by simp only [if_neg q2, if_pos q3])
        · refine sw_iload O (xx_dt dd_X2_fits 40 rfl) rfl ?_
          refine sw_aload_n O (xx_dt dd_X2_fits 41 rfl) rfl ?_
          refine sw_get (v := .int (σ 1001 10)) O (xx_dt dd_X2_fits 42 rfl) cl_X6 fl_X2_96 (ly_1001 σ h) (by decide) rfl ?_
          refine sw_aload O (xx_dt dd_X2_fits 43 rfl) rfl ?_
          refine sw_iload O (xx_dt dd_X2_fits 44 rfl) rfl ?_
          refine sw_iaload (v := .int (σ (1121 + gr i) i19)) O (xx_dt dd_X2_fits 45 rfl) (lr_1120 σ h (k := gr i) (by omega)) (pk_in i19 _ (by omega)) (by rw [nI_clamp (by omega)]; try exact rfl) ?_
          refine sw_isub O (xx_dt dd_X2_fits 46 rfl) ?_
          refine sw_icmp_le (tgt := 88) O (xx_dt dd_X2_fits 47 rfl) (by decide) (fun q4 => ?_) (fun q4 => ?_)
          · refine sw_iinc (y := nI (i19 + 1)) (ls2 := [.ref 1003, .ref 1001, .int (nI i), .int x, .ref (1121 + gr i), .int (s19 / 6), .int (nI (i19 + 1)), .int (s19 - s19 / 6 * 6)]) O (xx_dt dd_X2_fits 50 rfl) rfl (nI_1 _) (by decide) rfl ?_
            refine sw_goto (tgt := 19) O (xx_dt dd_X2_fits 51 rfl) (by decide) ?_
            refine sw_dum (ls2 := [.ref 1003, .ref 1001, .int (nI i), .int x, .ref (1121 + gr i), .int (s19 / 6), .int (nI (i19 + 1)), xx_d]) ⟨.inr rfl, .inr rfl, .inr rfl, .inr rfl, .inr rfl, .inr rfl, .inr rfl, .inl rfl, trivial⟩ ?_
            exact kk19 (s19 / 6) (by simp only [if_neg q2, if_neg q3, if_pos q4])
          · refine sw_iconst (x := 0) O (xx_dt dd_X2_fits 48 rfl) (by decide) ?_
            exact sw_iret O (xx_dt dd_X2_fits 49 rfl) rfl rfl (by rw [hQ, kr19 0 (by simp only [if_neg q2, if_neg q3, if_neg q4])]; exact ⟨rfl, rfl⟩)
  · show SW Y _ _ (setC σ h) 19 [.ref 1003, .ref 1001, .int (nI i), .int x, .ref (1121 + gr i), .int sN19, .int (nI R), xx_d] []
    refine sw_iload O (xx_dt dd_X2_fits 12 rfl) rfl ?_
    refine sw_aload_n O (xx_dt dd_X2_fits 13 rfl) rfl ?_
    refine sw_get (v := .int (nI R)) O (xx_dt dd_X2_fits 14 rfl) cl_X6 fl_X2_90 (ly_1001 σ h) (by decide) (congrArg Value.int hR) ?_
    refine sw_icmp_ge (tgt := 94) O (xx_dt dd_X2_fits 15 rfl) (by decide) (fun q1 => ?_) (fun q1 => ?_)
    · refine sw_iconst (x := 1) O (xx_dt dd_X2_fits 52 rfl) (by decide) ?_
      exact sw_iret O (xx_dt dd_X2_fits 53 rfl) rfl rfl (by rw [hQ]; exact ⟨by unfold f_fits; simp only [x_fits_19, eN19], rfl⟩)
    · exact absurd (Int32.le_refl _) q1
  · unfold f_fits; simp only [x_fits_19, eN19]
def g_keepIfBetter (σ : XS9) (S : Nat) (x : Int32) : XS9 := (if (σ 1042 S) < x then uR (u2 σ 1042 S x) (1051 + S) (va_cpy (σ 1043) (σ (1051 + S)) 0 0 6) else (if x = (σ 1042 S) then (if (f_isAhead (σ 1043) (σ (1051 + S))) = 0 then σ else uR (u2 σ 1042 S x) (1051 + S) (va_cpy (σ 1043) (σ (1051 + S)) 0 0 6)) else σ))
theorem ct_X2_keepIfBetter {l : Launch} {h : XH} (hl : l.stackTraces = false) {σ : XS9} {S : Nat} {x : Int32} (hS : S < 64) : XEx l m_X2_keepIfBetter 1 0 0 [.ref 1003, .int (nI S), .int x] (setC σ h) (none) (setC (g_keepIfBetter σ S x) h) := by
  refine XMet.of hl rfl rfl (Nat.le_of_ble_eq_true rfl) (fun Y O hh hQ => ?_)
  show SW Y 0 0 (setC σ h) 0 [.ref 1003, .int (nI S), .int x] []
  refine sw_iload_n O (xx_dt dd_X2_keepIfBetter 0 rfl) rfl ?_
  refine sw_aload_n O (xx_dt dd_X2_keepIfBetter 1 rfl) rfl ?_
  refine sw_get (v := .ref 1042) O (xx_dt dd_X2_keepIfBetter 2 rfl) cl_X2 fl_X2_29 (ly_1003 σ h) (by decide) rfl ?_
  refine sw_iload_n O (xx_dt dd_X2_keepIfBetter 3 rfl) rfl ?_
  refine sw_iaload (v := .int (σ 1042 S)) O (xx_dt dd_X2_keepIfBetter 4 rfl) (ly_1042 σ h) (pk_in S _ (by omega)) (by rw [nI_clamp (by omega)]; try exact rfl) ?_
  refine sw_icmp_gt (tgt := 36) O (xx_dt dd_X2_keepIfBetter 5 rfl) (by decide) (fun q1 => ?_) (fun q1 => ?_)
  · refine sw_aload_n O (xx_dt dd_X2_keepIfBetter 20 rfl) rfl ?_
    refine sw_get (v := .ref 1042) O (xx_dt dd_X2_keepIfBetter 21 rfl) cl_X2 fl_X2_29 (ly_1003 σ h) (by decide) rfl ?_
    refine sw_iload_n O (xx_dt dd_X2_keepIfBetter 22 rfl) rfl ?_
    refine sw_iload_n O (xx_dt dd_X2_keepIfBetter 23 rfl) rfl ?_
    refine sw_iastore (h2 := setC (u2 σ 1042 S x) h) O (xx_dt dd_X2_keepIfBetter 24 rfl) (ly_1042 σ h) (pk_in S _ (by omega)) (by decide) (by rw [nI_clamp (by omega)]; exact pa_1042) ?_
    refine sw_aload_n O (xx_dt dd_X2_keepIfBetter 25 rfl) rfl ?_
    refine sw_get (v := .ref 1043) O (xx_dt dd_X2_keepIfBetter 26 rfl) cl_X2 fl_X2_35 (ly_1003 (u2 σ 1042 S x) h) (by decide) rfl ?_
    refine sw_iconst (x := 0) O (xx_dt dd_X2_keepIfBetter 27 rfl) (by decide) ?_
    refine sw_aload_n O (xx_dt dd_X2_keepIfBetter 28 rfl) rfl ?_
    refine sw_get (v := .ref 1050) O (xx_dt dd_X2_keepIfBetter 29 rfl) cl_X2 fl_X2_32 (ly_1003 (u2 σ 1042 S x) h) (by decide) rfl ?_
    refine sw_iload_n O (xx_dt dd_X2_keepIfBetter 30 rfl) rfl ?_
    refine sw_aaload (v := .ref (1051 + S)) O (xx_dt dd_X2_keepIfBetter 31 rfl) (by omega) (by omega) (ly_1050 (u2 σ 1042 S x) h) (pk_in S _ (by omega)) (by rw [nI_clamp (by omega)]; try exact rfl) ?_
    refine sw_iconst (x := 0) O (xx_dt dd_X2_keepIfBetter 32 rfl) (by decide) ?_
    refine sw_bipush (x := 6) O (xx_dt dd_X2_keepIfBetter 33 rfl) (by decide) ?_
    refine sw_copy (h2' := setC (uR (u2 σ 1042 S x) (1051 + S) (va_cpy (σ 1043) (σ (1051 + S)) 0 0 6)) h) O ay_X2_107 (xx_dt dd_X2_keepIfBetter 34 rfl) (ia_1043.getE rfl) ((ir_1050 (k := S) (by omega)).getE (u2_ne (by omega))) (by omega) (by decide) (by decide) (by decide) (by decide) (by decide) (by omega) (by decide +kernel) (ir_1050 (k := S) (by omega)).putR ?_
    exact sw_ret O (xx_dt dd_X2_keepIfBetter 35 rfl) rfl (by rw [hQ]; exact ⟨rfl, by unfold g_keepIfBetter; simp only [if_pos q1]⟩)
  · refine sw_iload_n O (xx_dt dd_X2_keepIfBetter 6 rfl) rfl ?_
    refine sw_aload_n O (xx_dt dd_X2_keepIfBetter 7 rfl) rfl ?_
    refine sw_get (v := .ref 1042) O (xx_dt dd_X2_keepIfBetter 8 rfl) cl_X2 fl_X2_29 (ly_1003 σ h) (by decide) rfl ?_
    refine sw_iload_n O (xx_dt dd_X2_keepIfBetter 9 rfl) rfl ?_
    refine sw_iaload (v := .int (σ 1042 S)) O (xx_dt dd_X2_keepIfBetter 10 rfl) (ly_1042 σ h) (pk_in S _ (by omega)) (by rw [nI_clamp (by omega)]; try exact rfl) ?_
    refine sw_icmp_ne (tgt := 60) O (xx_dt dd_X2_keepIfBetter 11 rfl) (by decide) (fun q2 => ?_) (fun q2 => ?_)
    · exact sw_ret O (xx_dt dd_X2_keepIfBetter 35 rfl) rfl (by rw [hQ]; exact ⟨rfl, by unfold g_keepIfBetter; simp only [if_neg q1, if_neg q2]⟩)
    · refine sw_aload_n O (xx_dt dd_X2_keepIfBetter 12 rfl) rfl ?_
      refine sw_get (v := .ref 1043) O (xx_dt dd_X2_keepIfBetter 13 rfl) cl_X2 fl_X2_35 (ly_1003 σ h) (by decide) rfl ?_
      refine sw_aload_n O (xx_dt dd_X2_keepIfBetter 14 rfl) rfl ?_
      refine sw_get (v := .ref 1050) O (xx_dt dd_X2_keepIfBetter 15 rfl) cl_X2 fl_X2_32 (ly_1003 σ h) (by decide) rfl ?_
      refine sw_iload_n O (xx_dt dd_X2_keepIfBetter 16 rfl) rfl ?_
      refine sw_aaload (v := .ref (1051 + S)) O (xx_dt dd_X2_keepIfBetter 17 rfl) (by omega) (by omega) (ly_1050 σ h) (pk_in S _ (by omega)) (by rw [nI_clamp (by omega)]; try exact rfl) ?_
      refine sw_callSx (as := [.ref 1043, .ref (1051 + S)]) (st := []) (st2 := [.int (f_isAhead (σ 1043) (σ (1051 + S)))]) O (ct_X2_isAhead hl (f := σ 1043) (g := σ (1051 + S)) (ia_1043.getE rfl) ((ir_1050 (k := S) (by omega)).getE rfl)) ce_X2_isAhead ml_X2_103 st_X2_isAhead (xx_dt dd_X2_keepIfBetter 18 rfl) (by decide) rfl rfl (Nat.le_of_ble_eq_true rfl) rfl ?_
      refine sw_if_eq (tgt := 60) O (xx_dt dd_X2_keepIfBetter 19 rfl) (by decide) (fun q3 => ?_) (fun q3 => ?_)
      · exact sw_ret O (xx_dt dd_X2_keepIfBetter 35 rfl) rfl (by rw [hQ]; exact ⟨rfl, by unfold g_keepIfBetter; simp only [if_neg q1, if_pos q2, if_pos q3]⟩)
      · refine sw_aload_n O (xx_dt dd_X2_keepIfBetter 20 rfl) rfl ?_
        refine sw_get (v := .ref 1042) O (xx_dt dd_X2_keepIfBetter 21 rfl) cl_X2 fl_X2_29 (ly_1003 σ h) (by decide) rfl ?_
        refine sw_iload_n O (xx_dt dd_X2_keepIfBetter 22 rfl) rfl ?_
        refine sw_iload_n O (xx_dt dd_X2_keepIfBetter 23 rfl) rfl ?_
        refine sw_iastore (h2 := setC (u2 σ 1042 S x) h) O (xx_dt dd_X2_keepIfBetter 24 rfl) (ly_1042 σ h) (pk_in S _ (by omega)) (by decide) (by rw [nI_clamp (by omega)]; exact pa_1042) ?_
        refine sw_aload_n O (xx_dt dd_X2_keepIfBetter 25 rfl) rfl ?_
        refine sw_get (v := .ref 1043) O (xx_dt dd_X2_keepIfBetter 26 rfl) cl_X2 fl_X2_35 (ly_1003 (u2 σ 1042 S x) h) (by decide) rfl ?_
        refine sw_iconst (x := 0) O (xx_dt dd_X2_keepIfBetter 27 rfl) (by decide) ?_
        refine sw_aload_n O (xx_dt dd_X2_keepIfBetter 28 rfl) rfl ?_
        refine sw_get (v := .ref 1050) O (xx_dt dd_X2_keepIfBetter 29 rfl) cl_X2 fl_X2_32 (ly_1003 (u2 σ 1042 S x) h) (by decide) rfl ?_
        refine sw_iload_n O (xx_dt dd_X2_keepIfBetter 30 rfl) rfl ?_
        refine sw_aaload (v := .ref (1051 + S)) O (xx_dt dd_X2_keepIfBetter 31 rfl) (by omega) (by omega) (ly_1050 (u2 σ 1042 S x) h) (pk_in S _ (by omega)) (by rw [nI_clamp (by omega)]; try exact rfl) ?_
        refine sw_iconst (x := 0) O (xx_dt dd_X2_keepIfBetter 32 rfl) (by decide) ?_
        refine sw_bipush (x := 6) O (xx_dt dd_X2_keepIfBetter 33 rfl) (by decide) ?_
        refine sw_copy (h2' := setC (uR (u2 σ 1042 S x) (1051 + S) (va_cpy (σ 1043) (σ (1051 + S)) 0 0 6)) h) O ay_X2_107 (xx_dt dd_X2_keepIfBetter 34 rfl) (ia_1043.getE rfl) ((ir_1050 (k := S) (by omega)).getE (u2_ne (by omega))) (by omega) (by decide) (by decide) (by decide) (by decide) (by decide) (by omega) (by decide +kernel) (ir_1050 (k := S) (by omega)).putR ?_
        exact sw_ret O (xx_dt dd_X2_keepIfBetter 35 rfl) rfl (by rw [hQ]; exact ⟨rfl, by unfold g_keepIfBetter; simp only [if_neg q1, if_pos q2, if_neg q3]⟩)
def x_worthOf_26 (σ : XS9) (S : Nat) (s0 : Int32) : Int32 := xit (fun i26 s26 => (if ((nI S) &&& (1 <<< ((nI i26) &&& 31))) = 0 then s26 else if s26 < (σ 1041 (bsub S i26)) then (σ 1041 (bsub S i26)) else s26)) 6 0 s0
def f_worthOf (σ : XS9) (S : Nat) : Int32 := (if ((nI S) &&& (σ 1003 5)) = 0 then (x_worthOf_26 σ S (if 0 < (σ 1042 S) then (σ 1042 S) else 0)) else (x_worthOf_26 σ S 0))
theorem ct_X2_worthOf {l : Launch} {h : XH} (hl : l.stackTraces = false) {σ : XS9} {S : Nat} (hS : S < 64) : XEx l m_X2_worthOf 1 0 0 [.ref 1003, .int (nI S)] (setC σ h) (some (.int (f_worthOf σ S))) (setC σ h) := by
  refine XMet.of hl rfl rfl (Nat.le_of_ble_eq_true rfl) (fun Y O hh hQ => ?_)
  show SW Y 0 0 (setC σ h) 0 [.ref 1003, .int (nI S), xx_d, xx_d] []
  refine sw_iload_n O (xx_dt dd_X2_worthOf 0 rfl) rfl ?_
  refine sw_aload_n O (xx_dt dd_X2_worthOf 1 rfl) rfl ?_
  refine sw_get (v := .int (σ 1003 5)) O (xx_dt dd_X2_worthOf 2 rfl) cl_X2 fl_X2_50 (ly_1003 σ h) (by decide) rfl ?_
  refine sw_iand O (xx_dt dd_X2_worthOf 3 rfl) ?_
  refine sw_if_ne (tgt := 22) O (xx_dt dd_X2_worthOf 4 rfl) (by decide) (fun q1 => ?_) (fun q1 => ?_)
  · refine sw_iconst (x := 0) O (xx_dt dd_X2_worthOf 12 rfl) (by decide) ?_
    refine sw_istore_n (ls2 := [.ref 1003, .int (nI S), .int 0, xx_d]) O (xx_dt dd_X2_worthOf 13 rfl) (by decide) rfl ?_
    refine sw_iconst (x := 0) O (xx_dt dd_X2_worthOf 14 rfl) (by decide) ?_
    refine sw_istore_n (ls2 := [.ref 1003, .int (nI S), .int 0, .int 0]) O (xx_dt dd_X2_worthOf 15 rfl) (by decide) rfl ?_
    refine sw_for (fun i26 s26 => (if ((nI S) &&& (1 <<< ((nI i26) &&& 31))) = 0 then s26 else if s26 < (σ 1041 (bsub S i26)) then (σ 1041 (bsub S i26)) else s26)) (fun _ _ => True) (hp := fun _ => setC σ h) (hd := 26) (lc := fun i26 s26 => [.ref 1003, .int (nI S), .int s26, .int (nI i26)]) (N := 6) (fun i26 s26 hi26 hP26 => ⟨trivial, fun kk26 => ?_⟩) 6 0 0 (by omega) (trivial) (fun hP26 => ?_)
    · refine sw_iload_n O (xx_dt dd_X2_worthOf 16 rfl) rfl ?_
      refine sw_bipush (x := 6) O (xx_dt dd_X2_worthOf 17 rfl) (by decide) ?_
      refine sw_icmp_ge (tgt := 61) O (xx_dt dd_X2_worthOf 18 rfl) (by decide) (fun q2 => ?_) (fun q2 => ?_)
      · exact absurd q2 (nI_ge (b := 6) hi26 (by omega))
      · refine sw_iload_n O (xx_dt dd_X2_worthOf 19 rfl) rfl ?_
        refine sw_iconst (x := 1) O (xx_dt dd_X2_worthOf 20 rfl) (by decide) ?_
        refine sw_iload_n O (xx_dt dd_X2_worthOf 21 rfl) rfl ?_
        refine sw_ishl O (xx_dt dd_X2_worthOf 22 rfl) ?_
        refine sw_iand O (xx_dt dd_X2_worthOf 23 rfl) ?_
        refine sw_if_eq (tgt := 55) O (xx_dt dd_X2_worthOf 24 rfl) (by decide) (fun q3 => ?_) (fun q3 => ?_)
        · refine sw_iinc (y := nI (i26 + 1)) (ls2 := [.ref 1003, .int (nI S), .int s26, .int (nI (i26 + 1))]) O (xx_dt dd_X2_worthOf 36 rfl) rfl (nI_1 _) (by decide) rfl ?_
          refine sw_goto (tgt := 26) O (xx_dt dd_X2_worthOf 37 rfl) (by decide) ?_
          simp only [if_pos q3] at kk26
          exact kk26
        · refine sw_iload_n O (xx_dt dd_X2_worthOf 25 rfl) rfl ?_
          refine sw_aload_n O (xx_dt dd_X2_worthOf 26 rfl) rfl ?_
          refine sw_get (v := .ref 1041) O (xx_dt dd_X2_worthOf 27 rfl) cl_X2 fl_X2_26 (ly_1003 σ h) (by decide) rfl ?_
          refine sw_iload_n O (xx_dt dd_X2_worthOf 28 rfl) rfl ?_
          refine sw_iconst (x := 1) O (xx_dt dd_X2_worthOf 29 rfl) (by decide) ?_
          refine sw_iload_n O (xx_dt dd_X2_worthOf 30 rfl) rfl ?_
          refine sw_ishl O (xx_dt dd_X2_worthOf 31 rfl) ?_
          refine sw_isub O (xx_dt dd_X2_worthOf 32 rfl) ?_
          have hx49 := bsub_lt (S := S) i26 (by omega)
          rw [bit_sub (S := S) (i := i26) (by omega) (by omega) (by assumption)]
          refine sw_iaload (v := .int (σ 1041 (bsub S i26))) O (xx_dt dd_X2_worthOf 33 rfl) (ly_1041 σ h) (pk_in (bsub S i26) _ (by omega)) (by rw [nI_clamp (by omega)]; try exact rfl) ?_
          refine sw_max O mm_X2_117 (xx_dt dd_X2_worthOf 34 rfl) (by omega) (Nat.le_of_ble_eq_true rfl) ?_
          refine sw_istore_n (ls2 := [.ref 1003, .int (nI S), .int (if s26 < (σ 1041 (bsub S i26)) then (σ 1041 (bsub S i26)) else s26), .int (nI i26)]) O (xx_dt dd_X2_worthOf 35 rfl) (by decide) rfl ?_
          refine sw_iinc (y := nI (i26 + 1)) (ls2 := [.ref 1003, .int (nI S), .int (if s26 < (σ 1041 (bsub S i26)) then (σ 1041 (bsub S i26)) else s26), .int (nI (i26 + 1))]) O (xx_dt dd_X2_worthOf 36 rfl) rfl (nI_1 _) (by decide) rfl ?_
          refine sw_goto (tgt := 26) O (xx_dt dd_X2_worthOf 37 rfl) (by decide) ?_
          simp only [if_neg q3] at kk26
          exact kk26
    · show SW Y _ _ (setC σ h) 26 [.ref 1003, .int (nI S), .int (x_worthOf_26 σ S 0), .int (nI 6)] []
      refine sw_iload_n O (xx_dt dd_X2_worthOf 16 rfl) rfl ?_
      refine sw_bipush (x := 6) O (xx_dt dd_X2_worthOf 17 rfl) (by decide) ?_
      refine sw_icmp_ge (tgt := 61) O (xx_dt dd_X2_worthOf 18 rfl) (by decide) (fun q2 => ?_) (fun q2 => ?_)
      · refine sw_iload_n O (xx_dt dd_X2_worthOf 38 rfl) rfl ?_
        exact sw_iret O (xx_dt dd_X2_worthOf 39 rfl) rfl rfl (by rw [hQ]; exact ⟨by unfold f_worthOf; simp only [if_neg q1], rfl⟩)
      · exact absurd (Int32.le_refl _) q2
  · refine sw_iconst (x := 0) O (xx_dt dd_X2_worthOf 5 rfl) (by decide) ?_
    refine sw_aload_n O (xx_dt dd_X2_worthOf 6 rfl) rfl ?_
    refine sw_get (v := .ref 1042) O (xx_dt dd_X2_worthOf 7 rfl) cl_X2 fl_X2_29 (ly_1003 σ h) (by decide) rfl ?_
    refine sw_iload_n O (xx_dt dd_X2_worthOf 8 rfl) rfl ?_
    refine sw_iaload (v := .int (σ 1042 S)) O (xx_dt dd_X2_worthOf 9 rfl) (ly_1042 σ h) (pk_in S _ (by omega)) (by rw [nI_clamp (by omega)]; try exact rfl) ?_
    refine sw_max O mm_X2_117 (xx_dt dd_X2_worthOf 10 rfl) (by omega) (Nat.le_of_ble_eq_true rfl) ?_
    refine sw_goto (tgt := 23) O (xx_dt dd_X2_worthOf 11 rfl) (by decide) ?_
    refine sw_istore_n (ls2 := [.ref 1003, .int (nI S), .int (if 0 < (σ 1042 S) then (σ 1042 S) else 0), xx_d]) O (xx_dt dd_X2_worthOf 13 rfl) (by decide) rfl ?_
    refine sw_iconst (x := 0) O (xx_dt dd_X2_worthOf 14 rfl) (by decide) ?_
    refine sw_istore_n (ls2 := [.ref 1003, .int (nI S), .int (if 0 < (σ 1042 S) then (σ 1042 S) else 0), .int 0]) O (xx_dt dd_X2_worthOf 15 rfl) (by decide) rfl ?_
    refine sw_for (fun i26 s26 => (if ((nI S) &&& (1 <<< ((nI i26) &&& 31))) = 0 then s26 else if s26 < (σ 1041 (bsub S i26)) then (σ 1041 (bsub S i26)) else s26)) (fun _ _ => True) (hp := fun _ => setC σ h) (hd := 26) (lc := fun i26 s26 => [.ref 1003, .int (nI S), .int s26, .int (nI i26)]) (N := 6) (fun i26 s26 hi26 hP26 => ⟨trivial, fun kk26 => ?_⟩) 6 0 (if 0 < (σ 1042 S) then (σ 1042 S) else 0) (by omega) (trivial) (fun hP26 => ?_)
    · refine sw_iload_n O (xx_dt dd_X2_worthOf 16 rfl) rfl ?_
      refine sw_bipush (x := 6) O (xx_dt dd_X2_worthOf 17 rfl) (by decide) ?_
      refine sw_icmp_ge (tgt := 61) O (xx_dt dd_X2_worthOf 18 rfl) (by decide) (fun q4 => ?_) (fun q4 => ?_)
      · exact absurd q4 (nI_ge (b := 6) hi26 (by omega))
      · refine sw_iload_n O (xx_dt dd_X2_worthOf 19 rfl) rfl ?_
        refine sw_iconst (x := 1) O (xx_dt dd_X2_worthOf 20 rfl) (by decide) ?_
        refine sw_iload_n O (xx_dt dd_X2_worthOf 21 rfl) rfl ?_
        refine sw_ishl O (xx_dt dd_X2_worthOf 22 rfl) ?_
        refine sw_iand O (xx_dt dd_X2_worthOf 23 rfl) ?_
        refine sw_if_eq (tgt := 55) O (xx_dt dd_X2_worthOf 24 rfl) (by decide) (fun q5 => ?_) (fun q5 => ?_)
        · refine sw_iinc (y := nI (i26 + 1)) (ls2 := [.ref 1003, .int (nI S), .int s26, .int (nI (i26 + 1))]) O (xx_dt dd_X2_worthOf 36 rfl) rfl (nI_1 _) (by decide) rfl ?_
          refine sw_goto (tgt := 26) O (xx_dt dd_X2_worthOf 37 rfl) (by decide) ?_
          simp only [if_pos q5] at kk26
          exact kk26
        · refine sw_iload_n O (xx_dt dd_X2_worthOf 25 rfl) rfl ?_
          refine sw_aload_n O (xx_dt dd_X2_worthOf 26 rfl) rfl ?_
          refine sw_get (v := .ref 1041) O (xx_dt dd_X2_worthOf 27 rfl) cl_X2 fl_X2_26 (ly_1003 σ h) (by decide) rfl ?_
          refine sw_iload_n O (xx_dt dd_X2_worthOf 28 rfl) rfl ?_
          refine sw_iconst (x := 1) O (xx_dt dd_X2_worthOf 29 rfl) (by decide) ?_
          refine sw_iload_n O (xx_dt dd_X2_worthOf 30 rfl) rfl ?_
          refine sw_ishl O (xx_dt dd_X2_worthOf 31 rfl) ?_
          refine sw_isub O (xx_dt dd_X2_worthOf 32 rfl) ?_
          have hx49 := bsub_lt (S := S) i26 (by omega)
          rw [bit_sub (S := S) (i := i26) (by omega) (by omega) (by assumption)]
          refine sw_iaload (v := .int (σ 1041 (bsub S i26))) O (xx_dt dd_X2_worthOf 33 rfl) (ly_1041 σ h) (pk_in (bsub S i26) _ (by omega)) (by rw [nI_clamp (by omega)]; try exact rfl) ?_
          refine sw_max O mm_X2_117 (xx_dt dd_X2_worthOf 34 rfl) (by omega) (Nat.le_of_ble_eq_true rfl) ?_
          refine sw_istore_n (ls2 := [.ref 1003, .int (nI S), .int (if s26 < (σ 1041 (bsub S i26)) then (σ 1041 (bsub S i26)) else s26), .int (nI i26)]) O (xx_dt dd_X2_worthOf 35 rfl) (by decide) rfl ?_
          refine sw_iinc (y := nI (i26 + 1)) (ls2 := [.ref 1003, .int (nI S), .int (if s26 < (σ 1041 (bsub S i26)) then (σ 1041 (bsub S i26)) else s26), .int (nI (i26 + 1))]) O (xx_dt dd_X2_worthOf 36 rfl) rfl (nI_1 _) (by decide) rfl ?_
          refine sw_goto (tgt := 26) O (xx_dt dd_X2_worthOf 37 rfl) (by decide) ?_
          simp only [if_neg q5] at kk26
          exact kk26
    · show SW Y _ _ (setC σ h) 26 [.ref 1003, .int (nI S), .int (x_worthOf_26 σ S (if 0 < (σ 1042 S) then (σ 1042 S) else 0)), .int (nI 6)] []
      refine sw_iload_n O (xx_dt dd_X2_worthOf 16 rfl) rfl ?_
      refine sw_bipush (x := 6) O (xx_dt dd_X2_worthOf 17 rfl) (by decide) ?_
      refine sw_icmp_ge (tgt := 61) O (xx_dt dd_X2_worthOf 18 rfl) (by decide) (fun q4 => ?_) (fun q4 => ?_)
      · refine sw_iload_n O (xx_dt dd_X2_worthOf 38 rfl) rfl ?_
        exact sw_iret O (xx_dt dd_X2_worthOf 39 rfl) rfl rfl (by rw [hQ]; exact ⟨by unfold f_worthOf; simp only [if_pos q1], rfl⟩)
      · exact absurd (Int32.le_refl _) q4
def x_findWinners_4 (σ : XS9)  (s0 : XS9 × Nat) : XS9 × Nat := xit (fun i4 s4 => (if ((nI i4) &&& (s4.1 1003 5)) = 0 then (if (s4.1 1042 i4) = (-1) then (u2 s4.1 1041 i4 (f_worthOf s4.1 i4), s4.2) else (if (s4.1 1042 s4.2) < (s4.1 1042 i4) then (u2 s4.1 1041 i4 (f_worthOf s4.1 i4), i4) else (if (s4.1 1042 i4) = (s4.1 1042 s4.2) then (if (f_isAhead (s4.1 (1051 + i4)) (s4.1 (1051 + s4.2))) = 0 then (u2 s4.1 1041 i4 (f_worthOf s4.1 i4), s4.2) else (u2 s4.1 1041 i4 (f_worthOf s4.1 i4), i4)) else (u2 s4.1 1041 i4 (f_worthOf s4.1 i4), s4.2)))) else (u2 s4.1 1041 i4 (f_worthOf s4.1 i4), s4.2))) 64 0 s0
def g_findWinners (σ : XS9)  : XS9 := uR ((x_findWinners_4 σ (σ, 0)).1) 1040 (va_cpy (((x_findWinners_4 σ (σ, 0)).1) (1051 + (x_findWinners_4 σ (σ, 0)).2)) (((x_findWinners_4 σ (σ, 0)).1) 1040) 0 0 6)
theorem ct_X2_findWinners {l : Launch} {h : XH} (hl : l.stackTraces = false) {σ : XS9}  : XEx l m_X2_findWinners 2 0 0 [.ref 1003] (setC σ h) (none) (setC (g_findWinners σ) h) := by
  refine XMet.of hl rfl rfl (Nat.le_of_ble_eq_true rfl) (fun Y O hh hQ => ?_)
  show SW Y 0 0 (setC σ h) 0 [.ref 1003, xx_d, xx_d, xx_d] []
  refine sw_iconst (x := 0) O (xx_dt dd_X2_findWinners 0 rfl) (by decide) ?_
  refine sw_istore_n (ls2 := [.ref 1003, .int 0, xx_d, xx_d]) O (xx_dt dd_X2_findWinners 1 rfl) (by decide) rfl ?_
  refine sw_iconst (x := 0) O (xx_dt dd_X2_findWinners 2 rfl) (by decide) ?_
  refine sw_istore_n (ls2 := [.ref 1003, .int 0, .int 0, xx_d]) O (xx_dt dd_X2_findWinners 3 rfl) (by decide) rfl ?_
  refine sw_for (fun i4 s4 => (if ((nI i4) &&& (s4.1 1003 5)) = 0 then (if (s4.1 1042 i4) = (-1) then (u2 s4.1 1041 i4 (f_worthOf s4.1 i4), s4.2) else (if (s4.1 1042 s4.2) < (s4.1 1042 i4) then (u2 s4.1 1041 i4 (f_worthOf s4.1 i4), i4) else (if (s4.1 1042 i4) = (s4.1 1042 s4.2) then (if (f_isAhead (s4.1 (1051 + i4)) (s4.1 (1051 + s4.2))) = 0 then (u2 s4.1 1041 i4 (f_worthOf s4.1 i4), s4.2) else (u2 s4.1 1041 i4 (f_worthOf s4.1 i4), i4)) else (u2 s4.1 1041 i4 (f_worthOf s4.1 i4), s4.2)))) else (u2 s4.1 1041 i4 (f_worthOf s4.1 i4), s4.2))) (fun _ s4 => s4.2 < 64) (hp := fun s4 => setC s4.1 h) (hd := 4) (lc := fun i4 s4 => [.ref 1003, .int (nI (s4.2)), .int (nI i4), xx_d]) (N := 64) (fun i4 s4 hi4 hP4 => ⟨(by (try dsimp only); (repeat' split) <;> (first | exact hP4 | exact hi4 | exact .inl rfl | exact .inr rfl | (simp (disch := omega) only [u2_ne, uR_ne, fr_fill, fr_useWaiver, fr_undoContradictions, fr_lowerEligible, fr_moveHeld, fr_raisePrices, fr_begin, fr_closeRound, fr_moveTaken]; first | exact hP4))), fun kk4 => ?_⟩) 64 0 (σ, 0) (by omega) ((by show (0 : Nat) < 64; decide)) (fun hP4 => ?_)
  · refine sw_iload_n O (xx_dt dd_X2_findWinners 4 rfl) rfl ?_
    refine sw_bipush (x := 64) O (xx_dt dd_X2_findWinners 5 rfl) (by decide) ?_
    refine sw_icmp_ge (tgt := 106) O (xx_dt dd_X2_findWinners 6 rfl) (by decide) (fun q1 => ?_) (fun q1 => ?_)
    · exact absurd q1 (nI_ge (b := 64) hi4 (by omega))
    · refine sw_aload_n O (xx_dt dd_X2_findWinners 7 rfl) rfl ?_
      refine sw_get (v := .ref 1041) O (xx_dt dd_X2_findWinners 8 rfl) cl_X2 fl_X2_26 (ly_1003 s4.1 h) (by decide) rfl ?_
      refine sw_iload_n O (xx_dt dd_X2_findWinners 9 rfl) rfl ?_
      refine sw_aload_n O (xx_dt dd_X2_findWinners 10 rfl) rfl ?_
      refine sw_iload_n O (xx_dt dd_X2_findWinners 11 rfl) rfl ?_
      refine sw_callVx (as := [.int (nI i4)]) (st := [.int (nI i4), .ref 1041]) (st2 := [.int (f_worthOf s4.1 i4), .int (nI i4), .ref 1041]) O (ct_X2_worthOf hl (σ := s4.1) (S := i4) (by omega)) ce_X2_worthOf ml_X2_113 iv_X2_worthOf cl_X2 rfl (ly_1003 s4.1 h) (xx_dt dd_X2_findWinners 12 rfl) (by decide) rfl rfl (Nat.le_of_ble_eq_true rfl) rfl ?_
      refine sw_iastore (h2 := setC (u2 s4.1 1041 i4 (f_worthOf s4.1 i4)) h) O (xx_dt dd_X2_findWinners 13 rfl) (ly_1041 s4.1 h) (pk_in i4 _ (by omega)) (by decide) (by rw [nI_clamp (by omega)]; exact pa_1041) ?_
      refine sw_iload_n O (xx_dt dd_X2_findWinners 14 rfl) rfl ?_
      refine sw_aload_n O (xx_dt dd_X2_findWinners 15 rfl) rfl ?_
      refine sw_get (v := .int (s4.1 1003 5)) O (xx_dt dd_X2_findWinners 16 rfl) cl_X2 fl_X2_50 (ly_1003 (u2 s4.1 1041 i4 (f_worthOf s4.1 i4)) h) (by decide) rfl ?_
      refine sw_iand O (xx_dt dd_X2_findWinners 17 rfl) ?_
      refine sw_if_ne (tgt := 44) O (xx_dt dd_X2_findWinners 18 rfl) (by decide) (fun q2 => ?_) (fun q2 => ?_)
      · refine sw_iconst (x := 0) O (xx_dt dd_X2_findWinners 27 rfl) (by decide) ?_
        refine sw_istore_n (ls2 := [.ref 1003, .int (nI (s4.2)), .int (nI i4), .int 0]) O (xx_dt dd_X2_findWinners 28 rfl) (by decide) rfl ?_
        refine sw_iload_n O (xx_dt dd_X2_findWinners 29 rfl) rfl ?_
        refine sw_if_eq (tgt := 100) O (xx_dt dd_X2_findWinners 30 rfl) (by decide) (fun q3 => ?_) (fun q3 => ?_)
        · refine sw_iinc (y := nI (i4 + 1)) (ls2 := [.ref 1003, .int (nI (s4.2)), .int (nI (i4 + 1)), .int 0]) O (xx_dt dd_X2_findWinners 61 rfl) rfl (nI_1 _) (by decide) rfl ?_
          refine sw_goto (tgt := 4) O (xx_dt dd_X2_findWinners 62 rfl) (by decide) ?_
          refine sw_dum (ls2 := [.ref 1003, .int (nI (s4.2)), .int (nI (i4 + 1)), xx_d]) ⟨.inr rfl, .inr rfl, .inr rfl, .inl rfl, trivial⟩ ?_
          simp only [if_neg q2] at kk4
          exact kk4
        · exact absurd q3 (by decide)
      · refine sw_aload_n O (xx_dt dd_X2_findWinners 19 rfl) rfl ?_
        refine sw_get (v := .ref 1042) O (xx_dt dd_X2_findWinners 20 rfl) cl_X2 fl_X2_29 (ly_1003 (u2 s4.1 1041 i4 (f_worthOf s4.1 i4)) h) (by decide) rfl ?_
        refine sw_iload_n O (xx_dt dd_X2_findWinners 21 rfl) rfl ?_
        refine sw_iaload (v := .int (s4.1 1042 i4)) O (xx_dt dd_X2_findWinners 22 rfl) (ly_1042 (u2 s4.1 1041 i4 (f_worthOf s4.1 i4)) h) (pk_in i4 _ (by omega)) (by rw [nI_clamp (by omega)]; try exact rfl) ?_
        refine sw_iconst (x := (-1)) O (xx_dt dd_X2_findWinners 23 rfl) (by decide) ?_
        refine sw_icmp_eq (tgt := 44) O (xx_dt dd_X2_findWinners 24 rfl) (by decide) (fun q4 => ?_) (fun q4 => ?_)
        · refine sw_iconst (x := 0) O (xx_dt dd_X2_findWinners 27 rfl) (by decide) ?_
          refine sw_istore_n (ls2 := [.ref 1003, .int (nI (s4.2)), .int (nI i4), .int 0]) O (xx_dt dd_X2_findWinners 28 rfl) (by decide) rfl ?_
          refine sw_iload_n O (xx_dt dd_X2_findWinners 29 rfl) rfl ?_
          refine sw_if_eq (tgt := 100) O (xx_dt dd_X2_findWinners 30 rfl) (by decide) (fun q5 => ?_) (fun q5 => ?_)
          · refine sw_iinc (y := nI (i4 + 1)) (ls2 := [.ref 1003, .int (nI (s4.2)), .int (nI (i4 + 1)), .int 0]) O (xx_dt dd_X2_findWinners 61 rfl) rfl (nI_1 _) (by decide) rfl ?_
            refine sw_goto (tgt := 4) O (xx_dt dd_X2_findWinners 62 rfl) (by decide) ?_
            refine sw_dum (ls2 := [.ref 1003, .int (nI (s4.2)), .int (nI (i4 + 1)), xx_d]) ⟨.inr rfl, .inr rfl, .inr rfl, .inl rfl, trivial⟩ ?_
            simp only [if_pos q2, if_pos q4] at kk4
            exact kk4
          · exact absurd q5 (by decide)
        · refine sw_iconst (x := 1) O (xx_dt dd_X2_findWinners 25 rfl) (by decide) ?_
          refine sw_goto (tgt := 45) O (xx_dt dd_X2_findWinners 26 rfl) (by decide) ?_
          refine sw_istore_n (ls2 := [.ref 1003, .int (nI (s4.2)), .int (nI i4), .int 1]) O (xx_dt dd_X2_findWinners 28 rfl) (by decide) rfl ?_
          refine sw_iload_n O (xx_dt dd_X2_findWinners 29 rfl) rfl ?_
          refine sw_if_eq (tgt := 100) O (xx_dt dd_X2_findWinners 30 rfl) (by decide) (fun q6 => ?_) (fun q6 => ?_)
          · exact absurd q6 (by decide)
          · refine sw_aload_n O (xx_dt dd_X2_findWinners 31 rfl) rfl ?_
            refine sw_get (v := .ref 1042) O (xx_dt dd_X2_findWinners 32 rfl) cl_X2 fl_X2_29 (ly_1003 (u2 s4.1 1041 i4 (f_worthOf s4.1 i4)) h) (by decide) rfl ?_
            refine sw_iload_n O (xx_dt dd_X2_findWinners 33 rfl) rfl ?_
            refine sw_iaload (v := .int (s4.1 1042 i4)) O (xx_dt dd_X2_findWinners 34 rfl) (ly_1042 (u2 s4.1 1041 i4 (f_worthOf s4.1 i4)) h) (pk_in i4 _ (by omega)) (by rw [nI_clamp (by omega)]; try exact rfl) ?_
            refine sw_aload_n O (xx_dt dd_X2_findWinners 35 rfl) rfl ?_
            refine sw_get (v := .ref 1042) O (xx_dt dd_X2_findWinners 36 rfl) cl_X2 fl_X2_29 (ly_1003 (u2 s4.1 1041 i4 (f_worthOf s4.1 i4)) h) (by decide) rfl ?_
            refine sw_iload_n O (xx_dt dd_X2_findWinners 37 rfl) rfl ?_
            refine sw_iaload (v := .int (s4.1 1042 s4.2)) O (xx_dt dd_X2_findWinners 38 rfl) (ly_1042 (u2 s4.1 1041 i4 (f_worthOf s4.1 i4)) h) (pk_in s4.2 _ (by omega)) (by rw [nI_clamp (by omega)]; try exact rfl) ?_
            refine sw_icmp_gt (tgt := 98) O (xx_dt dd_X2_findWinners 39 rfl) (by decide) (fun q7 => ?_) (fun q7 => ?_)
            · refine sw_iload_n O (xx_dt dd_X2_findWinners 59 rfl) rfl ?_
              refine sw_istore_n (ls2 := [.ref 1003, .int (nI i4), .int (nI i4), .int 1]) O (xx_dt dd_X2_findWinners 60 rfl) (by decide) rfl ?_
              refine sw_iinc (y := nI (i4 + 1)) (ls2 := [.ref 1003, .int (nI i4), .int (nI (i4 + 1)), .int 1]) O (xx_dt dd_X2_findWinners 61 rfl) rfl (nI_1 _) (by decide) rfl ?_
              refine sw_goto (tgt := 4) O (xx_dt dd_X2_findWinners 62 rfl) (by decide) ?_
              refine sw_dum (ls2 := [.ref 1003, .int (nI i4), .int (nI (i4 + 1)), xx_d]) ⟨.inr rfl, .inr rfl, .inr rfl, .inl rfl, trivial⟩ ?_
              simp only [if_pos q2, if_neg q4, if_pos q7] at kk4
              exact kk4
            · refine sw_aload_n O (xx_dt dd_X2_findWinners 40 rfl) rfl ?_
              refine sw_get (v := .ref 1042) O (xx_dt dd_X2_findWinners 41 rfl) cl_X2 fl_X2_29 (ly_1003 (u2 s4.1 1041 i4 (f_worthOf s4.1 i4)) h) (by decide) rfl ?_
              refine sw_iload_n O (xx_dt dd_X2_findWinners 42 rfl) rfl ?_
              refine sw_iaload (v := .int (s4.1 1042 i4)) O (xx_dt dd_X2_findWinners 43 rfl) (ly_1042 (u2 s4.1 1041 i4 (f_worthOf s4.1 i4)) h) (pk_in i4 _ (by omega)) (by rw [nI_clamp (by omega)]; try exact rfl) ?_
              refine sw_aload_n O (xx_dt dd_X2_findWinners 44 rfl) rfl ?_
              refine sw_get (v := .ref 1042) O (xx_dt dd_X2_findWinners 45 rfl) cl_X2 fl_X2_29 (ly_1003 (u2 s4.1 1041 i4 (f_worthOf s4.1 i4)) h) (by decide) rfl ?_
              refine sw_iload_n O (xx_dt dd_X2_findWinners 46 rfl) rfl ?_
              refine sw_iaload (v := .int (s4.1 1042 s4.2)) O (xx_dt dd_X2_findWinners 47 rfl) (ly_1042 (u2 s4.1 1041 i4 (f_worthOf s4.1 i4)) h) (pk_in s4.2 _ (by omega)) (by rw [nI_clamp (by omega)]; try exact rfl) ?_
              refine sw_icmp_ne (tgt := 100) O (xx_dt dd_X2_findWinners 48 rfl) (by decide) (fun q8 => ?_) (fun q8 => ?_)
              · refine sw_iinc (y := nI (i4 + 1)) (ls2 := [.ref 1003, .int (nI (s4.2)), .int (nI (i4 + 1)), .int 1]) O (xx_dt dd_X2_findWinners 61 rfl) rfl (nI_1 _) (by decide) rfl ?_
                refine sw_goto (tgt := 4) O (xx_dt dd_X2_findWinners 62 rfl) (by decide) ?_
                refine sw_dum (ls2 := [.ref 1003, .int (nI (s4.2)), .int (nI (i4 + 1)), xx_d]) ⟨.inr rfl, .inr rfl, .inr rfl, .inl rfl, trivial⟩ ?_
                simp only [if_pos q2, if_neg q4, if_neg q7, if_neg q8] at kk4
                exact kk4
              · refine sw_aload_n O (xx_dt dd_X2_findWinners 49 rfl) rfl ?_
                refine sw_get (v := .ref 1050) O (xx_dt dd_X2_findWinners 50 rfl) cl_X2 fl_X2_32 (ly_1003 (u2 s4.1 1041 i4 (f_worthOf s4.1 i4)) h) (by decide) rfl ?_
                refine sw_iload_n O (xx_dt dd_X2_findWinners 51 rfl) rfl ?_
                refine sw_aaload (v := .ref (1051 + i4)) O (xx_dt dd_X2_findWinners 52 rfl) (by omega) (by omega) (ly_1050 (u2 s4.1 1041 i4 (f_worthOf s4.1 i4)) h) (pk_in i4 _ (by omega)) (by rw [nI_clamp (by omega)]; try exact rfl) ?_
                refine sw_aload_n O (xx_dt dd_X2_findWinners 53 rfl) rfl ?_
                refine sw_get (v := .ref 1050) O (xx_dt dd_X2_findWinners 54 rfl) cl_X2 fl_X2_32 (ly_1003 (u2 s4.1 1041 i4 (f_worthOf s4.1 i4)) h) (by decide) rfl ?_
                refine sw_iload_n O (xx_dt dd_X2_findWinners 55 rfl) rfl ?_
                refine sw_aaload (v := .ref (1051 + s4.2)) O (xx_dt dd_X2_findWinners 56 rfl) (by omega) (by omega) (ly_1050 (u2 s4.1 1041 i4 (f_worthOf s4.1 i4)) h) (pk_in s4.2 _ (by omega)) (by rw [nI_clamp (by omega)]; try exact rfl) ?_
                refine sw_callSx (as := [.ref (1051 + i4), .ref (1051 + s4.2)]) (st := []) (st2 := [.int (f_isAhead (s4.1 (1051 + i4)) (s4.1 (1051 + s4.2)))]) O (ct_X2_isAhead hl (f := s4.1 (1051 + i4)) (g := s4.1 (1051 + s4.2)) ((ir_1050 (k := i4) (by omega)).getE (u2_ne (by omega))) ((ir_1050 (k := s4.2) (by omega)).getE (u2_ne (by omega)))) ce_X2_isAhead ml_X2_103 st_X2_isAhead (xx_dt dd_X2_findWinners 57 rfl) (by decide) rfl rfl (Nat.le_of_ble_eq_true rfl) rfl ?_
                refine sw_if_eq (tgt := 100) O (xx_dt dd_X2_findWinners 58 rfl) (by decide) (fun q9 => ?_) (fun q9 => ?_)
                · refine sw_iinc (y := nI (i4 + 1)) (ls2 := [.ref 1003, .int (nI (s4.2)), .int (nI (i4 + 1)), .int 1]) O (xx_dt dd_X2_findWinners 61 rfl) rfl (nI_1 _) (by decide) rfl ?_
                  refine sw_goto (tgt := 4) O (xx_dt dd_X2_findWinners 62 rfl) (by decide) ?_
                  refine sw_dum (ls2 := [.ref 1003, .int (nI (s4.2)), .int (nI (i4 + 1)), xx_d]) ⟨.inr rfl, .inr rfl, .inr rfl, .inl rfl, trivial⟩ ?_
                  simp only [if_pos q2, if_neg q4, if_neg q7, if_pos q8, if_pos q9] at kk4
                  exact kk4
                · refine sw_iload_n O (xx_dt dd_X2_findWinners 59 rfl) rfl ?_
                  refine sw_istore_n (ls2 := [.ref 1003, .int (nI i4), .int (nI i4), .int 1]) O (xx_dt dd_X2_findWinners 60 rfl) (by decide) rfl ?_
                  refine sw_iinc (y := nI (i4 + 1)) (ls2 := [.ref 1003, .int (nI i4), .int (nI (i4 + 1)), .int 1]) O (xx_dt dd_X2_findWinners 61 rfl) rfl (nI_1 _) (by decide) rfl ?_
                  refine sw_goto (tgt := 4) O (xx_dt dd_X2_findWinners 62 rfl) (by decide) ?_
                  refine sw_dum (ls2 := [.ref 1003, .int (nI i4), .int (nI (i4 + 1)), xx_d]) ⟨.inr rfl, .inr rfl, .inr rfl, .inl rfl, trivial⟩ ?_
                  simp only [if_pos q2, if_neg q4, if_neg q7, if_pos q8, if_neg q9] at kk4
                  exact kk4
  · show SW Y _ _ (setC ((x_findWinners_4 σ (σ, 0)).1) h) 4 [.ref 1003, .int (nI ((x_findWinners_4 σ (σ, 0)).2)), .int (nI 64), xx_d] []
    have hP4 : (x_findWinners_4 σ (σ, 0)).2 < 64 := hP4
    refine sw_iload_n O (xx_dt dd_X2_findWinners 4 rfl) rfl ?_
    refine sw_bipush (x := 64) O (xx_dt dd_X2_findWinners 5 rfl) (by decide) ?_
    refine sw_icmp_ge (tgt := 106) O (xx_dt dd_X2_findWinners 6 rfl) (by decide) (fun q1 => ?_) (fun q1 => ?_)
    · refine sw_aload_n O (xx_dt dd_X2_findWinners 63 rfl) rfl ?_
      refine sw_get (v := .ref 1050) O (xx_dt dd_X2_findWinners 64 rfl) cl_X2 fl_X2_32 (ly_1003 ((x_findWinners_4 σ (σ, 0)).1) h) (by decide) rfl ?_
      refine sw_iload_n O (xx_dt dd_X2_findWinners 65 rfl) rfl ?_
      refine sw_aaload (v := .ref (1051 + (x_findWinners_4 σ (σ, 0)).2)) O (xx_dt dd_X2_findWinners 66 rfl) (by omega) (by omega) (ly_1050 ((x_findWinners_4 σ (σ, 0)).1) h) (pk_in ((x_findWinners_4 σ (σ, 0)).2) _ (by omega)) (by rw [nI_clamp (by omega)]; try exact rfl) ?_
      refine sw_iconst (x := 0) O (xx_dt dd_X2_findWinners 67 rfl) (by decide) ?_
      refine sw_aload_n O (xx_dt dd_X2_findWinners 68 rfl) rfl ?_
      refine sw_get (v := .ref 1040) O (xx_dt dd_X2_findWinners 69 rfl) cl_X2 fl_X2_23 (ly_1003 ((x_findWinners_4 σ (σ, 0)).1) h) (by decide) rfl ?_
      refine sw_iconst (x := 0) O (xx_dt dd_X2_findWinners 70 rfl) (by decide) ?_
      refine sw_bipush (x := 6) O (xx_dt dd_X2_findWinners 71 rfl) (by decide) ?_
      refine sw_copy (h2' := setC (uR ((x_findWinners_4 σ (σ, 0)).1) 1040 (va_cpy (((x_findWinners_4 σ (σ, 0)).1) (1051 + (x_findWinners_4 σ (σ, 0)).2)) (((x_findWinners_4 σ (σ, 0)).1) 1040) 0 0 6)) h) O ay_X2_107 (xx_dt dd_X2_findWinners 72 rfl) ((ir_1050 (k := (x_findWinners_4 σ (σ, 0)).2) (by omega)).getE rfl) (ia_1040.getE rfl) (by decide) (by decide) (by decide) (by decide) (by decide) (by decide) (by omega) (by decide +kernel) ia_1040.putR ?_
      exact sw_ret O (xx_dt dd_X2_findWinners 73 rfl) rfl (by rw [hQ]; exact ⟨rfl, by unfold g_findWinners; rfl⟩)
    · exact absurd (Int32.le_refl _) q1
end
