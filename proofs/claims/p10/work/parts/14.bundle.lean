/-! ===== counted loops ===== -/
def xit {S : Type} (step : Nat → S → S) : Nat → Nat → S → S
  | 0, _, s => s
  | f + 1, i, s => xit step f (i + 1) (step i s)
def xitR {S R : Type} (step : Nat → S → S ⊕ R) : Nat → Nat → S → S ⊕ R
  | 0, _, s => .inl s
  | f + 1, i, s => match step i s with
    | .inl s' => xitR step f (i + 1) s'
    | .inr r => .inr r
theorem sw_for {Y : XY} {k n : Nat} {S : Type} (step : Nat → S → S) (P : Nat → S → Prop) {hd : Nat} {hp : S → XH} {lc : Nat → S → List Value} {N : Nat}
    (hstep : ∀ i s, i < N → P i s → P (i + 1) (step i s) ∧ (SW Y k n (hp (step i s)) hd (lc (i + 1) (step i s)) [] → SW Y k n (hp s) hd (lc i s) [])) :
    ∀ (f i : Nat) (s : S), i + f = N → P i s → (P N (xit step f i s) → SW Y k n (hp (xit step f i s)) hd (lc N (xit step f i s)) []) → SW Y k n (hp s) hd (lc i s) []
  | 0, i, s, e, hP, kk => by
    obtain rfl : i = N := by omega
    exact kk hP
  | f + 1, i, s, e, hP, kk => by
    obtain ⟨h1, h2⟩ := hstep i s (by omega) hP
    exact h2 (sw_for step P hstep f (i + 1) (step i s) (by omega) h1 kk)
theorem sw_forR {Y : XY} {k n : Nat} {S R : Type} (step : Nat → S → S ⊕ R) (P : Nat → S → Prop) {FR : R → Prop} {hd : Nat} {hp : S → XH} {lc : Nat → S → List Value} {N : Nat}
    (hstep : ∀ i s, i < N → P i s → (∀ s', step i s = .inl s' → P (i + 1) s') ∧ ((∀ s', step i s = .inl s' → SW Y k n (hp s') hd (lc (i + 1) s') []) → (∀ r, step i s = .inr r → FR r) → SW Y k n (hp s) hd (lc i s) [])) :
    ∀ (f i : Nat) (s : S), i + f = N → P i s → (∀ s', xitR step f i s = .inl s' → P N s' → SW Y k n (hp s') hd (lc N s') []) → (∀ r, xitR step f i s = .inr r → FR r) → SW Y k n (hp s) hd (lc i s) []
  | 0, i, s, e, hP, kk, kr => by
    obtain rfl : i = N := by omega
    exact kk s rfl hP
  | f + 1, i, s, e, hP, kk, kr => by
    obtain ⟨h1, h2⟩ := hstep i s (by omega) hP
    refine h2 (fun s' e' => sw_forR step P hstep f (i + 1) s' (by omega) (h1 s' e') (fun s'' e'' => kk s'' ?_) (fun r e'' => kr r ?_)) (fun r e' => kr r ?_)
    · show (match step i s with | .inl s' => xitR step f (i + 1) s' | .inr r => .inr r) = _
      rw [e']; exact e''
    · show (match step i s with | .inl s' => xitR step f (i + 1) s' | .inr r => .inr r) = _
      rw [e']; exact e''
    · show (match step i s with | .inl s' => xitR step f (i + 1) s' | .inr r => .inr r) = _
      rw [e']
theorem xit_keep {S : Type} {step : Nat → S → S} {A : Type} (π : S → A) (h : ∀ i s, π (step i s) = π s) : ∀ (f i : Nat) (s : S), π (xit step f i s) = π s
  | 0, _, _ => rfl
  | f + 1, i, s => (xit_keep π h f (i + 1) (step i s)).trans (h i s)
theorem xit_inv {S : Type} {step : Nat → S → S} (P : S → Prop) {N : Nat} (h : ∀ i s, i < N → P s → P (step i s)) : ∀ (f i : Nat) (s : S), i + f = N → P s → P (xit step f i s)
  | 0, _, _, _, hP => hP
  | f + 1, i, s, e, hP => xit_inv P h f (i + 1) (step i s) (by omega) (h i s (by omega) hP)
/-! ===== Bundle ===== -/
def x_many_4 (c : Int32) (r : Nat) (s0 : Int32) : Int32 := xit (fun i4 s4 => s4 / 6) r 0 s0
def f_many (c : Int32) (r : Nat) : Int32 := (x_many_4 c r c) - (x_many_4 c r c) / 6 * 6
theorem ct_X0_many {l : Launch} {h : XH} (hl : l.stackTraces = false) {c : Int32} {r : Nat} (hr : r < 1000) : XEx l m_X0_many 0 0 0 [.int c, .int (nI r)] (h) (some (.int (f_many c r))) (h) := by
  refine XMet.of hl rfl rfl (Nat.le_of_ble_eq_true rfl) (fun Y O hh hQ => ?_)
  show SW Y 0 0 (h) 0 [.int c, .int (nI r), xx_d, xx_d] []
  refine sw_iload_n O (xx_dt dd_X0_many 0 rfl) rfl ?_
  refine sw_istore_n (ls2 := [.int c, .int (nI r), .int c, xx_d]) O (xx_dt dd_X0_many 1 rfl) (by decide) rfl ?_
  refine sw_iconst (x := 0) O (xx_dt dd_X0_many 2 rfl) (by decide) ?_
  refine sw_istore_n (ls2 := [.int c, .int (nI r), .int c, .int 0]) O (xx_dt dd_X0_many 3 rfl) (by decide) rfl ?_
  refine sw_for (fun i4 s4 => s4 / 6) (fun _ _ => True) (hp := fun _ => h) (hd := 4) (lc := fun i4 s4 => [.int c, .int (nI r), .int s4, .int (nI i4)]) (N := r) (fun i4 s4 hi4 hP4 => ⟨trivial, fun kk4 => ?_⟩) r 0 c (by omega) (trivial) (fun hP4 => ?_)
  · refine sw_iload_n O (xx_dt dd_X0_many 4 rfl) rfl ?_
    refine sw_iload_n O (xx_dt dd_X0_many 5 rfl) rfl ?_
    refine sw_icmp_ge (tgt := 20) O (xx_dt dd_X0_many 6 rfl) (by decide) (fun q1 => ?_) (fun q1 => ?_)
    · exact absurd q1 (nI_ge (b := r) hi4 (by omega))
    · refine sw_iload_n O (xx_dt dd_X0_many 7 rfl) rfl ?_
      refine sw_bipush (x := 6) O (xx_dt dd_X0_many 8 rfl) (by decide) ?_
      refine sw_idiv O (xx_dt dd_X0_many 9 rfl) (by first | decide | assumption) ?_
      refine sw_istore_n (ls2 := [.int c, .int (nI r), .int (s4 / 6), .int (nI i4)]) O (xx_dt dd_X0_many 10 rfl) (by decide) rfl ?_
      refine sw_iinc (y := nI (i4 + 1)) (ls2 := [.int c, .int (nI r), .int (s4 / 6), .int (nI (i4 + 1))]) O (xx_dt dd_X0_many 11 rfl) rfl (nI_1 _) (by decide) rfl ?_
      refine sw_goto (tgt := 4) O (xx_dt dd_X0_many 12 rfl) (by decide) ?_
      exact kk4
  · show SW Y _ _ (h) 4 [.int c, .int (nI r), .int (x_many_4 c r c), .int (nI r)] []
    refine sw_iload_n O (xx_dt dd_X0_many 4 rfl) rfl ?_
    refine sw_iload_n O (xx_dt dd_X0_many 5 rfl) rfl ?_
    refine sw_icmp_ge (tgt := 20) O (xx_dt dd_X0_many 6 rfl) (by decide) (fun q1 => ?_) (fun q1 => ?_)
    · refine sw_iload_n O (xx_dt dd_X0_many 13 rfl) rfl ?_
      refine sw_bipush (x := 6) O (xx_dt dd_X0_many 14 rfl) (by decide) ?_
      refine sw_irem O (xx_dt dd_X0_many 15 rfl) (by first | decide | assumption) ?_
      exact sw_iret O (xx_dt dd_X0_many 16 rfl) rfl rfl (by rw [hQ]; exact ⟨by unfold f_many; rfl, rfl⟩)
    · exact absurd (Int32.le_refl _) q1
def x_replaced_5 (c : Int32) (r : Nat) (m : Int32) (s0 : Int32) : Int32 := xit (fun i5 s5 => s5 * 6) r 0 s0
def f_replaced (c : Int32) (r : Nat) (m : Int32) : Int32 := c + ((m - (f_many c r)) * (x_replaced_5 c r m 1))
theorem ct_X0_replaced {l : Launch} {h : XH} (hl : l.stackTraces = false) {c m : Int32} {r : Nat} (hr : r < 1000) : XEx l m_X0_replaced 1 0 0 [.int c, .int (nI r), .int m] (h) (some (.int (f_replaced c r m))) (h) := by
  refine XMet.of hl rfl rfl (Nat.le_of_ble_eq_true rfl) (fun Y O hh hQ => ?_)
  show SW Y 0 0 (h) 0 [.int c, .int (nI r), .int m, xx_d, xx_d] []
  refine sw_iconst (x := 1) O (xx_dt dd_X0_replaced 0 rfl) (by decide) ?_
  refine sw_istore_n (ls2 := [.int c, .int (nI r), .int m, .int 1, xx_d]) O (xx_dt dd_X0_replaced 1 rfl) (by decide) rfl ?_
  refine sw_iconst (x := 0) O (xx_dt dd_X0_replaced 2 rfl) (by decide) ?_
  refine sw_istore (ls2 := [.int c, .int (nI r), .int m, .int 1, .int 0]) O (xx_dt dd_X0_replaced 3 rfl) (by decide) rfl ?_
  refine sw_for (fun i5 s5 => s5 * 6) (fun _ _ => True) (hp := fun _ => h) (hd := 5) (lc := fun i5 s5 => [.int c, .int (nI r), .int m, .int s5, .int (nI i5)]) (N := r) (fun i5 s5 hi5 hP5 => ⟨trivial, fun kk5 => ?_⟩) r 0 1 (by omega) (trivial) (fun hP5 => ?_)
  · refine sw_iload O (xx_dt dd_X0_replaced 4 rfl) rfl ?_
    refine sw_iload_n O (xx_dt dd_X0_replaced 5 rfl) rfl ?_
    refine sw_icmp_ge (tgt := 22) O (xx_dt dd_X0_replaced 6 rfl) (by decide) (fun q1 => ?_) (fun q1 => ?_)
    · exact absurd q1 (nI_ge (b := r) hi5 (by omega))
    · refine sw_iload_n O (xx_dt dd_X0_replaced 7 rfl) rfl ?_
      refine sw_bipush (x := 6) O (xx_dt dd_X0_replaced 8 rfl) (by decide) ?_
      refine sw_imul O (xx_dt dd_X0_replaced 9 rfl) ?_
      refine sw_istore_n (ls2 := [.int c, .int (nI r), .int m, .int (s5 * 6), .int (nI i5)]) O (xx_dt dd_X0_replaced 10 rfl) (by decide) rfl ?_
      refine sw_iinc (y := nI (i5 + 1)) (ls2 := [.int c, .int (nI r), .int m, .int (s5 * 6), .int (nI (i5 + 1))]) O (xx_dt dd_X0_replaced 11 rfl) rfl (nI_1 _) (by decide) rfl ?_
      refine sw_goto (tgt := 5) O (xx_dt dd_X0_replaced 12 rfl) (by decide) ?_
      exact kk5
  · show SW Y _ _ (h) 5 [.int c, .int (nI r), .int m, .int (x_replaced_5 c r m 1), .int (nI r)] []
    refine sw_iload O (xx_dt dd_X0_replaced 4 rfl) rfl ?_
    refine sw_iload_n O (xx_dt dd_X0_replaced 5 rfl) rfl ?_
    refine sw_icmp_ge (tgt := 22) O (xx_dt dd_X0_replaced 6 rfl) (by decide) (fun q1 => ?_) (fun q1 => ?_)
    · refine sw_iload_n O (xx_dt dd_X0_replaced 13 rfl) rfl ?_
      refine sw_iload_n O (xx_dt dd_X0_replaced 14 rfl) rfl ?_
      refine sw_iload_n O (xx_dt dd_X0_replaced 15 rfl) rfl ?_
      refine sw_iload_n O (xx_dt dd_X0_replaced 16 rfl) rfl ?_
      refine sw_callSx (as := [.int c, .int (nI r)]) (st := [.int m, .int c]) (st2 := [.int (f_many c r), .int m, .int c]) O (ct_X0_many hl (c := c) (r := r) (by omega)) ce_X0_many ml_X0_9 st_X0_many (xx_dt dd_X0_replaced 17 rfl) (by decide) rfl rfl (Nat.le_of_ble_eq_true rfl) rfl ?_
      refine sw_isub O (xx_dt dd_X0_replaced 18 rfl) ?_
      refine sw_iload_n O (xx_dt dd_X0_replaced 19 rfl) rfl ?_
      refine sw_imul O (xx_dt dd_X0_replaced 20 rfl) ?_
      refine sw_iadd O (xx_dt dd_X0_replaced 21 rfl) ?_
      exact sw_iret O (xx_dt dd_X0_replaced 22 rfl) rfl rfl (by rw [hQ]; exact ⟨by unfold f_replaced; rfl, rfl⟩)
    · exact absurd (Int32.le_refl _) q1
def x_total_7 (c : Int32) (n : Nat) (f : Nat → Int32) (s0 : Int32 × Int32) : Int32 × Int32 := xit (fun i7 s7 => (s7.1 / 6, s7.2 + ((s7.1 - s7.1 / 6 * 6) * (f i7)))) n 0 s0
def f_total (c : Int32) (n : Nat) (f : Nat → Int32) : Int32 := (x_total_7 c n f (c, 0)).2
theorem ct_X0_total {l : Launch} {h : XH} (hl : l.stackTraces = false) {c : Int32} {a n : Nat} {f : Nat → Int32} (ha : h a = some (100, n, fun k => .int (f k))) (hn : n < 1000) : XEx l m_X0_total 0 0 0 [.int c, .ref a] (h) (some (.int (f_total c n f))) (h) := by
  refine XMet.of hl rfl rfl (Nat.le_of_ble_eq_true rfl) (fun Y O hh hQ => ?_)
  show SW Y 0 0 (h) 0 [.int c, .ref a, xx_d, xx_d, xx_d] []
  refine sw_iload_n O (xx_dt dd_X0_total 0 rfl) rfl ?_
  refine sw_istore_n (ls2 := [.int c, .ref a, .int c, xx_d, xx_d]) O (xx_dt dd_X0_total 1 rfl) (by decide) rfl ?_
  refine sw_iconst (x := 0) O (xx_dt dd_X0_total 2 rfl) (by decide) ?_
  refine sw_istore_n (ls2 := [.int c, .ref a, .int c, .int 0, xx_d]) O (xx_dt dd_X0_total 3 rfl) (by decide) rfl ?_
  refine sw_iconst (x := 0) O (xx_dt dd_X0_total 4 rfl) (by decide) ?_
  refine sw_istore (ls2 := [.int c, .ref a, .int c, .int 0, .int 0]) O (xx_dt dd_X0_total 5 rfl) (by decide) rfl ?_
  refine sw_for (fun i7 s7 => (s7.1 / 6, s7.2 + ((s7.1 - s7.1 / 6 * 6) * (f i7)))) (fun _ _ => True) (hp := fun _ => h) (hd := 7) (lc := fun i7 s7 => [.int c, .ref a, .int s7.1, .int s7.2, .int (nI i7)]) (N := n) (fun i7 s7 hi7 hP7 => ⟨trivial, fun kk7 => ?_⟩) n 0 (c, 0) (by omega) (trivial) (fun hP7 => ?_)
  · refine sw_iload O (xx_dt dd_X0_total 6 rfl) rfl ?_
    refine sw_aload_n O (xx_dt dd_X0_total 7 rfl) rfl ?_
    refine sw_alen O (xx_dt dd_X0_total 8 rfl) (by omega) (by omega) (ha) ?_
    refine sw_icmp_ge (tgt := 37) O (xx_dt dd_X0_total 9 rfl) (by decide) (fun q1 => ?_) (fun q1 => ?_)
    · exact absurd q1 (nI_ge (b := n) hi7 (by omega))
    · refine sw_iload_n O (xx_dt dd_X0_total 10 rfl) rfl ?_
      refine sw_iload_n O (xx_dt dd_X0_total 11 rfl) rfl ?_
      refine sw_bipush (x := 6) O (xx_dt dd_X0_total 12 rfl) (by decide) ?_
      refine sw_irem O (xx_dt dd_X0_total 13 rfl) (by first | decide | assumption) ?_
      refine sw_aload_n O (xx_dt dd_X0_total 14 rfl) rfl ?_
      refine sw_iload O (xx_dt dd_X0_total 15 rfl) rfl ?_
      refine sw_iaload (v := .int (f i7)) O (xx_dt dd_X0_total 16 rfl) (ha) (pk_in i7 _ (by omega)) (by rw [nI_clamp (by omega)]; try exact rfl) ?_
      refine sw_imul O (xx_dt dd_X0_total 17 rfl) ?_
      refine sw_iadd O (xx_dt dd_X0_total 18 rfl) ?_
      refine sw_istore_n (ls2 := [.int c, .ref a, .int s7.1, .int (s7.2 + ((s7.1 - s7.1 / 6 * 6) * (f i7))), .int (nI i7)]) O (xx_dt dd_X0_total 19 rfl) (by decide) rfl ?_
      refine sw_iload_n O (xx_dt dd_X0_total 20 rfl) rfl ?_
      refine sw_bipush (x := 6) O (xx_dt dd_X0_total 21 rfl) (by decide) ?_
      refine sw_idiv O (xx_dt dd_X0_total 22 rfl) (by first | decide | assumption) ?_
      refine sw_istore_n (ls2 := [.int c, .ref a, .int (s7.1 / 6), .int (s7.2 + ((s7.1 - s7.1 / 6 * 6) * (f i7))), .int (nI i7)]) O (xx_dt dd_X0_total 23 rfl) (by decide) rfl ?_
      refine sw_iinc (y := nI (i7 + 1)) (ls2 := [.int c, .ref a, .int (s7.1 / 6), .int (s7.2 + ((s7.1 - s7.1 / 6 * 6) * (f i7))), .int (nI (i7 + 1))]) O (xx_dt dd_X0_total 24 rfl) rfl (nI_1 _) (by decide) rfl ?_
      refine sw_goto (tgt := 7) O (xx_dt dd_X0_total 25 rfl) (by decide) ?_
      exact kk7
  · show SW Y _ _ (h) 7 [.int c, .ref a, .int ((x_total_7 c n f (c, 0)).1), .int ((x_total_7 c n f (c, 0)).2), .int (nI n)] []
    refine sw_iload O (xx_dt dd_X0_total 6 rfl) rfl ?_
    refine sw_aload_n O (xx_dt dd_X0_total 7 rfl) rfl ?_
    refine sw_alen O (xx_dt dd_X0_total 8 rfl) (by omega) (by omega) (ha) ?_
    refine sw_icmp_ge (tgt := 37) O (xx_dt dd_X0_total 9 rfl) (by decide) (fun q1 => ?_) (fun q1 => ?_)
    · refine sw_iload_n O (xx_dt dd_X0_total 26 rfl) rfl ?_
      exact sw_iret O (xx_dt dd_X0_total 27 rfl) rfl rfl (by rw [hQ]; exact ⟨by unfold f_total; rfl, rfl⟩)
    · exact absurd (Int32.le_refl _) q1
def x_together_4 (n : Nat) (f : Nat → Int32) (r : Nat) (s0 : Int32) : Int32 := xit (fun i4 s4 => s4 + (f_many (f i4) r)) n 0 s0
def f_together (n : Nat) (f : Nat → Int32) (r : Nat) : Int32 := (x_together_4 n f r 0)
theorem ct_X0_together {l : Launch} {h : XH} (hl : l.stackTraces = false) {a n r : Nat} {f : Nat → Int32} (ha : h a = some (100, n, fun k => .int (f k))) (hn : n < 1000) (hr : r < 1000) : XEx l m_X0_together 1 0 0 [.ref a, .int (nI r)] (h) (some (.int (f_together n f r))) (h) := by
  refine XMet.of hl rfl rfl (Nat.le_of_ble_eq_true rfl) (fun Y O hh hQ => ?_)
  show SW Y 0 0 (h) 0 [.ref a, .int (nI r), xx_d, xx_d] []
  refine sw_iconst (x := 0) O (xx_dt dd_X0_together 0 rfl) (by decide) ?_
  refine sw_istore_n (ls2 := [.ref a, .int (nI r), .int 0, xx_d]) O (xx_dt dd_X0_together 1 rfl) (by decide) rfl ?_
  refine sw_iconst (x := 0) O (xx_dt dd_X0_together 2 rfl) (by decide) ?_
  refine sw_istore_n (ls2 := [.ref a, .int (nI r), .int 0, .int 0]) O (xx_dt dd_X0_together 3 rfl) (by decide) rfl ?_
  refine sw_for (fun i4 s4 => s4 + (f_many (f i4) r)) (fun _ _ => True) (hp := fun _ => h) (hd := 4) (lc := fun i4 s4 => [.ref a, .int (nI r), .int s4, .int (nI i4)]) (N := n) (fun i4 s4 hi4 hP4 => ⟨trivial, fun kk4 => ?_⟩) n 0 0 (by omega) (trivial) (fun hP4 => ?_)
  · refine sw_iload_n O (xx_dt dd_X0_together 4 rfl) rfl ?_
    refine sw_aload_n O (xx_dt dd_X0_together 5 rfl) rfl ?_
    refine sw_alen O (xx_dt dd_X0_together 6 rfl) (by omega) (by omega) (ha) ?_
    refine sw_icmp_ge (tgt := 26) O (xx_dt dd_X0_together 7 rfl) (by decide) (fun q1 => ?_) (fun q1 => ?_)
    · exact absurd q1 (nI_ge (b := n) hi4 (by omega))
    · refine sw_iload_n O (xx_dt dd_X0_together 8 rfl) rfl ?_
      refine sw_aload_n O (xx_dt dd_X0_together 9 rfl) rfl ?_
      refine sw_iload_n O (xx_dt dd_X0_together 10 rfl) rfl ?_
      refine sw_iaload (v := .int (f i4)) O (xx_dt dd_X0_together 11 rfl) (ha) (pk_in i4 _ (by omega)) (by rw [nI_clamp (by omega)]; try exact rfl) ?_
      refine sw_iload_n O (xx_dt dd_X0_together 12 rfl) rfl ?_
      refine sw_callSx (as := [.int (f i4), .int (nI r)]) (st := [.int s4]) (st2 := [.int (f_many (f i4) r), .int s4]) O (ct_X0_many hl (c := f i4) (r := r) (by omega)) ce_X0_many ml_X0_9 st_X0_many (xx_dt dd_X0_together 13 rfl) (by decide) rfl rfl (Nat.le_of_ble_eq_true rfl) rfl ?_
      refine sw_iadd O (xx_dt dd_X0_together 14 rfl) ?_
      refine sw_istore_n (ls2 := [.ref a, .int (nI r), .int (s4 + (f_many (f i4) r)), .int (nI i4)]) O (xx_dt dd_X0_together 15 rfl) (by decide) rfl ?_
      refine sw_iinc (y := nI (i4 + 1)) (ls2 := [.ref a, .int (nI r), .int (s4 + (f_many (f i4) r)), .int (nI (i4 + 1))]) O (xx_dt dd_X0_together 16 rfl) rfl (nI_1 _) (by decide) rfl ?_
      refine sw_goto (tgt := 4) O (xx_dt dd_X0_together 17 rfl) (by decide) ?_
      exact kk4
  · show SW Y _ _ (h) 4 [.ref a, .int (nI r), .int (x_together_4 n f r 0), .int (nI n)] []
    refine sw_iload_n O (xx_dt dd_X0_together 4 rfl) rfl ?_
    refine sw_aload_n O (xx_dt dd_X0_together 5 rfl) rfl ?_
    refine sw_alen O (xx_dt dd_X0_together 6 rfl) (by omega) (by omega) (ha) ?_
    refine sw_icmp_ge (tgt := 26) O (xx_dt dd_X0_together 7 rfl) (by decide) (fun q1 => ?_) (fun q1 => ?_)
    · refine sw_iload_n O (xx_dt dd_X0_together 18 rfl) rfl ?_
      exact sw_iret O (xx_dt dd_X0_together 19 rfl) rfl rfl (by rw [hQ]; exact ⟨by unfold f_together; rfl, rfl⟩)
    · exact absurd (Int32.le_refl _) q1
def x_isWithin_4 (c : Int32) (n : Nat) (f : Nat → Int32) (s0 : Int32) : Int32 ⊕ Int32 := xitR (fun i4 s4 => (if (s4 - s4 / 6 * 6) ≤ (f i4) then .inl (s4 / 6) else .inr 0)) n 0 s0
def f_isWithin (c : Int32) (n : Nat) (f : Nat → Int32) : Int32 := (match (x_isWithin_4 c n f c) with | .inl s4 => 1 | .inr r4 => r4)
theorem ct_X0_isWithin {l : Launch} {h : XH} (hl : l.stackTraces = false) {c : Int32} {a n : Nat} {f : Nat → Int32} (ha : h a = some (100, n, fun k => .int (f k))) (hn : n < 1000) : XEx l m_X0_isWithin 0 0 0 [.int c, .ref a] (h) (some (.int (f_isWithin c n f))) (h) := by
  refine XMet.of hl rfl rfl (Nat.le_of_ble_eq_true rfl) (fun Y O hh hQ => ?_)
  show SW Y 0 0 (h) 0 [.int c, .ref a, xx_d, xx_d] []
  refine sw_iload_n O (xx_dt dd_X0_isWithin 0 rfl) rfl ?_
  refine sw_istore_n (ls2 := [.int c, .ref a, .int c, xx_d]) O (xx_dt dd_X0_isWithin 1 rfl) (by decide) rfl ?_
  refine sw_iconst (x := 0) O (xx_dt dd_X0_isWithin 2 rfl) (by decide) ?_
  refine sw_istore_n (ls2 := [.int c, .ref a, .int c, .int 0]) O (xx_dt dd_X0_isWithin 3 rfl) (by decide) rfl ?_
  refine sw_forR (R := Int32) (fun i4 s4 => (if (s4 - s4 / 6 * 6) ≤ (f i4) then .inl (s4 / 6) else .inr 0)) (fun _ _ => True) (FR := fun r => f_isWithin c n f = r) (hp := fun _ => h) (hd := 4) (lc := fun i4 s4 => [.int c, .ref a, .int s4, .int (nI i4)]) (N := n) (fun i4 s4 hi4 hP4 => ⟨fun _ _ => trivial, fun kk4 kr4 => ?_⟩) n 0 c (by omega) (trivial) (fun sN4 eN4 hP4 => ?_) (fun r4 eN4 => ?_)
  · refine sw_iload_n O (xx_dt dd_X0_isWithin 4 rfl) rfl ?_
    refine sw_aload_n O (xx_dt dd_X0_isWithin 5 rfl) rfl ?_
    refine sw_alen O (xx_dt dd_X0_isWithin 6 rfl) (by omega) (by omega) (ha) ?_
    refine sw_icmp_ge (tgt := 33) O (xx_dt dd_X0_isWithin 7 rfl) (by decide) (fun q1 => ?_) (fun q1 => ?_)
    · exact absurd q1 (nI_ge (b := n) hi4 (by omega))
    · refine sw_iload_n O (xx_dt dd_X0_isWithin 8 rfl) rfl ?_
      refine sw_bipush (x := 6) O (xx_dt dd_X0_isWithin 9 rfl) (by decide) ?_
      refine sw_irem O (xx_dt dd_X0_isWithin 10 rfl) (by first | decide | assumption) ?_
      refine sw_aload_n O (xx_dt dd_X0_isWithin 11 rfl) rfl ?_
      refine sw_iload_n O (xx_dt dd_X0_isWithin 12 rfl) rfl ?_
      refine sw_iaload (v := .int (f i4)) O (xx_dt dd_X0_isWithin 13 rfl) (ha) (pk_in i4 _ (by omega)) (by rw [nI_clamp (by omega)]; try exact rfl) ?_
      refine sw_icmp_le (tgt := 22) O (xx_dt dd_X0_isWithin 14 rfl) (by decide) (fun q2 => ?_) (fun q2 => ?_)
      · refine sw_iload_n O (xx_dt dd_X0_isWithin 17 rfl) rfl ?_
        refine sw_bipush (x := 6) O (xx_dt dd_X0_isWithin 18 rfl) (by decide) ?_
        refine sw_idiv O (xx_dt dd_X0_isWithin 19 rfl) (by first | decide | assumption) ?_
        refine sw_istore_n (ls2 := [.int c, .ref a, .int (s4 / 6), .int (nI i4)]) O (xx_dt dd_X0_isWithin 20 rfl) (by decide) rfl ?_
        refine sw_iinc (y := nI (i4 + 1)) (ls2 := [.int c, .ref a, .int (s4 / 6), .int (nI (i4 + 1))]) O (xx_dt dd_X0_isWithin 21 rfl) rfl (nI_1 _) (by decide) rfl ?_
        refine sw_goto (tgt := 4) O (xx_dt dd_X0_isWithin 22 rfl) (by decide) ?_
        exact kk4 (s4 / 6) (by simp only [if_pos q2])
      · refine sw_iconst (x := 0) O (xx_dt dd_X0_isWithin 15 rfl) (by decide) ?_
        exact sw_iret O (xx_dt dd_X0_isWithin 16 rfl) rfl rfl (by rw [hQ, kr4 0 (by simp only [if_neg q2])]; exact ⟨rfl, rfl⟩)
  · show SW Y _ _ (h) 4 [.int c, .ref a, .int sN4, .int (nI n)] []
    refine sw_iload_n O (xx_dt dd_X0_isWithin 4 rfl) rfl ?_
    refine sw_aload_n O (xx_dt dd_X0_isWithin 5 rfl) rfl ?_
    refine sw_alen O (xx_dt dd_X0_isWithin 6 rfl) (by omega) (by omega) (ha) ?_
    refine sw_icmp_ge (tgt := 33) O (xx_dt dd_X0_isWithin 7 rfl) (by decide) (fun q1 => ?_) (fun q1 => ?_)
    · refine sw_iconst (x := 1) O (xx_dt dd_X0_isWithin 23 rfl) (by decide) ?_
      exact sw_iret O (xx_dt dd_X0_isWithin 24 rfl) rfl rfl (by rw [hQ]; exact ⟨by unfold f_isWithin; simp only [x_isWithin_4, eN4], rfl⟩)
    · exact absurd (Int32.le_refl _) q1
  · unfold f_isWithin; simp only [x_isWithin_4, eN4]
