def x_dearer_12 (c d : Int32) (n : Nat) (f g : Nat → Int32) (s0 : Int32 × Int32 × Int32) : Int32 × Int32 × Int32 := xit (fun i s => (s.1 / 6, s.2.1 / 6, s.2.2 + (((f i) - (g i)) * ((s.1 - s.1 / 6 * 6) - (s.2.1 - s.2.1 / 6 * 6))))) n 0 s0
def f_dearer (c d : Int32) (n : Nat) (f g : Nat → Int32) : Int32 := (x_dearer_12 c d n f g (c, d, 0)).2.2
theorem ct_X0_dearer {l : Launch} {h : XH} (hl : l.stackTraces = false) {c d : Int32} {a b n : Nat} {f g : Nat → Int32} (ha : h a = some (100, n, fun k => .int (f k))) (hb : h b = some (100, n, fun k => .int (g k))) (hn : n < 1000) : XEx l m_X0_dearer 0 0 0 [.int c, .int d, .ref a, .ref b] (h) (some (.int (f_dearer c d n f g))) (h) := by
  refine XMet.of hl rfl rfl (Nat.le_of_ble_eq_true rfl) (fun Y O hh hQ => ?_)
  show SW Y 0 0 (h) 0 [.int c, .int d, .ref a, .ref b, xx_d, xx_d, xx_d, xx_d] []
  refine sw_iload_n O (xx_dt dd_X0_dearer 0 rfl) rfl ?_
  refine sw_istore (ls2 := [.int c, .int d, .ref a, .ref b, .int c, xx_d, xx_d, xx_d]) O (xx_dt dd_X0_dearer 1 rfl) (by decide) rfl ?_
  refine sw_iload_n O (xx_dt dd_X0_dearer 2 rfl) rfl ?_
  refine sw_istore (ls2 := [.int c, .int d, .ref a, .ref b, .int c, .int d, xx_d, xx_d]) O (xx_dt dd_X0_dearer 3 rfl) (by decide) rfl ?_
  refine sw_iconst (x := 0) O (xx_dt dd_X0_dearer 4 rfl) (by decide) ?_
  refine sw_istore (ls2 := [.int c, .int d, .ref a, .ref b, .int c, .int d, .int 0, xx_d]) O (xx_dt dd_X0_dearer 5 rfl) (by decide) rfl ?_
  refine sw_iconst (x := 0) O (xx_dt dd_X0_dearer 6 rfl) (by decide) ?_
  refine sw_istore (ls2 := [.int c, .int d, .ref a, .ref b, .int c, .int d, .int 0, .int 0]) O (xx_dt dd_X0_dearer 7 rfl) (by decide) rfl ?_
  refine sw_for (fun i s => (s.1 / 6, s.2.1 / 6, s.2.2 + (((f i) - (g i)) * ((s.1 - s.1 / 6 * 6) - (s.2.1 - s.2.1 / 6 * 6))))) (fun _ _ => True) (hp := fun _ => h) (hd := 12) (lc := fun i s => [.int c, .int d, .ref a, .ref b, .int s.1, .int s.2.1, .int s.2.2, .int (nI i)]) (N := n) (fun i s hi hP => ⟨trivial, fun kk => ?_⟩) n 0 (c, d, 0) (by omega) (trivial) (fun hP => ?_)
  · refine sw_iload O (xx_dt dd_X0_dearer 8 rfl) rfl ?_
    refine sw_aload_n O (xx_dt dd_X0_dearer 9 rfl) rfl ?_
    refine sw_alen O (xx_dt dd_X0_dearer 10 rfl) (by omega) (by omega) (ha) ?_
    refine sw_icmp_ge (tgt := 72) O (xx_dt dd_X0_dearer 11 rfl) (by decide) (fun q1 => ?_) (fun q1 => ?_)
    · exact absurd q1 (nI_ge hi (by omega))
    · refine sw_iload O (xx_dt dd_X0_dearer 12 rfl) rfl ?_
      refine sw_aload_n O (xx_dt dd_X0_dearer 13 rfl) rfl ?_
      refine sw_alen O (xx_dt dd_X0_dearer 14 rfl) (by omega) (by omega) (hb) ?_
      refine sw_icmp_ge (tgt := 72) O (xx_dt dd_X0_dearer 15 rfl) (by decide) (fun q2 => ?_) (fun q2 => ?_)
      · exact absurd q2 (nI_ge hi (by omega))
      · refine sw_iload O (xx_dt dd_X0_dearer 16 rfl) rfl ?_
        refine sw_aload_n O (xx_dt dd_X0_dearer 17 rfl) rfl ?_
        refine sw_iload O (xx_dt dd_X0_dearer 18 rfl) rfl ?_
        refine sw_iaload (v := .int (f i)) O (xx_dt dd_X0_dearer 19 rfl) (ha) (pk_in i _ (by omega)) (by rw [nI_clamp (by omega)]) ?_
        refine sw_aload_n O (xx_dt dd_X0_dearer 20 rfl) rfl ?_
        refine sw_iload O (xx_dt dd_X0_dearer 21 rfl) rfl ?_
        refine sw_iaload (v := .int (g i)) O (xx_dt dd_X0_dearer 22 rfl) (hb) (pk_in i _ (by omega)) (by rw [nI_clamp (by omega)]) ?_
        refine sw_isub O (xx_dt dd_X0_dearer 23 rfl) ?_
        refine sw_iload O (xx_dt dd_X0_dearer 24 rfl) rfl ?_
        refine sw_bipush (x := 6) O (xx_dt dd_X0_dearer 25 rfl) (by decide) ?_
        refine sw_irem O (xx_dt dd_X0_dearer 26 rfl) (by decide) ?_
        refine sw_iload O (xx_dt dd_X0_dearer 27 rfl) rfl ?_
        refine sw_bipush (x := 6) O (xx_dt dd_X0_dearer 28 rfl) (by decide) ?_
        refine sw_irem O (xx_dt dd_X0_dearer 29 rfl) (by decide) ?_
        refine sw_isub O (xx_dt dd_X0_dearer 30 rfl) ?_
        refine sw_imul O (xx_dt dd_X0_dearer 31 rfl) ?_
        refine sw_iadd O (xx_dt dd_X0_dearer 32 rfl) ?_
        refine sw_istore (ls2 := [.int c, .int d, .ref a, .ref b, .int s.1, .int s.2.1, .int (s.2.2 + (((f i) - (g i)) * ((s.1 - s.1 / 6 * 6) - (s.2.1 - s.2.1 / 6 * 6)))), .int (nI i)]) O (xx_dt dd_X0_dearer 33 rfl) (by decide) rfl ?_
        refine sw_iload O (xx_dt dd_X0_dearer 34 rfl) rfl ?_
        refine sw_bipush (x := 6) O (xx_dt dd_X0_dearer 35 rfl) (by decide) ?_
        refine sw_idiv O (xx_dt dd_X0_dearer 36 rfl) (by decide) ?_
        refine sw_istore (ls2 := [.int c, .int d, .ref a, .ref b, .int (s.1 / 6), .int s.2.1, .int (s.2.2 + (((f i) - (g i)) * ((s.1 - s.1 / 6 * 6) - (s.2.1 - s.2.1 / 6 * 6)))), .int (nI i)]) O (xx_dt dd_X0_dearer 37 rfl) (by decide) rfl ?_
        refine sw_iload O (xx_dt dd_X0_dearer 38 rfl) rfl ?_
        refine sw_bipush (x := 6) O (xx_dt dd_X0_dearer 39 rfl) (by decide) ?_
        refine sw_idiv O (xx_dt dd_X0_dearer 40 rfl) (by decide) ?_
        refine sw_istore (ls2 := [.int c, .int d, .ref a, .ref b, .int (s.1 / 6), .int (s.2.1 / 6), .int (s.2.2 + (((f i) - (g i)) * ((s.1 - s.1 / 6 * 6) - (s.2.1 - s.2.1 / 6 * 6)))), .int (nI i)]) O (xx_dt dd_X0_dearer 41 rfl) (by decide) rfl ?_
        refine sw_iinc (y := nI (i + 1)) (ls2 := [.int c, .int d, .ref a, .ref b, .int (s.1 / 6), .int (s.2.1 / 6), .int (s.2.2 + (((f i) - (g i)) * ((s.1 - s.1 / 6 * 6) - (s.2.1 - s.2.1 / 6 * 6)))), .int (nI (i + 1))]) O (xx_dt dd_X0_dearer 42 rfl) rfl (nI_1 _) (by decide) rfl ?_
        refine sw_goto (tgt := 12) O (xx_dt dd_X0_dearer 43 rfl) (by decide) ?_
        exact kk
  · show SW Y _ _ (h) 12 [.int c, .int d, .ref a, .ref b, .int ((x_dearer_12 c d n f g (c, d, 0)).1), .int ((x_dearer_12 c d n f g (c, d, 0)).2.1), .int ((x_dearer_12 c d n f g (c, d, 0)).2.2), .int (nI n)] []
    refine sw_iload O (xx_dt dd_X0_dearer 8 rfl) rfl ?_
    refine sw_aload_n O (xx_dt dd_X0_dearer 9 rfl) rfl ?_
    refine sw_alen O (xx_dt dd_X0_dearer 10 rfl) (by omega) (by omega) (ha) ?_
    refine sw_icmp_ge (tgt := 72) O (xx_dt dd_X0_dearer 11 rfl) (by decide) (fun q1 => ?_) (fun q1 => ?_)
    · refine sw_iload O (xx_dt dd_X0_dearer 44 rfl) rfl ?_
      exact sw_iret O (xx_dt dd_X0_dearer 45 rfl) rfl rfl (by rw [hQ]; exact ⟨by unfold f_dearer; rfl, rfl⟩)
    · exact absurd (Int32.le_refl _) q1
def f_areNeighbours (σ : XS9) (i j : Nat) : Int32 := (if ((σ 1013 i) &&& (1 <<< ((nI j) &&& 31))) = 0 then 0 else 1)
theorem ct_X6_areNeighbours {l : Launch} {h : XH} (hl : l.stackTraces = false) {σ : XS9} {i j : Nat} (hi : i < 5) : XEx l m_X6_areNeighbours 0 0 0 [.ref 1001, .int (nI i), .int (nI j)] (setC σ h) (some (.int (f_areNeighbours σ i j))) (setC σ h) := by
  refine XMet.of hl rfl rfl (Nat.le_of_ble_eq_true rfl) (fun Y O hh hQ => ?_)
  show SW Y 0 0 (setC σ h) 0 [.ref 1001, .int (nI i), .int (nI j)] []
  refine sw_aload_n O (xx_dt dd_X6_areNeighbours 0 rfl) rfl ?_
  refine sw_get (v := .ref 1013) O (xx_dt dd_X6_areNeighbours 1 rfl) cl_X6 fl_X6_21 (ly_1001 σ h) (by decide) rfl ?_
  refine sw_iload_n O (xx_dt dd_X6_areNeighbours 2 rfl) rfl ?_
  refine sw_iaload (v := .int (σ 1013 i)) O (xx_dt dd_X6_areNeighbours 3 rfl) (ly_1013 σ h) (pk_in i _ (by omega)) (by rw [nI_clamp (by omega)]) ?_
  refine sw_iconst (x := 1) O (xx_dt dd_X6_areNeighbours 4 rfl) (by decide) ?_
  refine sw_iload_n O (xx_dt dd_X6_areNeighbours 5 rfl) rfl ?_
  refine sw_ishl O (xx_dt dd_X6_areNeighbours 6 rfl) ?_
  refine sw_iand O (xx_dt dd_X6_areNeighbours 7 rfl) ?_
  refine sw_if_eq (tgt := 17) O (xx_dt dd_X6_areNeighbours 8 rfl) (by decide) (fun q1 => ?_) (fun q1 => ?_)
  · refine sw_iconst (x := 0) O (xx_dt dd_X6_areNeighbours 11 rfl) (by decide) ?_
    exact sw_iret O (xx_dt dd_X6_areNeighbours 12 rfl) rfl rfl (by rw [hQ]; exact ⟨by unfold f_areNeighbours; simp only [if_pos q1], rfl⟩)
  · refine sw_iconst (x := 1) O (xx_dt dd_X6_areNeighbours 9 rfl) (by decide) ?_
    refine sw_goto (tgt := 18) O (xx_dt dd_X6_areNeighbours 10 rfl) (by decide) ?_
    exact sw_iret O (xx_dt dd_X6_areNeighbours 12 rfl) rfl rfl (by rw [hQ]; exact ⟨by unfold f_areNeighbours; simp only [if_neg q1], rfl⟩)
def f_areAllies (σ : XS9) (i j : Nat) : Int32 := (if (nI i) = (nI j) then 0 else (if (σ 1017 i) = 0 then 0 else (if (σ 1017 i) = (σ 1017 j) then 1 else 0)))
theorem ct_X6_areAllies {l : Launch} {h : XH} (hl : l.stackTraces = false) {σ : XS9} {i j : Nat} (hi : i < 6) (hj : j < 6) : XEx l m_X6_areAllies 0 0 0 [.ref 1001, .int (nI i), .int (nI j)] (setC σ h) (some (.int (f_areAllies σ i j))) (setC σ h) := by
  refine XMet.of hl rfl rfl (Nat.le_of_ble_eq_true rfl) (fun Y O hh hQ => ?_)
  show SW Y 0 0 (setC σ h) 0 [.ref 1001, .int (nI i), .int (nI j)] []
  refine sw_iload_n O (xx_dt dd_X6_areAllies 0 rfl) rfl ?_
  refine sw_iload_n O (xx_dt dd_X6_areAllies 1 rfl) rfl ?_
  refine sw_icmp_eq (tgt := 33) O (xx_dt dd_X6_areAllies 2 rfl) (by decide) (fun q1 => ?_) (fun q1 => ?_)
  · refine sw_iconst (x := 0) O (xx_dt dd_X6_areAllies 19 rfl) (by decide) ?_
    exact sw_iret O (xx_dt dd_X6_areAllies 20 rfl) rfl rfl (by rw [hQ]; exact ⟨by unfold f_areAllies; simp only [if_pos q1], rfl⟩)
  · refine sw_aload_n O (xx_dt dd_X6_areAllies 3 rfl) rfl ?_
    refine sw_get (v := .ref 1017) O (xx_dt dd_X6_areAllies 4 rfl) cl_X6 fl_X6_33 (ly_1001 σ h) (by decide) rfl ?_
    refine sw_iload_n O (xx_dt dd_X6_areAllies 5 rfl) rfl ?_
    refine sw_iaload (v := .int (σ 1017 i)) O (xx_dt dd_X6_areAllies 6 rfl) (ly_1017 σ h) (pk_in i _ (by omega)) (by rw [nI_clamp (by omega)]) ?_
    refine sw_if_eq (tgt := 33) O (xx_dt dd_X6_areAllies 7 rfl) (by decide) (fun q2 => ?_) (fun q2 => ?_)
    · refine sw_iconst (x := 0) O (xx_dt dd_X6_areAllies 19 rfl) (by decide) ?_
      exact sw_iret O (xx_dt dd_X6_areAllies 20 rfl) rfl rfl (by rw [hQ]; exact ⟨by unfold f_areAllies; simp only [if_neg q1, if_pos q2], rfl⟩)
    · refine sw_aload_n O (xx_dt dd_X6_areAllies 8 rfl) rfl ?_
      refine sw_get (v := .ref 1017) O (xx_dt dd_X6_areAllies 9 rfl) cl_X6 fl_X6_33 (ly_1001 σ h) (by decide) rfl ?_
      refine sw_iload_n O (xx_dt dd_X6_areAllies 10 rfl) rfl ?_
      refine sw_iaload (v := .int (σ 1017 i)) O (xx_dt dd_X6_areAllies 11 rfl) (ly_1017 σ h) (pk_in i _ (by omega)) (by rw [nI_clamp (by omega)]) ?_
      refine sw_aload_n O (xx_dt dd_X6_areAllies 12 rfl) rfl ?_
      refine sw_get (v := .ref 1017) O (xx_dt dd_X6_areAllies 13 rfl) cl_X6 fl_X6_33 (ly_1001 σ h) (by decide) rfl ?_
      refine sw_iload_n O (xx_dt dd_X6_areAllies 14 rfl) rfl ?_
      refine sw_iaload (v := .int (σ 1017 j)) O (xx_dt dd_X6_areAllies 15 rfl) (ly_1017 σ h) (pk_in j _ (by omega)) (by rw [nI_clamp (by omega)]) ?_
      refine sw_icmp_ne (tgt := 33) O (xx_dt dd_X6_areAllies 16 rfl) (by decide) (fun q3 => ?_) (fun q3 => ?_)
      · refine sw_iconst (x := 0) O (xx_dt dd_X6_areAllies 19 rfl) (by decide) ?_
        exact sw_iret O (xx_dt dd_X6_areAllies 20 rfl) rfl rfl (by rw [hQ]; exact ⟨by unfold f_areAllies; simp only [if_neg q1, if_neg q2, if_neg q3], rfl⟩)
      · refine sw_iconst (x := 1) O (xx_dt dd_X6_areAllies 17 rfl) (by decide) ?_
        refine sw_goto (tgt := 34) O (xx_dt dd_X6_areAllies 18 rfl) (by decide) ?_
        exact sw_iret O (xx_dt dd_X6_areAllies 20 rfl) rfl rfl (by rw [hQ]; exact ⟨by unfold f_areAllies; simp only [if_neg q1, if_neg q2, if_pos q3], rfl⟩)
def x_isCode_4 (σ : XS9) (c : Int32) (R : Nat) (s0 : Int32) : Int32 := xit (fun i s => s * 6) R 0 s0
def f_isCode (σ : XS9) (c : Int32) (R : Nat) : Int32 := (if c < 0 then 0 else (if (x_isCode_4 σ c R 1) ≤ c then 0 else 1))
theorem ct_X6_isCode {l : Launch} {h : XH} (hl : l.stackTraces = false) {σ : XS9} {c : Int32} {R : Nat} (hR : σ 1001 4 = nI R) (hR5 : R ≤ 5) : XEx l m_X6_isCode 0 0 0 [.ref 1001, .int c] (setC σ h) (some (.int (f_isCode σ c R))) (setC σ h) := by
  refine XMet.of hl rfl rfl (Nat.le_of_ble_eq_true rfl) (fun Y O hh hQ => ?_)
  show SW Y 0 0 (setC σ h) 0 [.ref 1001, .int c, xx_d, xx_d] []
  refine sw_iconst (x := 1) O (xx_dt dd_X6_isCode 0 rfl) (by decide) ?_
  refine sw_istore_n (ls2 := [.ref 1001, .int c, .int 1, xx_d]) O (xx_dt dd_X6_isCode 1 rfl) (by decide) rfl ?_
  refine sw_iconst (x := 0) O (xx_dt dd_X6_isCode 2 rfl) (by decide) ?_
  refine sw_istore_n (ls2 := [.ref 1001, .int c, .int 1, .int 0]) O (xx_dt dd_X6_isCode 3 rfl) (by decide) rfl ?_
  refine sw_for (fun i s => s * 6) (fun _ _ => True) (hp := fun _ => setC σ h) (hd := 4) (lc := fun i s => [.ref 1001, .int c, .int s, .int (nI i)]) (N := R) (fun i s hi hP => ⟨trivial, fun kk => ?_⟩) R 0 1 (by omega) (trivial) (fun hP => ?_)
  · refine sw_iload_n O (xx_dt dd_X6_isCode 4 rfl) rfl ?_
    refine sw_aload_n O (xx_dt dd_X6_isCode 5 rfl) rfl ?_
    refine sw_get (v := .int (nI R)) O (xx_dt dd_X6_isCode 6 rfl) cl_X6 fl_X6_44 (ly_1001 σ h) (by decide) (congrArg Value.int hR) ?_
    refine sw_icmp_ge (tgt := 23) O (xx_dt dd_X6_isCode 7 rfl) (by decide) (fun q1 => ?_) (fun q1 => ?_)
    · exact absurd q1 (nI_ge hi (by omega))
    · refine sw_iload_n O (xx_dt dd_X6_isCode 8 rfl) rfl ?_
      refine sw_bipush (x := 6) O (xx_dt dd_X6_isCode 9 rfl) (by decide) ?_
      refine sw_imul O (xx_dt dd_X6_isCode 10 rfl) ?_
      refine sw_istore_n (ls2 := [.ref 1001, .int c, .int (s * 6), .int (nI i)]) O (xx_dt dd_X6_isCode 11 rfl) (by decide) rfl ?_
      refine sw_iinc (y := nI (i + 1)) (ls2 := [.ref 1001, .int c, .int (s * 6), .int (nI (i + 1))]) O (xx_dt dd_X6_isCode 12 rfl) rfl (nI_1 _) (by decide) rfl ?_
      refine sw_goto (tgt := 4) O (xx_dt dd_X6_isCode 13 rfl) (by decide) ?_
      exact kk
  · show SW Y _ _ (setC σ h) 4 [.ref 1001, .int c, .int (x_isCode_4 σ c R 1), .int (nI R)] []
    refine sw_iload_n O (xx_dt dd_X6_isCode 4 rfl) rfl ?_
    refine sw_aload_n O (xx_dt dd_X6_isCode 5 rfl) rfl ?_
    refine sw_get (v := .int (nI R)) O (xx_dt dd_X6_isCode 6 rfl) cl_X6 fl_X6_44 (ly_1001 σ h) (by decide) (congrArg Value.int hR) ?_
    refine sw_icmp_ge (tgt := 23) O (xx_dt dd_X6_isCode 7 rfl) (by decide) (fun q1 => ?_) (fun q1 => ?_)
    · refine sw_iload_n O (xx_dt dd_X6_isCode 14 rfl) rfl ?_
      refine sw_if_lt (tgt := 36) O (xx_dt dd_X6_isCode 15 rfl) (by decide) (fun q2 => ?_) (fun q2 => ?_)
      · refine sw_iconst (x := 0) O (xx_dt dd_X6_isCode 21 rfl) (by decide) ?_
        exact sw_iret O (xx_dt dd_X6_isCode 22 rfl) rfl rfl (by rw [hQ]; exact ⟨by unfold f_isCode; simp only [if_pos q2], rfl⟩)
      · refine sw_iload_n O (xx_dt dd_X6_isCode 16 rfl) rfl ?_
        refine sw_iload_n O (xx_dt dd_X6_isCode 17 rfl) rfl ?_
        refine sw_icmp_ge (tgt := 36) O (xx_dt dd_X6_isCode 18 rfl) (by decide) (fun q3 => ?_) (fun q3 => ?_)
        · refine sw_iconst (x := 0) O (xx_dt dd_X6_isCode 21 rfl) (by decide) ?_
          exact sw_iret O (xx_dt dd_X6_isCode 22 rfl) rfl rfl (by rw [hQ]; exact ⟨by unfold f_isCode; simp only [if_neg q2, if_pos q3], rfl⟩)
        · refine sw_iconst (x := 1) O (xx_dt dd_X6_isCode 19 rfl) (by decide) ?_
          refine sw_goto (tgt := 37) O (xx_dt dd_X6_isCode 20 rfl) (by decide) ?_
          exact sw_iret O (xx_dt dd_X6_isCode 22 rfl) rfl rfl (by rw [hQ]; exact ⟨by unfold f_isCode; simp only [if_neg q2, if_neg q3], rfl⟩)
    · exact absurd (Int32.le_refl _) q1
def x_isWithinCap_2 (σ : XS9) (c : Int32) (R : Nat) (s0 : Unit) : Unit ⊕ Int32 := xitR (fun i s => (if (f_many c i) ≤ (σ 1001 10) then .inl () else .inr 0)) R 0 s0
def f_isWithinCap (σ : XS9) (c : Int32) (R : Nat) : Int32 := (match (x_isWithinCap_2 σ c R ()) with | .inl s => 1 | .inr r => r)
theorem ct_X6_isWithinCap {l : Launch} {h : XH} (hl : l.stackTraces = false) {σ : XS9} {c : Int32} {R : Nat} (hR : σ 1001 4 = nI R) (hR5 : R ≤ 5) : XEx l m_X6_isWithinCap 1 0 0 [.ref 1001, .int c] (setC σ h) (some (.int (f_isWithinCap σ c R))) (setC σ h) := by
  refine XMet.of hl rfl rfl (Nat.le_of_ble_eq_true rfl) (fun Y O hh hQ => ?_)
  show SW Y 0 0 (setC σ h) 0 [.ref 1001, .int c, xx_d] []
  refine sw_iconst (x := 0) O (xx_dt dd_X6_isWithinCap 0 rfl) (by decide) ?_
  refine sw_istore_n (ls2 := [.ref 1001, .int c, .int 0]) O (xx_dt dd_X6_isWithinCap 1 rfl) (by decide) rfl ?_
  refine sw_forR (R := Int32) (fun i s => (if (f_many c i) ≤ (σ 1001 10) then .inl () else .inr 0)) (fun _ _ => True) (FR := fun r => f_isWithinCap σ c R = r) (hp := fun _ => setC σ h) (hd := 2) (lc := fun i s => [.ref 1001, .int c, .int (nI i)]) (N := R) (fun i s hi hP => ⟨fun _ _ => trivial, fun kk kr => ?_⟩) R 0 () (by omega) (trivial) (fun sN eN hP => ?_) (fun r eN => ?_)
  · refine sw_iload_n O (xx_dt dd_X6_isWithinCap 2 rfl) rfl ?_
    refine sw_aload_n O (xx_dt dd_X6_isWithinCap 3 rfl) rfl ?_
    refine sw_get (v := .int (nI R)) O (xx_dt dd_X6_isWithinCap 4 rfl) cl_X6 fl_X6_44 (ly_1001 σ h) (by decide) (congrArg Value.int hR) ?_
    refine sw_icmp_ge (tgt := 30) O (xx_dt dd_X6_isWithinCap 5 rfl) (by decide) (fun q1 => ?_) (fun q1 => ?_)
    · exact absurd q1 (nI_ge hi (by omega))
    · refine sw_iload_n O (xx_dt dd_X6_isWithinCap 6 rfl) rfl ?_
      refine sw_iload_n O (xx_dt dd_X6_isWithinCap 7 rfl) rfl ?_
      refine sw_callSx (as := [.int c, .int (nI i)]) (st := []) (st2 := [.int (f_many c i)]) O (ct_X0_many hl (c := c) (r := i) (by omega)) ce_X0_many ml_X6_70 st_X0_many (xx_dt dd_X6_isWithinCap 8 rfl) (by decide) rfl rfl (Nat.le_of_ble_eq_true rfl) rfl ?_
      refine sw_aload_n O (xx_dt dd_X6_isWithinCap 9 rfl) rfl ?_
      refine sw_get (v := .int (σ 1001 10)) O (xx_dt dd_X6_isWithinCap 10 rfl) cl_X6 fl_X6_36 (ly_1001 σ h) (by decide) rfl ?_
      refine sw_icmp_le (tgt := 24) O (xx_dt dd_X6_isWithinCap 11 rfl) (by decide) (fun q2 => ?_) (fun q2 => ?_)
      · refine sw_iinc (y := nI (i + 1)) (ls2 := [.ref 1001, .int c, .int (nI (i + 1))]) O (xx_dt dd_X6_isWithinCap 14 rfl) rfl (nI_1 _) (by decide) rfl ?_
        refine sw_goto (tgt := 2) O (xx_dt dd_X6_isWithinCap 15 rfl) (by decide) ?_
        exact kk () (by simp only [if_pos q2])
      · refine sw_iconst (x := 0) O (xx_dt dd_X6_isWithinCap 12 rfl) (by decide) ?_
        exact sw_iret O (xx_dt dd_X6_isWithinCap 13 rfl) rfl rfl (by rw [hQ, kr 0 (by simp only [if_neg q2])]; exact ⟨rfl, rfl⟩)
  · show SW Y _ _ (setC σ h) 2 [.ref 1001, .int c, .int (nI R)] []
    refine sw_iload_n O (xx_dt dd_X6_isWithinCap 2 rfl) rfl ?_
    refine sw_aload_n O (xx_dt dd_X6_isWithinCap 3 rfl) rfl ?_
    refine sw_get (v := .int (nI R)) O (xx_dt dd_X6_isWithinCap 4 rfl) cl_X6 fl_X6_44 (ly_1001 σ h) (by decide) (congrArg Value.int hR) ?_
    refine sw_icmp_ge (tgt := 30) O (xx_dt dd_X6_isWithinCap 5 rfl) (by decide) (fun q1 => ?_) (fun q1 => ?_)
    · refine sw_iconst (x := 1) O (xx_dt dd_X6_isWithinCap 16 rfl) (by decide) ?_
      exact sw_iret O (xx_dt dd_X6_isWithinCap 17 rfl) rfl rfl (by rw [hQ]; exact ⟨by unfold f_isWithinCap; simp only [x_isWithinCap_2, eN], rfl⟩)
    · exact absurd (Int32.le_refl _) q1
  · unfold f_isWithinCap; simp only [x_isWithinCap_2, eN]
