def x_dearer_12 (c d : Int32) (n : Nat) (f g : Nat → Int32) (s0 : Int32 × Int32 × Int32) : Int32 × Int32 × Int32 := xit (fun i12 s12 => (s12.1 / 6, s12.2.1 / 6, s12.2.2 + (((f i12) - (g i12)) * ((s12.1 - s12.1 / 6 * 6) - (s12.2.1 - s12.2.1 / 6 * 6))))) n 0 s0
def f_dearer (c d : Int32) (n : Nat) (f g : Nat → Int32) : Int32 := (x_dearer_12 c d n f g (c, d, 0)).2.2
theorem ct_X0_dearer {l : Launch} {h : XH} (hl : l.stackTraces = false) {c d : Int32} {a b n : Nat} {f g : Nat → Int32} (ha : h a = some (100, n, fun k => .int (f k))) (hb : h b = some (100, n, fun k => .int (g k))) (hn : n < 1000) : XEx l m_X0_dearer 0 0 0 [.int c, .int d, .ref a, .ref b] (h) (some (.int (f_dearer c d n f g))) (h) := by
  refine XMet.of hl rfl rfl (Nat.le_of_ble_eq_true rfl) (fun Y O hh hQ => ?_)
  show SW Y 0 0 (h) 0 [.int c, .int d, .ref a, .ref b, xx_d, xx_d, xx_d, xx_d] []
  refine sw_iload_n O (xx_dt dd_X0_dearer 0 rfl) rfl ?_
  refine sw_istore (ls2 := [.int c, .int d, .ref a, .ref b, .int c, xx_d, xx_d, xx_d]) O (xx_dt dd_X0_dearer 1 rfl) (by decide) rfl ?_
  refine sw_iload_n O (xx_dt dd_X0_dearer 2 rfl) rfl ?_
  refine sw_istore (ls2 := [.int c, .int d, .ref a, .ref b, .int c, .int d, xx_d, xx_d]) O (xx_dt dd_X0_dearer 3 rfl) (by decide) rfl ?_
  refine sw_iconst (x := 0) O (xx_dt dd_X0_dearer 4 rfl) (by decide) ?_
  refine sw_istore (ls2 := [.int c, .int d, .ref a, .ref b, .int c, .int d, .int 0, xx_d]) O (xx_dt dd_X0_dearer 5 rfl) (by decide) rfl ?_
  refine sw_iconst (x := 0) O (xx_dt dd_X0_dearer 6 rfl) (by decide) ?_
  refine sw_istore (ls2 := [.int c, .int d, .ref a, .ref b, .int c, .int d, .int 0, .int 0]) O (xx_dt dd_X0_dearer 7 rfl) (by decide) rfl ?_
  refine sw_for (fun i12 s12 => (s12.1 / 6, s12.2.1 / 6, s12.2.2 + (((f i12) - (g i12)) * ((s12.1 - s12.1 / 6 * 6) - (s12.2.1 - s12.2.1 / 6 * 6))))) (fun _ _ => True) (hp := fun _ => h) (hd := 12) (lc := fun i12 s12 => [.int c, .int d, .ref a, .ref b, .int s12.1, .int s12.2.1, .int s12.2.2, .int (nI i12)]) (N := n) (fun i12 s12 hi12 hP12 => ⟨trivial, fun kk12 => ?_⟩) n 0 (c, d, 0) (by omega) (trivial) (fun hP12 => ?_)
  · refine sw_iload O (xx_dt dd_X0_dearer 8 rfl) rfl ?_
    refine sw_aload_n O (xx_dt dd_X0_dearer 9 rfl) rfl ?_
    refine sw_alen O (xx_dt dd_X0_dearer 10 rfl) (by omega) (by omega) (ha) ?_
    refine sw_icmp_ge (tgt := 72) O (xx_dt dd_X0_dearer 11 rfl) (by decide) (fun q1 => ?_) (fun q1 => ?_)
    · exact absurd q1 (nI_ge (b := n) hi12 (by omega))
    · refine sw_iload O (xx_dt dd_X0_dearer 12 rfl) rfl ?_
      refine sw_aload_n O (xx_dt dd_X0_dearer 13 rfl) rfl ?_
      refine sw_alen O (xx_dt dd_X0_dearer 14 rfl) (by omega) (by omega) (hb) ?_
      refine sw_icmp_ge (tgt := 72) O (xx_dt dd_X0_dearer 15 rfl) (by decide) (fun q2 => ?_) (fun q2 => ?_)
      · exact absurd q2 (nI_ge hi12 (by omega))
      · refine sw_iload O (xx_dt dd_X0_dearer 16 rfl) rfl ?_
        refine sw_aload_n O (xx_dt dd_X0_dearer 17 rfl) rfl ?_
        refine sw_iload O (xx_dt dd_X0_dearer 18 rfl) rfl ?_
        refine sw_iaload (v := .int (f i12)) O (xx_dt dd_X0_dearer 19 rfl) (ha) (pk_in i12 _ (by omega)) (by rw [nI_clamp (by omega)]; try exact rfl) ?_
        refine sw_aload_n O (xx_dt dd_X0_dearer 20 rfl) rfl ?_
        refine sw_iload O (xx_dt dd_X0_dearer 21 rfl) rfl ?_
        refine sw_iaload (v := .int (g i12)) O (xx_dt dd_X0_dearer 22 rfl) (hb) (pk_in i12 _ (by omega)) (by rw [nI_clamp (by omega)]; try exact rfl) ?_
        refine sw_isub O (xx_dt dd_X0_dearer 23 rfl) ?_
        refine sw_iload O (xx_dt dd_X0_dearer 24 rfl) rfl ?_
        refine sw_bipush (x := 6) O (xx_dt dd_X0_dearer 25 rfl) (by decide) ?_
        refine sw_irem O (xx_dt dd_X0_dearer 26 rfl) (by first | decide | assumption) ?_
        refine sw_iload O (xx_dt dd_X0_dearer 27 rfl) rfl ?_
        refine sw_bipush (x := 6) O (xx_dt dd_X0_dearer 28 rfl) (by decide) ?_
        refine sw_irem O (xx_dt dd_X0_dearer 29 rfl) (by first | decide | assumption) ?_
        refine sw_isub O (xx_dt dd_X0_dearer 30 rfl) ?_
        refine sw_imul O (xx_dt dd_X0_dearer 31 rfl) ?_
        refine sw_iadd O (xx_dt dd_X0_dearer 32 rfl) ?_
        refine sw_istore (ls2 := [.int c, .int d, .ref a, .ref b, .int s12.1, .int s12.2.1, .int (s12.2.2 + (((f i12) - (g i12)) * ((s12.1 - s12.1 / 6 * 6) - (s12.2.1 - s12.2.1 / 6 * 6)))), .int (nI i12)]) O (xx_dt dd_X0_dearer 33 rfl) (by decide) rfl ?_
        refine sw_iload O (xx_dt dd_X0_dearer 34 rfl) rfl ?_
        refine sw_bipush (x := 6) O (xx_dt dd_X0_dearer 35 rfl) (by decide) ?_
        refine sw_idiv O (xx_dt dd_X0_dearer 36 rfl) (by first | decide | assumption) ?_
        refine sw_istore (ls2 := [.int c, .int d, .ref a, .ref b, .int (s12.1 / 6), .int s12.2.1, .int (s12.2.2 + (((f i12) - (g i12)) * ((s12.1 - s12.1 / 6 * 6) - (s12.2.1 - s12.2.1 / 6 * 6)))), .int (nI i12)]) O (xx_dt dd_X0_dearer 37 rfl) (by decide) rfl ?_
        refine sw_iload O (xx_dt dd_X0_dearer 38 rfl) rfl ?_
        refine sw_bipush (x := 6) O (xx_dt dd_X0_dearer 39 rfl) (by decide) ?_
        refine sw_idiv O (xx_dt dd_X0_dearer 40 rfl) (by first | decide | assumption) ?_
        refine sw_istore (ls2 := [.int c, .int d, .ref a, .ref b, .int (s12.1 / 6), .int (s12.2.1 / 6), .int (s12.2.2 + (((f i12) - (g i12)) * ((s12.1 - s12.1 / 6 * 6) - (s12.2.1 - s12.2.1 / 6 * 6)))), .int (nI i12)]) O (xx_dt dd_X0_dearer 41 rfl) (by decide) rfl ?_
        refine sw_iinc (y := nI (i12 + 1)) (ls2 := [.int c, .int d, .ref a, .ref b, .int (s12.1 / 6), .int (s12.2.1 / 6), .int (s12.2.2 + (((f i12) - (g i12)) * ((s12.1 - s12.1 / 6 * 6) - (s12.2.1 - s12.2.1 / 6 * 6)))), .int (nI (i12 + 1))]) O (xx_dt dd_X0_dearer 42 rfl) rfl (nI_1 _) (by decide) rfl ?_
        refine sw_goto (tgt := 12) O (xx_dt dd_X0_dearer 43 rfl) (by decide) ?_
        exact kk12
  · show SW Y _ _ (h) 12 [.int c, .int d, .ref a, .ref b, .int ((x_dearer_12 c d n f g (c, d, 0)).1), .int ((x_dearer_12 c d n f g (c, d, 0)).2.1), .int ((x_dearer_12 c d n f g (c, d, 0)).2.2), .int (nI n)] []
    refine sw_iload O (xx_dt dd_X0_dearer 8 rfl) rfl ?_
    refine sw_aload_n O (xx_dt dd_X0_dearer 9 rfl) rfl ?_
    refine sw_alen O (xx_dt dd_X0_dearer 10 rfl) (by omega) (by omega) (ha) ?_
    refine sw_icmp_ge (tgt := 72) O (xx_dt dd_X0_dearer 11 rfl) (by decide) (fun q1 => ?_) (fun q1 => ?_)
    · refine sw_iload O (xx_dt dd_X0_dearer 44 rfl) rfl ?_
      exact sw_iret O (xx_dt dd_X0_dearer 45 rfl) rfl rfl (by rw [hQ]; exact ⟨by unfold f_dearer; rfl, rfl⟩)
    · exact absurd (Int32.le_refl _) q1
def f_areNeighbours (σ : XS9) (i j : Nat) : Int32 := (if ((σ 1013 i) &&& (1 <<< ((nI j) &&& 31))) = 0 then 0 else 1)
theorem ct_X6_areNeighbours {l : Launch} {h : XH} (hl : l.stackTraces = false) {σ : XS9} {i j : Nat} (hi : i < 5) : XEx l m_X6_areNeighbours 0 0 0 [.ref 1001, .int (nI i), .int (nI j)] (setC σ h) (some (.int (f_areNeighbours σ i j))) (setC σ h) := by
  refine XMet.of hl rfl rfl (Nat.le_of_ble_eq_true rfl) (fun Y O hh hQ => ?_)
  show SW Y 0 0 (setC σ h) 0 [.ref 1001, .int (nI i), .int (nI j)] []
  refine sw_aload_n O (xx_dt dd_X6_areNeighbours 0 rfl) rfl ?_
  refine sw_get (v := .ref 1013) O (xx_dt dd_X6_areNeighbours 1 rfl) cl_X6 fl_X6_21 (ly_1001 σ h) (by decide) rfl ?_
  refine sw_iload_n O (xx_dt dd_X6_areNeighbours 2 rfl) rfl ?_
  refine sw_iaload (v := .int (σ 1013 i)) O (xx_dt dd_X6_areNeighbours 3 rfl) (ly_1013 σ h) (pk_in i _ (by omega)) (by rw [nI_clamp (by omega)]; try exact rfl) ?_
  refine sw_iconst (x := 1) O (xx_dt dd_X6_areNeighbours 4 rfl) (by decide) ?_
  refine sw_iload_n O (xx_dt dd_X6_areNeighbours 5 rfl) rfl ?_
  refine sw_ishl O (xx_dt dd_X6_areNeighbours 6 rfl) ?_
  refine sw_iand O (xx_dt dd_X6_areNeighbours 7 rfl) ?_
  refine sw_if_eq (tgt := 17) O (xx_dt dd_X6_areNeighbours 8 rfl) (by decide) (fun q1 => ?_) (fun q1 => ?_)
  · refine sw_iconst (x := 0) O (xx_dt dd_X6_areNeighbours 11 rfl) (by decide) ?_
    exact sw_iret O (xx_dt dd_X6_areNeighbours 12 rfl) rfl rfl (by rw [hQ]; exact ⟨by unfold f_areNeighbours; simp only [if_pos q1], rfl⟩)
  · refine sw_iconst (x := 1) O (xx_dt dd_X6_areNeighbours 9 rfl) (by decide) ?_
    refine sw_goto (tgt := 18) O (xx_dt dd_X6_areNeighbours 10 rfl) (by decide) ?_
    exact sw_iret O (xx_dt dd_X6_areNeighbours 12 rfl) rfl rfl (by rw [hQ]; exact ⟨by unfold f_areNeighbours; simp only [if_neg q1], rfl⟩)
def f_areAllies (σ : XS9) (i j : Nat) : Int32 := (if (nI i) = (nI j) then 0 else (if (σ 1017 i) = 0 then 0 else (if (σ 1017 i) = (σ 1017 j) then 1 else 0)))
theorem ct_X6_areAllies {l : Launch} {h : XH} (hl : l.stackTraces = false) {σ : XS9} {i j : Nat} (hi : i < 6) (hj : j < 6) : XEx l m_X6_areAllies 0 0 0 [.ref 1001, .int (nI i), .int (nI j)] (setC σ h) (some (.int (f_areAllies σ i j))) (setC σ h) := by
  refine XMet.of hl rfl rfl (Nat.le_of_ble_eq_true rfl) (fun Y O hh hQ => ?_)
  show SW Y 0 0 (setC σ h) 0 [.ref 1001, .int (nI i), .int (nI j)] []
  refine sw_iload_n O (xx_dt dd_X6_areAllies 0 rfl) rfl ?_
  refine sw_iload_n O (xx_dt dd_X6_areAllies 1 rfl) rfl ?_
  refine sw_icmp_eq (tgt := 33) O (xx_dt dd_X6_areAllies 2 rfl) (by decide) (fun q1 => ?_) (fun q1 => ?_)
  · refine sw_iconst (x := 0) O (xx_dt dd_X6_areAllies 19 rfl) (by decide) ?_
    exact sw_iret O (xx_dt dd_X6_areAllies 20 rfl) rfl rfl (by rw [hQ]; exact ⟨by unfold f_areAllies; simp only [if_pos q1], rfl⟩)
  · refine sw_aload_n O (xx_dt dd_X6_areAllies 3 rfl) rfl ?_
    refine sw_get (v := .ref 1017) O (xx_dt dd_X6_areAllies 4 rfl) cl_X6 fl_X6_33 (ly_1001 σ h) (by decide) rfl ?_
    refine sw_iload_n O (xx_dt dd_X6_areAllies 5 rfl) rfl ?_
    refine sw_iaload (v := .int (σ 1017 i)) O (xx_dt dd_X6_areAllies 6 rfl) (ly_1017 σ h) (pk_in i _ (by omega)) (by rw [nI_clamp (by omega)]; try exact rfl) ?_
    refine sw_if_eq (tgt := 33) O (xx_dt dd_X6_areAllies 7 rfl) (by decide) (fun q2 => ?_) (fun q2 => ?_)
    · refine sw_iconst (x := 0) O (xx_dt dd_X6_areAllies 19 rfl) (by decide) ?_
      exact sw_iret O (xx_dt dd_X6_areAllies 20 rfl) rfl rfl (by rw [hQ]; exact ⟨by unfold f_areAllies; simp only [if_neg q1, if_pos q2], rfl⟩)
    · refine sw_aload_n O (xx_dt dd_X6_areAllies 8 rfl) rfl ?_
      refine sw_get (v := .ref 1017) O (xx_dt dd_X6_areAllies 9 rfl) cl_X6 fl_X6_33 (ly_1001 σ h) (by decide) rfl ?_
      refine sw_iload_n O (xx_dt dd_X6_areAllies 10 rfl) rfl ?_
      refine sw_iaload (v := .int (σ 1017 i)) O (xx_dt dd_X6_areAllies 11 rfl) (ly_1017 σ h) (pk_in i _ (by omega)) (by rw [nI_clamp (by omega)]; try exact rfl) ?_
      refine sw_aload_n O (xx_dt dd_X6_areAllies 12 rfl) rfl ?_
      refine sw_get (v := .ref 1017) O (xx_dt dd_X6_areAllies 13 rfl) cl_X6 fl_X6_33 (ly_1001 σ h) (by decide) rfl ?_
      refine sw_iload_n O (xx_dt dd_X6_areAllies 14 rfl) rfl ?_
      refine sw_iaload (v := .int (σ 1017 j)) O (xx_dt dd_X6_areAllies 15 rfl) (ly_1017 σ h) (pk_in j _ (by omega)) (by rw [nI_clamp (by omega)]; try exact rfl) ?_
      refine sw_icmp_ne (tgt := 33) O (xx_dt dd_X6_areAllies 16 rfl) (by decide) (fun q3 => ?_) (fun q3 => ?_)
      · refine sw_iconst (x := 0) O (xx_dt dd_X6_areAllies 19 rfl) (by decide) ?_
        exact sw_iret O (xx_dt dd_X6_areAllies 20 rfl) rfl rfl (by rw [hQ]; exact ⟨by unfold f_areAllies; simp only [if_neg q1, if_neg q2, if_neg q3], rfl⟩)
      · refine sw_iconst (x := 1) O (xx_dt dd_X6_areAllies 17 rfl) (by decide) ?_
        refine sw_goto (tgt := 34) O (xx_dt dd_X6_areAllies 18 rfl) (by decide) ?_
        exact sw_iret O (xx_dt dd_X6_areAllies 20 rfl) rfl rfl (by rw [hQ]; exact ⟨by unfold f_areAllies; simp only [if_neg q1, if_neg q2, if_pos q3], rfl⟩)
def x_isCode_4 (σ : XS9) (c : Int32) (R : Nat) (s0 : Int32) : Int32 := xit (fun i4 s4 => s4 * 6) R 0 s0
def f_isCode (σ : XS9) (c : Int32) (R : Nat) : Int32 := (if c < 0 then 0 else (if (x_isCode_4 σ c R 1) ≤ c then 0 else 1))
theorem ct_X6_isCode {l : Launch} {h : XH} (hl : l.stackTraces = false) {σ : XS9} {c : Int32} {R : Nat} (hR : σ 1001 4 = nI R) (hR5 : R ≤ 5) : XEx l m_X6_isCode 0 0 0 [.ref 1001, .int c] (setC σ h) (some (.int (f_isCode σ c R))) (setC σ h) := by
  refine XMet.of hl rfl rfl (Nat.le_of_ble_eq_true rfl) (fun Y O hh hQ => ?_)
  show SW Y 0 0 (setC σ h) 0 [.ref 1001, .int c, xx_d, xx_d] []
  refine sw_iconst (x := 1) O (xx_dt dd_X6_isCode 0 rfl) (by decide) ?_
  refine sw_istore_n (ls2 := [.ref 1001, .int c, .int 1, xx_d]) O (xx_dt dd_X6_isCode 1 rfl) (by decide) rfl ?_
  refine sw_iconst (x := 0) O (xx_dt dd_X6_isCode 2 rfl) (by decide) ?_
  refine sw_istore_n (ls2 := [.ref 1001, .int c, .int 1, .int 0]) O (xx_dt dd_X6_isCode 3 rfl) (by decide) rfl ?_
  refine sw_for (fun i4 s4 => s4 * 6) (fun _ _ => True) (hp := fun _ => setC σ h) (hd := 4) (lc := fun i4 s4 => [.ref 1001, .int c, .int s4, .int (nI i4)]) (N := R) (fun i4 s4 hi4 hP4 => ⟨trivial, fun kk4 => ?_⟩) R 0 1 (by omega) (trivial) (fun hP4 => ?_)
  · refine sw_iload_n O (xx_dt dd_X6_isCode 4 rfl) rfl ?_
    refine sw_aload_n O (xx_dt dd_X6_isCode 5 rfl) rfl ?_
    refine sw_get (v := .int (nI R)) O (xx_dt dd_X6_isCode 6 rfl) cl_X6 fl_X6_44 (ly_1001 σ h) (by decide) (congrArg Value.int hR) ?_
    refine sw_icmp_ge (tgt := 23) O (xx_dt dd_X6_isCode 7 rfl) (by decide) (fun q1 => ?_) (fun q1 => ?_)
    · exact absurd q1 (nI_ge (b := R) hi4 (by omega))
    · refine sw_iload_n O (xx_dt dd_X6_isCode 8 rfl) rfl ?_
      refine sw_bipush (x := 6) O (xx_dt dd_X6_isCode 9 rfl) (by decide) ?_
      refine sw_imul O (xx_dt dd_X6_isCode 10 rfl) ?_
      refine sw_istore_n (ls2 := [.ref 1001, .int c, .int (s4 * 6), .int (nI i4)]) O (xx_dt dd_X6_isCode 11 rfl) (by decide) rfl ?_
      refine sw_iinc (y := nI (i4 + 1)) (ls2 := [.ref 1001, .int c, .int (s4 * 6), .int (nI (i4 + 1))]) O (xx_dt dd_X6_isCode 12 rfl) rfl (nI_1 _) (by decide) rfl ?_
      refine sw_goto (tgt := 4) O (xx_dt dd_X6_isCode 13 rfl) (by decide) ?_
      exact kk4
  · show SW Y _ _ (setC σ h) 4 [.ref 1001, .int c, .int (x_isCode_4 σ c R 1), .int (nI R)] []
    refine sw_iload_n O (xx_dt dd_X6_isCode 4 rfl) rfl ?_
    refine sw_aload_n O (xx_dt dd_X6_isCode 5 rfl) rfl ?_
    refine sw_get (v := .int (nI R)) O (xx_dt dd_X6_isCode 6 rfl) cl_X6 fl_X6_44 (ly_1001 σ h) (by decide) (congrArg Value.int hR) ?_
    refine sw_icmp_ge (tgt := 23) O (xx_dt dd_X6_isCode 7 rfl) (by decide) (fun q1 => ?_) (fun q1 => ?_)
    · refine sw_iload_n O (xx_dt dd_X6_isCode 14 rfl) rfl ?_
      refine sw_if_lt (tgt := 36) O (xx_dt dd_X6_isCode 15 rfl) (by decide) (fun q2 => ?_) (fun q2 => ?_)
      · refine sw_iconst (x := 0) O (xx_dt dd_X6_isCode 21 rfl) (by decide) ?_
        exact sw_iret O (xx_dt dd_X6_isCode 22 rfl) rfl rfl (by rw [hQ]; exact ⟨by unfold f_isCode; simp only [if_pos q2], rfl⟩)
      · refine sw_iload_n O (xx_dt dd_X6_isCode 16 rfl) rfl ?_
        refine sw_iload_n O (xx_dt dd_X6_isCode 17 rfl) rfl ?_
        refine sw_icmp_ge (tgt := 36) O (xx_dt dd_X6_isCode 18 rfl) (by decide) (fun q3 => ?_) (fun q3 => ?_)
        · refine sw_iconst (x := 0) O (xx_dt dd_X6_isCode 21 rfl) (by decide) ?_
          exact sw_iret O (xx_dt dd_X6_isCode 22 rfl) rfl rfl (by rw [hQ]; exact ⟨by unfold f_isCode; simp only [if_neg q2, if_pos q3], rfl⟩)
        · refine sw_iconst (x := 1) O (xx_dt dd_X6_isCode 19 rfl) (by decide) ?_
          refine sw_goto (tgt := 37) O (xx_dt dd_X6_isCode 20 rfl) (by decide) ?_
          exact sw_iret O (xx_dt dd_X6_isCode 22 rfl) rfl rfl (by rw [hQ]; exact ⟨by unfold f_isCode; simp only [if_neg q2, if_neg q3], rfl⟩)
    · exact absurd (Int32.le_refl _) q1
def x_isWithinCap_2 (σ : XS9) (c : Int32) (R : Nat) (s0 : Unit) : Unit ⊕ Int32 := xitR (fun i2 s2 => (if (f_many c i2) ≤ (σ 1001 10) then .inl () else .inr 0)) R 0 s0
def f_isWithinCap (σ : XS9) (c : Int32) (R : Nat) : Int32 := (match (x_isWithinCap_2 σ c R ()) with | .inl s2 => 1 | .inr r2 => r2)
theorem ct_X6_isWithinCap {l : Launch} {h : XH} (hl : l.stackTraces = false) {σ : XS9} {c : Int32} {R : Nat} (hR : σ 1001 4 = nI R) (hR5 : R ≤ 5) : XEx l m_X6_isWithinCap 1 0 0 [.ref 1001, .int c] (setC σ h) (some (.int (f_isWithinCap σ c R))) (setC σ h) := by
  refine XMet.of hl rfl rfl (Nat.le_of_ble_eq_true rfl) (fun Y O hh hQ => ?_)
  show SW Y 0 0 (setC σ h) 0 [.ref 1001, .int c, xx_d] []
  refine sw_iconst (x := 0) O (xx_dt dd_X6_isWithinCap 0 rfl) (by decide) ?_
  refine sw_istore_n (ls2 := [.ref 1001, .int c, .int 0]) O (xx_dt dd_X6_isWithinCap 1 rfl) (by decide) rfl ?_
  refine sw_forR (R := Int32) (fun i2 s2 => (if (f_many c i2) ≤ (σ 1001 10) then .inl () else .inr 0)) (fun _ _ => True) (FR := fun r9 => f_isWithinCap σ c R = r9) (hp := fun _ => setC σ h) (hd := 2) (lc := fun i2 s2 => [.ref 1001, .int c, .int (nI i2)]) (N := R) (fun i2 s2 hi2 hP2 => ⟨fun _ _ => trivial, fun kk2 kr2 => ?_⟩) R 0 () (by omega) (trivial) (fun sN2 eN2 hP2 => ?_) (fun r2 eN2 => ?_)
  · refine sw_iload_n O (xx_dt dd_X6_isWithinCap 2 rfl) rfl ?_
    refine sw_aload_n O (xx_dt dd_X6_isWithinCap 3 rfl) rfl ?_
    refine sw_get (v := .int (nI R)) O (xx_dt dd_X6_isWithinCap 4 rfl) cl_X6 fl_X6_44 (ly_1001 σ h) (by decide) (congrArg Value.int hR) ?_
    refine sw_icmp_ge (tgt := 30) O (xx_dt dd_X6_isWithinCap 5 rfl) (by decide) (fun q1 => ?_) (fun q1 => ?_)
    · exact absurd q1 (nI_ge (b := R) hi2 (by omega))
    · refine sw_iload_n O (xx_dt dd_X6_isWithinCap 6 rfl) rfl ?_
      refine sw_iload_n O (xx_dt dd_X6_isWithinCap 7 rfl) rfl ?_
      refine sw_callSx (as := [.int c, .int (nI i2)]) (st := []) (st2 := [.int (f_many c i2)]) O (ct_X0_many hl (c := c) (r := i2) (by omega)) ce_X0_many ml_X6_70 st_X0_many (xx_dt dd_X6_isWithinCap 8 rfl) (by decide) rfl rfl (Nat.le_of_ble_eq_true rfl) rfl ?_
      refine sw_aload_n O (xx_dt dd_X6_isWithinCap 9 rfl) rfl ?_
      refine sw_get (v := .int (σ 1001 10)) O (xx_dt dd_X6_isWithinCap 10 rfl) cl_X6 fl_X6_36 (ly_1001 σ h) (by decide) rfl ?_
      refine sw_icmp_le (tgt := 24) O (xx_dt dd_X6_isWithinCap 11 rfl) (by decide) (fun q2 => ?_) (fun q2 => ?_)
      · refine sw_iinc (y := nI (i2 + 1)) (ls2 := [.ref 1001, .int c, .int (nI (i2 + 1))]) O (xx_dt dd_X6_isWithinCap 14 rfl) rfl (nI_1 _) (by decide) rfl ?_
        refine sw_goto (tgt := 2) O (xx_dt dd_X6_isWithinCap 15 rfl) (by decide) ?_
        exact kk2 () (by simp only [if_pos q2])
      · refine sw_iconst (x := 0) O (xx_dt dd_X6_isWithinCap 12 rfl) (by decide) ?_
        exact sw_iret O (xx_dt dd_X6_isWithinCap 13 rfl) rfl rfl (by rw [hQ, kr2 0 (by simp only [if_neg q2])]; exact ⟨rfl, rfl⟩)
  · show SW Y _ _ (setC σ h) 2 [.ref 1001, .int c, .int (nI R)] []
    refine sw_iload_n O (xx_dt dd_X6_isWithinCap 2 rfl) rfl ?_
    refine sw_aload_n O (xx_dt dd_X6_isWithinCap 3 rfl) rfl ?_
    refine sw_get (v := .int (nI R)) O (xx_dt dd_X6_isWithinCap 4 rfl) cl_X6 fl_X6_44 (ly_1001 σ h) (by decide) (congrArg Value.int hR) ?_
    refine sw_icmp_ge (tgt := 30) O (xx_dt dd_X6_isWithinCap 5 rfl) (by decide) (fun q1 => ?_) (fun q1 => ?_)
    · refine sw_iconst (x := 1) O (xx_dt dd_X6_isWithinCap 16 rfl) (by decide) ?_
      exact sw_iret O (xx_dt dd_X6_isWithinCap 17 rfl) rfl rfl (by rw [hQ]; exact ⟨by unfold f_isWithinCap; simp only [x_isWithinCap_2, eN2], rfl⟩)
    · exact absurd (Int32.le_refl _) q1
  · unfold f_isWithinCap; simp only [x_isWithinCap_2, eN2]
def f_mayOffer (σ : XS9) (i : Nat) (c x : Int32) (R : Nat) : Int32 := (if c = 0 then 0 else (if (f_isWithin c 5 (σ 1010)) = 0 then 0 else (if (f_isWithinCap σ c R) = 0 then 0 else (if x < (f_total c 5 (σ 1012)) then 0 else (if (σ 1014 i) < x then 0 else 1)))))
theorem ct_X6_mayOffer {l : Launch} {h : XH} (hl : l.stackTraces = false) {σ : XS9} {c x : Int32} {i R : Nat} (hi : i < 6) (hR : σ 1001 4 = nI R) (hR5 : R ≤ 5) : XEx l m_X6_mayOffer 2 0 0 [.ref 1001, .int (nI i), .int c, .int x] (setC σ h) (some (.int (f_mayOffer σ i c x R))) (setC σ h) := by
  refine XMet.of hl rfl rfl (Nat.le_of_ble_eq_true rfl) (fun Y O hh hQ => ?_)
  show SW Y 0 0 (setC σ h) 0 [.ref 1001, .int (nI i), .int c, .int x] []
  refine sw_iload_n O (xx_dt dd_X6_mayOffer 0 rfl) rfl ?_
  refine sw_if_eq (tgt := 49) O (xx_dt dd_X6_mayOffer 1 rfl) (by decide) (fun q1 => ?_) (fun q1 => ?_)
  · refine sw_iconst (x := 0) O (xx_dt dd_X6_mayOffer 25 rfl) (by decide) ?_
    exact sw_iret O (xx_dt dd_X6_mayOffer 26 rfl) rfl rfl (by rw [hQ]; exact ⟨by unfold f_mayOffer; simp only [if_pos q1], rfl⟩)
  · refine sw_iload_n O (xx_dt dd_X6_mayOffer 2 rfl) rfl ?_
    refine sw_aload_n O (xx_dt dd_X6_mayOffer 3 rfl) rfl ?_
    refine sw_get (v := .ref 1010) O (xx_dt dd_X6_mayOffer 4 rfl) cl_X6 fl_X6_9 (ly_1001 σ h) (by decide) rfl ?_
    refine sw_callSx (as := [.int c, .ref 1010]) (st := []) (st2 := [.int (f_isWithin c 5 (σ 1010))]) O (ct_X0_isWithin hl (c := c) (f := σ 1010) (ia_1010.getE rfl) (by omega)) ce_X0_isWithin ml_X6_58 st_X0_isWithin (xx_dt dd_X6_mayOffer 5 rfl) (by decide) rfl rfl (Nat.le_of_ble_eq_true rfl) rfl ?_
    refine sw_if_eq (tgt := 49) O (xx_dt dd_X6_mayOffer 6 rfl) (by decide) (fun q2 => ?_) (fun q2 => ?_)
    · refine sw_iconst (x := 0) O (xx_dt dd_X6_mayOffer 25 rfl) (by decide) ?_
      exact sw_iret O (xx_dt dd_X6_mayOffer 26 rfl) rfl rfl (by rw [hQ]; exact ⟨by unfold f_mayOffer; simp only [if_neg q1, if_pos q2], rfl⟩)
    · refine sw_aload_n O (xx_dt dd_X6_mayOffer 7 rfl) rfl ?_
      refine sw_iload_n O (xx_dt dd_X6_mayOffer 8 rfl) rfl ?_
      refine sw_callVx (as := [.int c]) (st := []) (st2 := [.int (f_isWithinCap σ c R)]) O (ct_X6_isWithinCap hl (σ := σ) (c := c) hR hR5) ce_X6_isWithinCap ml_X6_62 iv_X6_isWithinCap cl_X6 rfl (ly_1001 σ h) (xx_dt dd_X6_mayOffer 9 rfl) (by decide) rfl rfl (Nat.le_of_ble_eq_true rfl) rfl ?_
      refine sw_if_eq (tgt := 49) O (xx_dt dd_X6_mayOffer 10 rfl) (by decide) (fun q3 => ?_) (fun q3 => ?_)
      · refine sw_iconst (x := 0) O (xx_dt dd_X6_mayOffer 25 rfl) (by decide) ?_
        exact sw_iret O (xx_dt dd_X6_mayOffer 26 rfl) rfl rfl (by rw [hQ]; exact ⟨by unfold f_mayOffer; simp only [if_neg q1, if_neg q2, if_pos q3], rfl⟩)
      · refine sw_iload_n O (xx_dt dd_X6_mayOffer 11 rfl) rfl ?_
        refine sw_iload_n O (xx_dt dd_X6_mayOffer 12 rfl) rfl ?_
        refine sw_aload_n O (xx_dt dd_X6_mayOffer 13 rfl) rfl ?_
        refine sw_get (v := .ref 1012) O (xx_dt dd_X6_mayOffer 14 rfl) cl_X6 fl_X6_18 (ly_1001 σ h) (by decide) rfl ?_
        refine sw_callSx (as := [.int c, .ref 1012]) (st := [.int x]) (st2 := [.int (f_total c 5 (σ 1012)), .int x]) O (ct_X0_total hl (c := c) (f := σ 1012) (ia_1012.getE rfl) (by omega)) ce_X0_total ml_X6_66 st_X0_total (xx_dt dd_X6_mayOffer 15 rfl) (by decide) rfl rfl (Nat.le_of_ble_eq_true rfl) rfl ?_
        refine sw_icmp_lt (tgt := 49) O (xx_dt dd_X6_mayOffer 16 rfl) (by decide) (fun q4 => ?_) (fun q4 => ?_)
        · refine sw_iconst (x := 0) O (xx_dt dd_X6_mayOffer 25 rfl) (by decide) ?_
          exact sw_iret O (xx_dt dd_X6_mayOffer 26 rfl) rfl rfl (by rw [hQ]; exact ⟨by unfold f_mayOffer; simp only [if_neg q1, if_neg q2, if_neg q3, if_pos q4], rfl⟩)
        · refine sw_iload_n O (xx_dt dd_X6_mayOffer 17 rfl) rfl ?_
          refine sw_aload_n O (xx_dt dd_X6_mayOffer 18 rfl) rfl ?_
          refine sw_get (v := .ref 1014) O (xx_dt dd_X6_mayOffer 19 rfl) cl_X6 fl_X6_24 (ly_1001 σ h) (by decide) rfl ?_
          refine sw_iload_n O (xx_dt dd_X6_mayOffer 20 rfl) rfl ?_
          refine sw_iaload (v := .int (σ 1014 i)) O (xx_dt dd_X6_mayOffer 21 rfl) (ly_1014 σ h) (pk_in i _ (by omega)) (by rw [nI_clamp (by omega)]; try exact rfl) ?_
          refine sw_icmp_gt (tgt := 49) O (xx_dt dd_X6_mayOffer 22 rfl) (by decide) (fun q5 => ?_) (fun q5 => ?_)
          · refine sw_iconst (x := 0) O (xx_dt dd_X6_mayOffer 25 rfl) (by decide) ?_
            exact sw_iret O (xx_dt dd_X6_mayOffer 26 rfl) rfl rfl (by rw [hQ]; exact ⟨by unfold f_mayOffer; simp only [if_neg q1, if_neg q2, if_neg q3, if_neg q4, if_pos q5], rfl⟩)
          · refine sw_iconst (x := 1) O (xx_dt dd_X6_mayOffer 23 rfl) (by decide) ?_
            refine sw_goto (tgt := 50) O (xx_dt dd_X6_mayOffer 24 rfl) (by decide) ?_
            exact sw_iret O (xx_dt dd_X6_mayOffer 26 rfl) rfl rfl (by rw [hQ]; exact ⟨by unfold f_mayOffer; simp only [if_neg q1, if_neg q2, if_neg q3, if_neg q4, if_neg q5], rfl⟩)
def f_addRegion (σ : XS9) (x y z : Int32) (R : Nat) : Int32 := nI R
def g_addRegion (σ : XS9) (x y z : Int32) (R : Nat) : XS9 := u2 (u2 (u2 (u2 σ 1010 R x) 1011 R y) 1012 R z) 1001 4 (nI (R + 1))
theorem ct_X6_addRegion {l : Launch} {h : XH} (hl : l.stackTraces = false) {σ : XS9} {x y z : Int32} {R : Nat} (hR : σ 1001 4 = nI R) (hR5 : R < 5) : XEx l m_X6_addRegion 0 0 0 [.ref 1001, .int x, .int y, .int z] (setC σ h) (some (.int (f_addRegion σ x y z R))) (setC (g_addRegion σ x y z R) h) := by
  refine XMet.of hl rfl rfl (Nat.le_of_ble_eq_true rfl) (fun Y O hh hQ => ?_)
  show SW Y 0 0 (setC σ h) 0 [.ref 1001, .int x, .int y, .int z, xx_d] []
  refine sw_aload_n O (xx_dt dd_X6_addRegion 0 rfl) rfl ?_
  refine sw_get (v := .int (nI R)) O (xx_dt dd_X6_addRegion 1 rfl) cl_X6 fl_X6_44 (ly_1001 σ h) (by decide) (congrArg Value.int hR) ?_
  refine sw_istore (ls2 := [.ref 1001, .int x, .int y, .int z, .int (nI R)]) O (xx_dt dd_X6_addRegion 2 rfl) (by decide) rfl ?_
  refine sw_iload O (xx_dt dd_X6_addRegion 3 rfl) rfl ?_
  refine sw_iconst (x := 5) O (xx_dt dd_X6_addRegion 4 rfl) (by decide) ?_
  refine sw_icmp_ge (tgt := 46) O (xx_dt dd_X6_addRegion 5 rfl) (by decide) (fun q1 => ?_) (fun q1 => ?_)
  · exact absurd q1 (nI_ge (b := 5) hR5 (by omega))
  · refine sw_aload_n O (xx_dt dd_X6_addRegion 6 rfl) rfl ?_
    refine sw_get (v := .ref 1010) O (xx_dt dd_X6_addRegion 7 rfl) cl_X6 fl_X6_9 (ly_1001 σ h) (by decide) rfl ?_
    refine sw_iload O (xx_dt dd_X6_addRegion 8 rfl) rfl ?_
    refine sw_iload_n O (xx_dt dd_X6_addRegion 9 rfl) rfl ?_
    refine sw_iastore (h2 := setC (u2 σ 1010 R x) h) O (xx_dt dd_X6_addRegion 10 rfl) (ly_1010 σ h) (pk_in R _ (by omega)) (by decide) (by rw [nI_clamp (by omega)]; exact pa_1010) ?_
    refine sw_aload_n O (xx_dt dd_X6_addRegion 11 rfl) rfl ?_
    refine sw_get (v := .ref 1011) O (xx_dt dd_X6_addRegion 12 rfl) cl_X6 fl_X6_15 (ly_1001 (u2 σ 1010 R x) h) (by decide) rfl ?_
    refine sw_iload O (xx_dt dd_X6_addRegion 13 rfl) rfl ?_
    refine sw_iload_n O (xx_dt dd_X6_addRegion 14 rfl) rfl ?_
    refine sw_iastore (h2 := setC (u2 (u2 σ 1010 R x) 1011 R y) h) O (xx_dt dd_X6_addRegion 15 rfl) (ly_1011 (u2 σ 1010 R x) h) (pk_in R _ (by omega)) (by decide) (by rw [nI_clamp (by omega)]; exact pa_1011) ?_
    refine sw_aload_n O (xx_dt dd_X6_addRegion 16 rfl) rfl ?_
    refine sw_get (v := .ref 1012) O (xx_dt dd_X6_addRegion 17 rfl) cl_X6 fl_X6_18 (ly_1001 (u2 (u2 σ 1010 R x) 1011 R y) h) (by decide) rfl ?_
    refine sw_iload O (xx_dt dd_X6_addRegion 18 rfl) rfl ?_
    refine sw_iload_n O (xx_dt dd_X6_addRegion 19 rfl) rfl ?_
    refine sw_iastore (h2 := setC (u2 (u2 (u2 σ 1010 R x) 1011 R y) 1012 R z) h) O (xx_dt dd_X6_addRegion 20 rfl) (ly_1012 (u2 (u2 σ 1010 R x) 1011 R y) h) (pk_in R _ (by omega)) (by decide) (by rw [nI_clamp (by omega)]; exact pa_1012) ?_
    refine sw_aload_n O (xx_dt dd_X6_addRegion 21 rfl) rfl ?_
    refine sw_dup O (xx_dt dd_X6_addRegion 22 rfl) rfl ?_
    refine sw_get (v := .int (nI R)) O (xx_dt dd_X6_addRegion 23 rfl) cl_X6 fl_X6_44 (ly_1001 (u2 (u2 (u2 σ 1010 R x) 1011 R y) 1012 R z) h) (by decide) (congrArg Value.int hR) ?_
    refine sw_iconst (x := 1) O (xx_dt dd_X6_addRegion 24 rfl) (by decide) ?_
    refine sw_iadd O (xx_dt dd_X6_addRegion 25 rfl) ?_
    rw [nI_a1 R]
    refine sw_put (h2 := setC (u2 (u2 (u2 (u2 σ 1010 R x) 1011 R y) 1012 R z) 1001 4 (nI (R + 1))) h) O (xx_dt dd_X6_addRegion 26 rfl) cl_X6 fl_X6_44 (ly_1001 (u2 (u2 (u2 σ 1010 R x) 1011 R y) 1012 R z) h) (by decide) (by decide) rfl (fun _ => ⟨rfl, rfl⟩) pu_1001_4 ?_
    refine sw_iload O (xx_dt dd_X6_addRegion 27 rfl) rfl ?_
    exact sw_iret O (xx_dt dd_X6_addRegion 28 rfl) rfl rfl (by rw [hQ]; exact ⟨by unfold f_addRegion; rfl, by unfold g_addRegion; rfl⟩)
def f_addBidder (σ : XS9) (x y z w : Int32) (B : Nat) : Int32 := nI B
def g_addBidder (σ : XS9) (x y z w : Int32) (B : Nat) : XS9 := u2 (u2 (u2 (u2 (u2 σ 1014 B x) 1015 B y) 1016 B z) 1017 B w) 1001 9 (nI (B + 1))
theorem ct_X6_addBidder {l : Launch} {h : XH} (hl : l.stackTraces = false) {σ : XS9} {x y z w : Int32} {B : Nat} (hB : σ 1001 9 = nI B) (hB6 : B < 6) : XEx l m_X6_addBidder 0 0 0 [.ref 1001, .int x, .int y, .int z, .int w] (setC σ h) (some (.int (f_addBidder σ x y z w B))) (setC (g_addBidder σ x y z w B) h) := by
  refine XMet.of hl rfl rfl (Nat.le_of_ble_eq_true rfl) (fun Y O hh hQ => ?_)
  show SW Y 0 0 (setC σ h) 0 [.ref 1001, .int x, .int y, .int z, .int w, xx_d] []
  refine sw_aload_n O (xx_dt dd_X6_addBidder 0 rfl) rfl ?_
  refine sw_get (v := .int (nI B)) O (xx_dt dd_X6_addBidder 1 rfl) cl_X6 fl_X6_53 (ly_1001 σ h) (by decide) (congrArg Value.int hB) ?_
  refine sw_istore (ls2 := [.ref 1001, .int x, .int y, .int z, .int w, .int (nI B)]) O (xx_dt dd_X6_addBidder 2 rfl) (by decide) rfl ?_
  refine sw_iload O (xx_dt dd_X6_addBidder 3 rfl) rfl ?_
  refine sw_bipush (x := 6) O (xx_dt dd_X6_addBidder 4 rfl) (by decide) ?_
  refine sw_icmp_ge (tgt := 56) O (xx_dt dd_X6_addBidder 5 rfl) (by decide) (fun q1 => ?_) (fun q1 => ?_)
  · exact absurd q1 (nI_ge (b := 6) hB6 (by omega))
  · refine sw_aload_n O (xx_dt dd_X6_addBidder 6 rfl) rfl ?_
    refine sw_get (v := .ref 1014) O (xx_dt dd_X6_addBidder 7 rfl) cl_X6 fl_X6_24 (ly_1001 σ h) (by decide) rfl ?_
    refine sw_iload O (xx_dt dd_X6_addBidder 8 rfl) rfl ?_
    refine sw_iload_n O (xx_dt dd_X6_addBidder 9 rfl) rfl ?_
    refine sw_iastore (h2 := setC (u2 σ 1014 B x) h) O (xx_dt dd_X6_addBidder 10 rfl) (ly_1014 σ h) (pk_in B _ (by omega)) (by decide) (by rw [nI_clamp (by omega)]; exact pa_1014) ?_
    refine sw_aload_n O (xx_dt dd_X6_addBidder 11 rfl) rfl ?_
    refine sw_get (v := .ref 1015) O (xx_dt dd_X6_addBidder 12 rfl) cl_X6 fl_X6_27 (ly_1001 (u2 σ 1014 B x) h) (by decide) rfl ?_
    refine sw_iload O (xx_dt dd_X6_addBidder 13 rfl) rfl ?_
    refine sw_iload_n O (xx_dt dd_X6_addBidder 14 rfl) rfl ?_
    refine sw_iastore (h2 := setC (u2 (u2 σ 1014 B x) 1015 B y) h) O (xx_dt dd_X6_addBidder 15 rfl) (ly_1015 (u2 σ 1014 B x) h) (pk_in B _ (by omega)) (by decide) (by rw [nI_clamp (by omega)]; exact pa_1015) ?_
    refine sw_aload_n O (xx_dt dd_X6_addBidder 16 rfl) rfl ?_
    refine sw_get (v := .ref 1016) O (xx_dt dd_X6_addBidder 17 rfl) cl_X6 fl_X6_30 (ly_1001 (u2 (u2 σ 1014 B x) 1015 B y) h) (by decide) rfl ?_
    refine sw_iload O (xx_dt dd_X6_addBidder 18 rfl) rfl ?_
    refine sw_iload_n O (xx_dt dd_X6_addBidder 19 rfl) rfl ?_
    refine sw_iastore (h2 := setC (u2 (u2 (u2 σ 1014 B x) 1015 B y) 1016 B z) h) O (xx_dt dd_X6_addBidder 20 rfl) (ly_1016 (u2 (u2 σ 1014 B x) 1015 B y) h) (pk_in B _ (by omega)) (by decide) (by rw [nI_clamp (by omega)]; exact pa_1016) ?_
    refine sw_aload_n O (xx_dt dd_X6_addBidder 21 rfl) rfl ?_
    refine sw_get (v := .ref 1017) O (xx_dt dd_X6_addBidder 22 rfl) cl_X6 fl_X6_33 (ly_1001 (u2 (u2 (u2 σ 1014 B x) 1015 B y) 1016 B z) h) (by decide) rfl ?_
    refine sw_iload O (xx_dt dd_X6_addBidder 23 rfl) rfl ?_
    refine sw_iload O (xx_dt dd_X6_addBidder 24 rfl) rfl ?_
    refine sw_iastore (h2 := setC (u2 (u2 (u2 (u2 σ 1014 B x) 1015 B y) 1016 B z) 1017 B w) h) O (xx_dt dd_X6_addBidder 25 rfl) (ly_1017 (u2 (u2 (u2 σ 1014 B x) 1015 B y) 1016 B z) h) (pk_in B _ (by omega)) (by decide) (by rw [nI_clamp (by omega)]; exact pa_1017) ?_
    refine sw_aload_n O (xx_dt dd_X6_addBidder 26 rfl) rfl ?_
    refine sw_dup O (xx_dt dd_X6_addBidder 27 rfl) rfl ?_
    refine sw_get (v := .int (nI B)) O (xx_dt dd_X6_addBidder 28 rfl) cl_X6 fl_X6_53 (ly_1001 (u2 (u2 (u2 (u2 σ 1014 B x) 1015 B y) 1016 B z) 1017 B w) h) (by decide) (congrArg Value.int hB) ?_
    refine sw_iconst (x := 1) O (xx_dt dd_X6_addBidder 29 rfl) (by decide) ?_
    refine sw_iadd O (xx_dt dd_X6_addBidder 30 rfl) ?_
    rw [nI_a1 B]
    refine sw_put (h2 := setC (u2 (u2 (u2 (u2 (u2 σ 1014 B x) 1015 B y) 1016 B z) 1017 B w) 1001 9 (nI (B + 1))) h) O (xx_dt dd_X6_addBidder 31 rfl) cl_X6 fl_X6_53 (ly_1001 (u2 (u2 (u2 (u2 σ 1014 B x) 1015 B y) 1016 B z) 1017 B w) h) (by decide) (by decide) rfl (fun _ => ⟨rfl, rfl⟩) pu_1001_9 ?_
    refine sw_iload O (xx_dt dd_X6_addBidder 32 rfl) rfl ?_
    exact sw_iret O (xx_dt dd_X6_addBidder 33 rfl) rfl rfl (by rw [hQ]; exact ⟨by unfold f_addBidder; rfl, by unfold g_addBidder; rfl⟩)
def x_addBorder_29 (σ : XS9) (i j R : Nat) (s0 : Int32) : Int32 := xit (fun i29 s29 => s29 + (f_bitCount ((u2 (u2 σ 1013 i ((σ 1013 i) ||| (1 <<< ((nI j) &&& 31)))) 1013 j (((u2 σ 1013 i ((σ 1013 i) ||| (1 <<< ((nI j) &&& 31)))) 1013 j) ||| (1 <<< ((nI i) &&& 31)))) 1013 i29))) R 0 s0
def f_addBorder (σ : XS9) (i j R : Nat) : Int32 := (x_addBorder_29 σ i j R 0) / 2
def g_addBorder (σ : XS9) (i j R : Nat) : XS9 := u2 (u2 σ 1013 i ((σ 1013 i) ||| (1 <<< ((nI j) &&& 31)))) 1013 j (((u2 σ 1013 i ((σ 1013 i) ||| (1 <<< ((nI j) &&& 31)))) 1013 j) ||| (1 <<< ((nI i) &&& 31)))
theorem ct_X6_addBorder {l : Launch} {h : XH} (hl : l.stackTraces = false) {σ : XS9} {i j R : Nat} (hi : i < 5) (hj : j < 5) (hR : σ 1001 4 = nI R) (hR5 : R ≤ 5) : XEx l m_X6_addBorder 1 0 0 [.ref 1001, .int (nI i), .int (nI j)] (setC σ h) (some (.int (f_addBorder σ i j R))) (setC (g_addBorder σ i j R) h) := by
  refine XMet.of hl rfl rfl (Nat.le_of_ble_eq_true rfl) (fun Y O hh hQ => ?_)
  show SW Y 0 0 (setC σ h) 0 [.ref 1001, .int (nI i), .int (nI j), xx_d, xx_d] []
  refine sw_aload_n O (xx_dt dd_X6_addBorder 0 rfl) rfl ?_
  refine sw_get (v := .ref 1013) O (xx_dt dd_X6_addBorder 1 rfl) cl_X6 fl_X6_21 (ly_1001 σ h) (by decide) rfl ?_
  refine sw_iload_n O (xx_dt dd_X6_addBorder 2 rfl) rfl ?_
  refine sw_dup2 O (xx_dt dd_X6_addBorder 3 rfl) rfl rfl ?_
  refine sw_iaload (v := .int (σ 1013 i)) O (xx_dt dd_X6_addBorder 4 rfl) (ly_1013 σ h) (pk_in i _ (by omega)) (by rw [nI_clamp (by omega)]; try exact rfl) ?_
  refine sw_iconst (x := 1) O (xx_dt dd_X6_addBorder 5 rfl) (by decide) ?_
  refine sw_iload_n O (xx_dt dd_X6_addBorder 6 rfl) rfl ?_
  refine sw_ishl O (xx_dt dd_X6_addBorder 7 rfl) ?_
  refine sw_ior O (xx_dt dd_X6_addBorder 8 rfl) ?_
  refine sw_iastore (h2 := setC (u2 σ 1013 i ((σ 1013 i) ||| (1 <<< ((nI j) &&& 31)))) h) O (xx_dt dd_X6_addBorder 9 rfl) (ly_1013 σ h) (pk_in i _ (by omega)) (by decide) (by rw [nI_clamp (by omega)]; exact pa_1013) ?_
  refine sw_aload_n O (xx_dt dd_X6_addBorder 10 rfl) rfl ?_
  refine sw_get (v := .ref 1013) O (xx_dt dd_X6_addBorder 11 rfl) cl_X6 fl_X6_21 (ly_1001 (u2 σ 1013 i ((σ 1013 i) ||| (1 <<< ((nI j) &&& 31)))) h) (by decide) rfl ?_
  refine sw_iload_n O (xx_dt dd_X6_addBorder 12 rfl) rfl ?_
  refine sw_dup2 O (xx_dt dd_X6_addBorder 13 rfl) rfl rfl ?_
  refine sw_iaload (v := .int ((u2 σ 1013 i ((σ 1013 i) ||| (1 <<< ((nI j) &&& 31)))) 1013 j)) O (xx_dt dd_X6_addBorder 14 rfl) (ly_1013 (u2 σ 1013 i ((σ 1013 i) ||| (1 <<< ((nI j) &&& 31)))) h) (pk_in j _ (by omega)) (by rw [nI_clamp (by omega)]; try exact rfl) ?_
  refine sw_iconst (x := 1) O (xx_dt dd_X6_addBorder 15 rfl) (by decide) ?_
  refine sw_iload_n O (xx_dt dd_X6_addBorder 16 rfl) rfl ?_
  refine sw_ishl O (xx_dt dd_X6_addBorder 17 rfl) ?_
  refine sw_ior O (xx_dt dd_X6_addBorder 18 rfl) ?_
  refine sw_iastore (h2 := setC (u2 (u2 σ 1013 i ((σ 1013 i) ||| (1 <<< ((nI j) &&& 31)))) 1013 j (((u2 σ 1013 i ((σ 1013 i) ||| (1 <<< ((nI j) &&& 31)))) 1013 j) ||| (1 <<< ((nI i) &&& 31)))) h) O (xx_dt dd_X6_addBorder 19 rfl) (ly_1013 (u2 σ 1013 i ((σ 1013 i) ||| (1 <<< ((nI j) &&& 31)))) h) (pk_in j _ (by omega)) (by decide) (by rw [nI_clamp (by omega)]; exact pa_1013) ?_
  refine sw_iconst (x := 0) O (xx_dt dd_X6_addBorder 20 rfl) (by decide) ?_
  refine sw_istore_n (ls2 := [.ref 1001, .int (nI i), .int (nI j), .int 0, xx_d]) O (xx_dt dd_X6_addBorder 21 rfl) (by decide) rfl ?_
  refine sw_iconst (x := 0) O (xx_dt dd_X6_addBorder 22 rfl) (by decide) ?_
  refine sw_istore (ls2 := [.ref 1001, .int (nI i), .int (nI j), .int 0, .int 0]) O (xx_dt dd_X6_addBorder 23 rfl) (by decide) rfl ?_
  refine sw_for (fun i29 s29 => s29 + (f_bitCount ((u2 (u2 σ 1013 i ((σ 1013 i) ||| (1 <<< ((nI j) &&& 31)))) 1013 j (((u2 σ 1013 i ((σ 1013 i) ||| (1 <<< ((nI j) &&& 31)))) 1013 j) ||| (1 <<< ((nI i) &&& 31)))) 1013 i29))) (fun _ _ => True) (hp := fun _ => setC (u2 (u2 σ 1013 i ((σ 1013 i) ||| (1 <<< ((nI j) &&& 31)))) 1013 j (((u2 σ 1013 i ((σ 1013 i) ||| (1 <<< ((nI j) &&& 31)))) 1013 j) ||| (1 <<< ((nI i) &&& 31)))) h) (hd := 29) (lc := fun i29 s29 => [.ref 1001, .int (nI i), .int (nI j), .int s29, .int (nI i29)]) (N := R) (fun i29 s29 hi29 hP29 => ⟨trivial, fun kk29 => ?_⟩) R 0 0 (by omega) (trivial) (fun hP29 => ?_)
  · refine sw_iload O (xx_dt dd_X6_addBorder 24 rfl) rfl ?_
    refine sw_aload_n O (xx_dt dd_X6_addBorder 25 rfl) rfl ?_
    refine sw_get (v := .int (nI R)) O (xx_dt dd_X6_addBorder 26 rfl) cl_X6 fl_X6_44 (ly_1001 (u2 (u2 σ 1013 i ((σ 1013 i) ||| (1 <<< ((nI j) &&& 31)))) 1013 j (((u2 σ 1013 i ((σ 1013 i) ||| (1 <<< ((nI j) &&& 31)))) 1013 j) ||| (1 <<< ((nI i) &&& 31)))) h) (by decide) (congrArg Value.int hR) ?_
    refine sw_icmp_ge (tgt := 57) O (xx_dt dd_X6_addBorder 27 rfl) (by decide) (fun q1 => ?_) (fun q1 => ?_)
    · exact absurd q1 (nI_ge (b := R) hi29 (by omega))
    · refine sw_iload_n O (xx_dt dd_X6_addBorder 28 rfl) rfl ?_
      refine sw_aload_n O (xx_dt dd_X6_addBorder 29 rfl) rfl ?_
      refine sw_get (v := .ref 1013) O (xx_dt dd_X6_addBorder 30 rfl) cl_X6 fl_X6_21 (ly_1001 (u2 (u2 σ 1013 i ((σ 1013 i) ||| (1 <<< ((nI j) &&& 31)))) 1013 j (((u2 σ 1013 i ((σ 1013 i) ||| (1 <<< ((nI j) &&& 31)))) 1013 j) ||| (1 <<< ((nI i) &&& 31)))) h) (by decide) rfl ?_
      refine sw_iload O (xx_dt dd_X6_addBorder 31 rfl) rfl ?_
      refine sw_iaload (v := .int ((u2 (u2 σ 1013 i ((σ 1013 i) ||| (1 <<< ((nI j) &&& 31)))) 1013 j (((u2 σ 1013 i ((σ 1013 i) ||| (1 <<< ((nI j) &&& 31)))) 1013 j) ||| (1 <<< ((nI i) &&& 31)))) 1013 i29)) O (xx_dt dd_X6_addBorder 32 rfl) (ly_1013 (u2 (u2 σ 1013 i ((σ 1013 i) ||| (1 <<< ((nI j) &&& 31)))) 1013 j (((u2 σ 1013 i ((σ 1013 i) ||| (1 <<< ((nI j) &&& 31)))) 1013 j) ||| (1 <<< ((nI i) &&& 31)))) h) (pk_in i29 _ (by omega)) (by rw [nI_clamp (by omega)]; try exact rfl) ?_
      refine sw_callSx (as := [.int ((u2 (u2 σ 1013 i ((σ 1013 i) ||| (1 <<< ((nI j) &&& 31)))) 1013 j (((u2 σ 1013 i ((σ 1013 i) ||| (1 <<< ((nI j) &&& 31)))) 1013 j) ||| (1 <<< ((nI i) &&& 31)))) 1013 i29)]) (st := [.int s29]) (st2 := [.int (f_bitCount ((u2 (u2 σ 1013 i ((σ 1013 i) ||| (1 <<< ((nI j) &&& 31)))) 1013 j (((u2 σ 1013 i ((σ 1013 i) ||| (1 <<< ((nI j) &&& 31)))) 1013 j) ||| (1 <<< ((nI i) &&& 31)))) 1013 i29)), .int s29]) O (ct_J6_bitCount_0f7a4 hl (x := (u2 (u2 σ 1013 i ((σ 1013 i) ||| (1 <<< ((nI j) &&& 31)))) 1013 j (((u2 σ 1013 i ((σ 1013 i) ||| (1 <<< ((nI j) &&& 31)))) 1013 j) ||| (1 <<< ((nI i) &&& 31)))) 1013 i29)) ce_J6_bitCount_0f7a4 ml_X6_47 st_J6_bitCount_0f7a4 (xx_dt dd_X6_addBorder 33 rfl) (by decide) rfl rfl (Nat.le_of_ble_eq_true rfl) rfl ?_
      refine sw_iadd O (xx_dt dd_X6_addBorder 34 rfl) ?_
      refine sw_istore_n (ls2 := [.ref 1001, .int (nI i), .int (nI j), .int (s29 + (f_bitCount ((u2 (u2 σ 1013 i ((σ 1013 i) ||| (1 <<< ((nI j) &&& 31)))) 1013 j (((u2 σ 1013 i ((σ 1013 i) ||| (1 <<< ((nI j) &&& 31)))) 1013 j) ||| (1 <<< ((nI i) &&& 31)))) 1013 i29))), .int (nI i29)]) O (xx_dt dd_X6_addBorder 35 rfl) (by decide) rfl ?_
      refine sw_iinc (y := nI (i29 + 1)) (ls2 := [.ref 1001, .int (nI i), .int (nI j), .int (s29 + (f_bitCount ((u2 (u2 σ 1013 i ((σ 1013 i) ||| (1 <<< ((nI j) &&& 31)))) 1013 j (((u2 σ 1013 i ((σ 1013 i) ||| (1 <<< ((nI j) &&& 31)))) 1013 j) ||| (1 <<< ((nI i) &&& 31)))) 1013 i29))), .int (nI (i29 + 1))]) O (xx_dt dd_X6_addBorder 36 rfl) rfl (nI_1 _) (by decide) rfl ?_
      refine sw_goto (tgt := 29) O (xx_dt dd_X6_addBorder 37 rfl) (by decide) ?_
      exact kk29
  · show SW Y _ _ (setC (u2 (u2 σ 1013 i ((σ 1013 i) ||| (1 <<< ((nI j) &&& 31)))) 1013 j (((u2 σ 1013 i ((σ 1013 i) ||| (1 <<< ((nI j) &&& 31)))) 1013 j) ||| (1 <<< ((nI i) &&& 31)))) h) 29 [.ref 1001, .int (nI i), .int (nI j), .int (x_addBorder_29 σ i j R 0), .int (nI R)] []
    refine sw_iload O (xx_dt dd_X6_addBorder 24 rfl) rfl ?_
    refine sw_aload_n O (xx_dt dd_X6_addBorder 25 rfl) rfl ?_
    refine sw_get (v := .int (nI R)) O (xx_dt dd_X6_addBorder 26 rfl) cl_X6 fl_X6_44 (ly_1001 (u2 (u2 σ 1013 i ((σ 1013 i) ||| (1 <<< ((nI j) &&& 31)))) 1013 j (((u2 σ 1013 i ((σ 1013 i) ||| (1 <<< ((nI j) &&& 31)))) 1013 j) ||| (1 <<< ((nI i) &&& 31)))) h) (by decide) (congrArg Value.int hR) ?_
    refine sw_icmp_ge (tgt := 57) O (xx_dt dd_X6_addBorder 27 rfl) (by decide) (fun q1 => ?_) (fun q1 => ?_)
    · refine sw_iload_n O (xx_dt dd_X6_addBorder 38 rfl) rfl ?_
      refine sw_iconst (x := 2) O (xx_dt dd_X6_addBorder 39 rfl) (by decide) ?_
      refine sw_idiv O (xx_dt dd_X6_addBorder 40 rfl) (by first | decide | assumption) ?_
      exact sw_iret O (xx_dt dd_X6_addBorder 41 rfl) rfl rfl (by rw [hQ]; exact ⟨by unfold f_addBorder; rfl, by unfold g_addBorder; rfl⟩)
    · exact absurd (Int32.le_refl _) q1
