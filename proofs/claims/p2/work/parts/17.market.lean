/-! ===== Stations ===== -/
def f_add (σ : XS9) (x y : Int32) (C : Nat) : Int32 := nI C
def g_add (σ : XS9) (x y : Int32) (C : Nat) : XS9 := u2 (u2 (u2 σ 1151 C x) 1150 C y) 1006 1 (nI (C + 1))
theorem ct_X5_add {l : Launch} {h : XH} (hl : l.stackTraces = false) {σ : XS9} {C : Nat} (hC : σ 1006 1 = nI C) (hC10 : C < 10) {x y : Int32} : XEx l m_X5_add 0 0 0 [.ref 1006, .int x, .int y] (setC σ h) (some (.int (f_add σ x y C))) (setC (g_add σ x y C) h) := by
  refine XMet.of hl rfl rfl (Nat.le_of_ble_eq_true rfl) (fun Y O hh hQ => ?_)
  show SW Y 0 0 (setC σ h) 0 [.ref 1006, .int x, .int y, xx_d] []
  refine sw_aload_n O (xx_dt dd_X5_add 0 rfl) rfl ?_
  refine sw_get (v := .int (nI C)) O (xx_dt dd_X5_add 1 rfl) cl_X5 fl_X5_24 (ly_1006 σ h) (by decide) (congrArg Value.int hC) ?_
  refine sw_istore_n (ls2 := [.ref 1006, .int x, .int y, .int (nI C)]) O (xx_dt dd_X5_add 2 rfl) (by decide) rfl ?_
  refine sw_iload_n O (xx_dt dd_X5_add 3 rfl) rfl ?_
  refine sw_bipush (x := 10) O (xx_dt dd_X5_add 4 rfl) (by decide) ?_
  refine sw_icmp_ge (tgt := 35) O (xx_dt dd_X5_add 5 rfl) (by decide) (fun q1 => ?_) (fun q1 => ?_)
  · exact absurd q1 (nI_ge (b := 10) hC10 (by omega))
  · refine sw_aload_n O (xx_dt dd_X5_add 6 rfl) rfl ?_
    refine sw_get (v := .ref 1151) O (xx_dt dd_X5_add 7 rfl) cl_X5 fl_X5_15 (ly_1006 σ h) (by decide) rfl ?_
    refine sw_iload_n O (xx_dt dd_X5_add 8 rfl) rfl ?_
    refine sw_iload_n O (xx_dt dd_X5_add 9 rfl) rfl ?_
    refine sw_iastore (h2 := setC (u2 σ 1151 C x) h) O (xx_dt dd_X5_add 10 rfl) (ly_1151 σ h) (pk_in C _ (by omega)) (by decide) (by rw [nI_clamp (by omega)]; exact pa_1151) ?_
    refine sw_aload_n O (xx_dt dd_X5_add 11 rfl) rfl ?_
    refine sw_get (v := .ref 1150) O (xx_dt dd_X5_add 12 rfl) cl_X5 fl_X5_9 (ly_1006 (u2 σ 1151 C x) h) (by decide) rfl ?_
    refine sw_iload_n O (xx_dt dd_X5_add 13 rfl) rfl ?_
    refine sw_iload_n O (xx_dt dd_X5_add 14 rfl) rfl ?_
    refine sw_iastore (h2 := setC (u2 (u2 σ 1151 C x) 1150 C y) h) O (xx_dt dd_X5_add 15 rfl) (ly_1150 (u2 σ 1151 C x) h) (pk_in C _ (by omega)) (by decide) (by rw [nI_clamp (by omega)]; exact pa_1150) ?_
    refine sw_aload_n O (xx_dt dd_X5_add 16 rfl) rfl ?_
    refine sw_dup O (xx_dt dd_X5_add 17 rfl) rfl ?_
    refine sw_get (v := .int (nI C)) O (xx_dt dd_X5_add 18 rfl) cl_X5 fl_X5_24 (ly_1006 (u2 (u2 σ 1151 C x) 1150 C y) h) (by decide) (congrArg Value.int hC) ?_
    refine sw_iconst (x := 1) O (xx_dt dd_X5_add 19 rfl) (by decide) ?_
    refine sw_iadd O (xx_dt dd_X5_add 20 rfl) ?_
    rw [nI_a1 C]
    refine sw_put (h2 := setC (u2 (u2 (u2 σ 1151 C x) 1150 C y) 1006 1 (nI (C + 1))) h) O (xx_dt dd_X5_add 21 rfl) cl_X5 fl_X5_24 (ly_1006 (u2 (u2 σ 1151 C x) 1150 C y) h) (by decide) (by decide) rfl (fun _ => ⟨rfl, rfl⟩) pu_1006_1 ?_
    refine sw_iload_n O (xx_dt dd_X5_add 22 rfl) rfl ?_
    exact sw_iret O (xx_dt dd_X5_add 23 rfl) rfl rfl (by rw [hQ]; exact ⟨by unfold f_add; rfl, by unfold g_add; rfl⟩)
def x_countIn_4 (σ : XS9) (x : Int32) (C : Nat) (s0 : Int32) : Int32 := xit (fun i4 s4 => (if (σ 1151 i4) = x then s4 + 1 else s4)) C 0 s0
def f_countIn (σ : XS9) (x : Int32) (C : Nat) : Int32 := (x_countIn_4 σ x C 0)
theorem ct_X5_countIn {l : Launch} {h : XH} (hl : l.stackTraces = false) {σ : XS9} {C : Nat} (hC : σ 1006 1 = nI C) (hC10 : C ≤ 10) {x : Int32} : XEx l m_X5_countIn 0 0 0 [.ref 1006, .int x] (setC σ h) (some (.int (f_countIn σ x C))) (setC σ h) := by
  refine XMet.of hl rfl rfl (Nat.le_of_ble_eq_true rfl) (fun Y O hh hQ => ?_)
  show SW Y 0 0 (setC σ h) 0 [.ref 1006, .int x, xx_d, xx_d] []
  refine sw_iconst (x := 0) O (xx_dt dd_X5_countIn 0 rfl) (by decide) ?_
  refine sw_istore_n (ls2 := [.ref 1006, .int x, .int 0, xx_d]) O (xx_dt dd_X5_countIn 1 rfl) (by decide) rfl ?_
  refine sw_iconst (x := 0) O (xx_dt dd_X5_countIn 2 rfl) (by decide) ?_
  refine sw_istore_n (ls2 := [.ref 1006, .int x, .int 0, .int 0]) O (xx_dt dd_X5_countIn 3 rfl) (by decide) rfl ?_
  refine sw_for (fun i4 s4 => (if (σ 1151 i4) = x then s4 + 1 else s4)) (fun _ _ => True) (hp := fun _ => setC σ h) (hd := 4) (lc := fun i4 s4 => [.ref 1006, .int x, .int s4, .int (nI i4)]) (N := C) (fun i4 s4 hi4 hP4 => ⟨trivial, fun kk4 => ?_⟩) C 0 0 (by omega) (trivial) (fun hP4 => ?_)
  · refine sw_iload_n O (xx_dt dd_X5_countIn 4 rfl) rfl ?_
    refine sw_aload_n O (xx_dt dd_X5_countIn 5 rfl) rfl ?_
    refine sw_get (v := .int (nI C)) O (xx_dt dd_X5_countIn 6 rfl) cl_X5 fl_X5_24 (ly_1006 σ h) (by decide) (congrArg Value.int hC) ?_
    refine sw_icmp_ge (tgt := 31) O (xx_dt dd_X5_countIn 7 rfl) (by decide) (fun q1 => ?_) (fun q1 => ?_)
    · exact absurd q1 (nI_ge (b := C) hi4 (by omega))
    · refine sw_aload_n O (xx_dt dd_X5_countIn 8 rfl) rfl ?_
      refine sw_get (v := .ref 1151) O (xx_dt dd_X5_countIn 9 rfl) cl_X5 fl_X5_15 (ly_1006 σ h) (by decide) rfl ?_
      refine sw_iload_n O (xx_dt dd_X5_countIn 10 rfl) rfl ?_
      refine sw_iaload (v := .int (σ 1151 i4)) O (xx_dt dd_X5_countIn 11 rfl) (ly_1151 σ h) (pk_in i4 _ (by omega)) (by rw [nI_clamp (by omega)]) ?_
      refine sw_iload_n O (xx_dt dd_X5_countIn 12 rfl) rfl ?_
      refine sw_icmp_ne (tgt := 25) O (xx_dt dd_X5_countIn 13 rfl) (by decide) (fun q2 => ?_) (fun q2 => ?_)
      · refine sw_iinc (y := nI (i4 + 1)) (ls2 := [.ref 1006, .int x, .int s4, .int (nI (i4 + 1))]) O (xx_dt dd_X5_countIn 15 rfl) rfl (nI_1 _) (by decide) rfl ?_
        refine sw_goto (tgt := 4) O (xx_dt dd_X5_countIn 16 rfl) (by decide) ?_
        simp only [if_neg q2] at kk4
        exact kk4
      · refine sw_iinc (y := s4 + 1) (ls2 := [.ref 1006, .int x, .int (s4 + 1), .int (nI i4)]) O (xx_dt dd_X5_countIn 14 rfl) rfl rfl (by decide) rfl ?_
        refine sw_iinc (y := nI (i4 + 1)) (ls2 := [.ref 1006, .int x, .int (s4 + 1), .int (nI (i4 + 1))]) O (xx_dt dd_X5_countIn 15 rfl) rfl (nI_1 _) (by decide) rfl ?_
        refine sw_goto (tgt := 4) O (xx_dt dd_X5_countIn 16 rfl) (by decide) ?_
        simp only [if_pos q2] at kk4
        exact kk4
  · show SW Y _ _ (setC σ h) 4 [.ref 1006, .int x, .int (x_countIn_4 σ x C 0), .int (nI C)] []
    refine sw_iload_n O (xx_dt dd_X5_countIn 4 rfl) rfl ?_
    refine sw_aload_n O (xx_dt dd_X5_countIn 5 rfl) rfl ?_
    refine sw_get (v := .int (nI C)) O (xx_dt dd_X5_countIn 6 rfl) cl_X5 fl_X5_24 (ly_1006 σ h) (by decide) (congrArg Value.int hC) ?_
    refine sw_icmp_ge (tgt := 31) O (xx_dt dd_X5_countIn 7 rfl) (by decide) (fun q1 => ?_) (fun q1 => ?_)
    · refine sw_iload_n O (xx_dt dd_X5_countIn 17 rfl) rfl ?_
      exact sw_iret O (xx_dt dd_X5_countIn 18 rfl) rfl rfl (by rw [hQ]; exact ⟨by unfold f_countIn; rfl, rfl⟩)
    · exact absurd (Int32.le_refl _) q1
def x_asksOf_4 (σ : XS9) (x : Int32) (C : Nat) (s0 : Int32) : Int32 := xit (fun i4 s4 => (if (x &&& (1 <<< ((nI i4) &&& 31))) = 0 then s4 else s4 + (σ 1150 i4))) C 0 s0
def f_asksOf (σ : XS9) (x : Int32) (C : Nat) : Int32 := (x_asksOf_4 σ x C 0)
theorem ct_X5_asksOf {l : Launch} {h : XH} (hl : l.stackTraces = false) {σ : XS9} {C : Nat} (hC : σ 1006 1 = nI C) (hC10 : C ≤ 10) {x : Int32} : XEx l m_X5_asksOf 0 0 0 [.ref 1006, .int x] (setC σ h) (some (.int (f_asksOf σ x C))) (setC σ h) := by
  refine XMet.of hl rfl rfl (Nat.le_of_ble_eq_true rfl) (fun Y O hh hQ => ?_)
  show SW Y 0 0 (setC σ h) 0 [.ref 1006, .int x, xx_d, xx_d] []
  refine sw_iconst (x := 0) O (xx_dt dd_X5_asksOf 0 rfl) (by decide) ?_
  refine sw_istore_n (ls2 := [.ref 1006, .int x, .int 0, xx_d]) O (xx_dt dd_X5_asksOf 1 rfl) (by decide) rfl ?_
  refine sw_iconst (x := 0) O (xx_dt dd_X5_asksOf 2 rfl) (by decide) ?_
  refine sw_istore_n (ls2 := [.ref 1006, .int x, .int 0, .int 0]) O (xx_dt dd_X5_asksOf 3 rfl) (by decide) rfl ?_
  refine sw_for (fun i4 s4 => (if (x &&& (1 <<< ((nI i4) &&& 31))) = 0 then s4 else s4 + (σ 1150 i4))) (fun _ _ => True) (hp := fun _ => setC σ h) (hd := 4) (lc := fun i4 s4 => [.ref 1006, .int x, .int s4, .int (nI i4)]) (N := C) (fun i4 s4 hi4 hP4 => ⟨trivial, fun kk4 => ?_⟩) C 0 0 (by omega) (trivial) (fun hP4 => ?_)
  · refine sw_iload_n O (xx_dt dd_X5_asksOf 4 rfl) rfl ?_
    refine sw_aload_n O (xx_dt dd_X5_asksOf 5 rfl) rfl ?_
    refine sw_get (v := .int (nI C)) O (xx_dt dd_X5_asksOf 6 rfl) cl_X5 fl_X5_24 (ly_1006 σ h) (by decide) (congrArg Value.int hC) ?_
    refine sw_icmp_ge (tgt := 35) O (xx_dt dd_X5_asksOf 7 rfl) (by decide) (fun q1 => ?_) (fun q1 => ?_)
    · exact absurd q1 (nI_ge (b := C) hi4 (by omega))
    · refine sw_iload_n O (xx_dt dd_X5_asksOf 8 rfl) rfl ?_
      refine sw_iconst (x := 1) O (xx_dt dd_X5_asksOf 9 rfl) (by decide) ?_
      refine sw_iload_n O (xx_dt dd_X5_asksOf 10 rfl) rfl ?_
      refine sw_ishl O (xx_dt dd_X5_asksOf 11 rfl) ?_
      refine sw_iand O (xx_dt dd_X5_asksOf 12 rfl) ?_
      refine sw_if_eq (tgt := 29) O (xx_dt dd_X5_asksOf 13 rfl) (by decide) (fun q2 => ?_) (fun q2 => ?_)
      · refine sw_iinc (y := nI (i4 + 1)) (ls2 := [.ref 1006, .int x, .int s4, .int (nI (i4 + 1))]) O (xx_dt dd_X5_asksOf 21 rfl) rfl (nI_1 _) (by decide) rfl ?_
        refine sw_goto (tgt := 4) O (xx_dt dd_X5_asksOf 22 rfl) (by decide) ?_
        simp only [if_pos q2] at kk4
        exact kk4
      · refine sw_iload_n O (xx_dt dd_X5_asksOf 14 rfl) rfl ?_
        refine sw_aload_n O (xx_dt dd_X5_asksOf 15 rfl) rfl ?_
        refine sw_get (v := .ref 1150) O (xx_dt dd_X5_asksOf 16 rfl) cl_X5 fl_X5_9 (ly_1006 σ h) (by decide) rfl ?_
        refine sw_iload_n O (xx_dt dd_X5_asksOf 17 rfl) rfl ?_
        refine sw_iaload (v := .int (σ 1150 i4)) O (xx_dt dd_X5_asksOf 18 rfl) (ly_1150 σ h) (pk_in i4 _ (by omega)) (by rw [nI_clamp (by omega)]) ?_
        refine sw_iadd O (xx_dt dd_X5_asksOf 19 rfl) ?_
        refine sw_istore_n (ls2 := [.ref 1006, .int x, .int (s4 + (σ 1150 i4)), .int (nI i4)]) O (xx_dt dd_X5_asksOf 20 rfl) (by decide) rfl ?_
        refine sw_iinc (y := nI (i4 + 1)) (ls2 := [.ref 1006, .int x, .int (s4 + (σ 1150 i4)), .int (nI (i4 + 1))]) O (xx_dt dd_X5_asksOf 21 rfl) rfl (nI_1 _) (by decide) rfl ?_
        refine sw_goto (tgt := 4) O (xx_dt dd_X5_asksOf 22 rfl) (by decide) ?_
        simp only [if_neg q2] at kk4
        exact kk4
  · show SW Y _ _ (setC σ h) 4 [.ref 1006, .int x, .int (x_asksOf_4 σ x C 0), .int (nI C)] []
    refine sw_iload_n O (xx_dt dd_X5_asksOf 4 rfl) rfl ?_
    refine sw_aload_n O (xx_dt dd_X5_asksOf 5 rfl) rfl ?_
    refine sw_get (v := .int (nI C)) O (xx_dt dd_X5_asksOf 6 rfl) cl_X5 fl_X5_24 (ly_1006 σ h) (by decide) (congrArg Value.int hC) ?_
    refine sw_icmp_ge (tgt := 35) O (xx_dt dd_X5_asksOf 7 rfl) (by decide) (fun q1 => ?_) (fun q1 => ?_)
    · refine sw_iload_n O (xx_dt dd_X5_asksOf 23 rfl) rfl ?_
      exact sw_iret O (xx_dt dd_X5_asksOf 24 rfl) rfl rfl (by rw [hQ]; exact ⟨by unfold f_asksOf; rfl, rfl⟩)
    · exact absurd (Int32.le_refl _) q1
def x_channelOf_2 (σ : XS9) (x : Int32) (s0 : Unit) : Unit ⊕ Int32 := xitR (fun i2 s2 => (if ((σ 1153 i2) &&& (1 <<< (x &&& 31))) = 0 then .inl () else .inr (nI i2))) 6 0 s0
def f_channelOf (σ : XS9) (x : Int32) : Int32 := (match (x_channelOf_2 σ x ()) with | .inl s2 => (-1) | .inr r2 => r2)
theorem ct_X5_channelOf {l : Launch} {h : XH} (hl : l.stackTraces = false) {σ : XS9} {x : Int32} : XEx l m_X5_channelOf 0 0 0 [.ref 1006, .int x] (setC σ h) (some (.int (f_channelOf σ x))) (setC σ h) := by
  refine XMet.of hl rfl rfl (Nat.le_of_ble_eq_true rfl) (fun Y O hh hQ => ?_)
  show SW Y 0 0 (setC σ h) 0 [.ref 1006, .int x, xx_d] []
  refine sw_iconst (x := 0) O (xx_dt dd_X5_channelOf 0 rfl) (by decide) ?_
  refine sw_istore_n (ls2 := [.ref 1006, .int x, .int 0]) O (xx_dt dd_X5_channelOf 1 rfl) (by decide) rfl ?_
  refine sw_forR (R := Int32) (fun i2 s2 => (if ((σ 1153 i2) &&& (1 <<< (x &&& 31))) = 0 then .inl () else .inr (nI i2))) (fun _ _ => True) (FR := fun r => f_channelOf σ x = r) (hp := fun _ => setC σ h) (hd := 2) (lc := fun i2 s2 => [.ref 1006, .int x, .int (nI i2)]) (N := 6) (fun i2 s2 hi2 hP2 => ⟨fun _ _ => trivial, fun kk2 kr2 => ?_⟩) 6 0 () (by omega) (trivial) (fun sN2 eN2 hP2 => ?_) (fun r2 eN2 => ?_)
  · refine sw_iload_n O (xx_dt dd_X5_channelOf 2 rfl) rfl ?_
    refine sw_bipush (x := 6) O (xx_dt dd_X5_channelOf 3 rfl) (by decide) ?_
    refine sw_icmp_ge (tgt := 29) O (xx_dt dd_X5_channelOf 4 rfl) (by decide) (fun q1 => ?_) (fun q1 => ?_)
    · exact absurd q1 (nI_ge (b := 6) hi2 (by omega))
    · refine sw_aload_n O (xx_dt dd_X5_channelOf 5 rfl) rfl ?_
      refine sw_get (v := .ref 1153) O (xx_dt dd_X5_channelOf 6 rfl) cl_X5 fl_X5_21 (ly_1006 σ h) (by decide) rfl ?_
      refine sw_iload_n O (xx_dt dd_X5_channelOf 7 rfl) rfl ?_
      refine sw_iaload (v := .int (σ 1153 i2)) O (xx_dt dd_X5_channelOf 8 rfl) (ly_1153 σ h) (pk_in i2 _ (by omega)) (by rw [nI_clamp (by omega)]) ?_
      refine sw_iconst (x := 1) O (xx_dt dd_X5_channelOf 9 rfl) (by decide) ?_
      refine sw_iload_n O (xx_dt dd_X5_channelOf 10 rfl) rfl ?_
      refine sw_ishl O (xx_dt dd_X5_channelOf 11 rfl) ?_
      refine sw_iand O (xx_dt dd_X5_channelOf 12 rfl) ?_
      refine sw_if_eq (tgt := 23) O (xx_dt dd_X5_channelOf 13 rfl) (by decide) (fun q2 => ?_) (fun q2 => ?_)
      · refine sw_iinc (y := nI (i2 + 1)) (ls2 := [.ref 1006, .int x, .int (nI (i2 + 1))]) O (xx_dt dd_X5_channelOf 16 rfl) rfl (nI_1 _) (by decide) rfl ?_
        refine sw_goto (tgt := 2) O (xx_dt dd_X5_channelOf 17 rfl) (by decide) ?_
        exact kk2 () (by simp only [if_pos q2])
      · refine sw_iload_n O (xx_dt dd_X5_channelOf 14 rfl) rfl ?_
        exact sw_iret O (xx_dt dd_X5_channelOf 15 rfl) rfl rfl (by rw [hQ, kr2 (nI i2) (by simp only [if_neg q2])]; exact ⟨rfl, rfl⟩)
  · show SW Y _ _ (setC σ h) 2 [.ref 1006, .int x, .int (nI 6)] []
    refine sw_iload_n O (xx_dt dd_X5_channelOf 2 rfl) rfl ?_
    refine sw_bipush (x := 6) O (xx_dt dd_X5_channelOf 3 rfl) (by decide) ?_
    refine sw_icmp_ge (tgt := 29) O (xx_dt dd_X5_channelOf 4 rfl) (by decide) (fun q1 => ?_) (fun q1 => ?_)
    · refine sw_iconst (x := (-1)) O (xx_dt dd_X5_channelOf 18 rfl) (by decide) ?_
      exact sw_iret O (xx_dt dd_X5_channelOf 19 rfl) rfl rfl (by rw [hQ]; exact ⟨by unfold f_channelOf; simp only [x_channelOf_2, eN2], rfl⟩)
    · exact absurd (Int32.le_refl _) q1
  · unfold f_channelOf; simp only [x_channelOf_2, eN2]
/-! ===== Payments ===== -/
def f_roomOutside (σ : XS9) (x : Int32) (i : Nat) : Int32 := (if (x &&& (1 <<< ((nI i) &&& 31))) = 0 then (σ (1131 + 0) i) - (σ (1131 + 2) i) else 0)
theorem ct_X4_roomOutside {l : Launch} {h : XH} (hl : l.stackTraces = false) {σ : XS9} {x : Int32} {i : Nat} (hi : i < 6) : XEx l m_X4_roomOutside 0 0 0 [.ref 1004, .int x, .int (nI i)] (setC σ h) (some (.int (f_roomOutside σ x i))) (setC σ h) := by
  refine XMet.of hl rfl rfl (Nat.le_of_ble_eq_true rfl) (fun Y O hh hQ => ?_)
  show SW Y 0 0 (setC σ h) 0 [.ref 1004, .int x, .int (nI i)] []
  refine sw_iload_n O (xx_dt dd_X4_roomOutside 0 rfl) rfl ?_
  refine sw_iconst (x := 1) O (xx_dt dd_X4_roomOutside 1 rfl) (by decide) ?_
  refine sw_iload_n O (xx_dt dd_X4_roomOutside 2 rfl) rfl ?_
  refine sw_ishl O (xx_dt dd_X4_roomOutside 3 rfl) ?_
  refine sw_iand O (xx_dt dd_X4_roomOutside 4 rfl) ?_
  refine sw_if_eq (tgt := 12) O (xx_dt dd_X4_roomOutside 5 rfl) (by decide) (fun q1 => ?_) (fun q1 => ?_)
  · refine sw_aload_n O (xx_dt dd_X4_roomOutside 8 rfl) rfl ?_
    refine sw_get (v := .ref 1130) O (xx_dt dd_X4_roomOutside 9 rfl) cl_X4 fl_X4_11 (ly_1004 σ h) (by decide) rfl ?_
    refine sw_iconst (x := 0) O (xx_dt dd_X4_roomOutside 10 rfl) (by decide) ?_
    refine sw_aaload (v := .ref (1131 + 0)) O (xx_dt dd_X4_roomOutside 11 rfl) (by omega) (by omega) (ly_1130 σ h) (by unfold vp_in; decide) rfl ?_
    refine sw_iload_n O (xx_dt dd_X4_roomOutside 12 rfl) rfl ?_
    refine sw_iaload (v := .int (σ (1131 + 0) i)) O (xx_dt dd_X4_roomOutside 13 rfl) (lr_1130 σ h (k := 0) (by omega)) (pk_in i _ (by omega)) (by rw [nI_clamp (by omega)]) ?_
    refine sw_aload_n O (xx_dt dd_X4_roomOutside 14 rfl) rfl ?_
    refine sw_get (v := .ref 1130) O (xx_dt dd_X4_roomOutside 15 rfl) cl_X4 fl_X4_11 (ly_1004 σ h) (by decide) rfl ?_
    refine sw_iconst (x := 2) O (xx_dt dd_X4_roomOutside 16 rfl) (by decide) ?_
    refine sw_aaload (v := .ref (1131 + 2)) O (xx_dt dd_X4_roomOutside 17 rfl) (by omega) (by omega) (ly_1130 σ h) (by unfold vp_in; decide) rfl ?_
    refine sw_iload_n O (xx_dt dd_X4_roomOutside 18 rfl) rfl ?_
    refine sw_iaload (v := .int (σ (1131 + 2) i)) O (xx_dt dd_X4_roomOutside 19 rfl) (lr_1130 σ h (k := 2) (by omega)) (pk_in i _ (by omega)) (by rw [nI_clamp (by omega)]) ?_
    refine sw_isub O (xx_dt dd_X4_roomOutside 20 rfl) ?_
    exact sw_iret O (xx_dt dd_X4_roomOutside 21 rfl) rfl rfl (by rw [hQ]; exact ⟨by unfold f_roomOutside; simp only [if_pos q1], rfl⟩)
  · refine sw_iconst (x := 0) O (xx_dt dd_X4_roomOutside 6 rfl) (by decide) ?_
    refine sw_goto (tgt := 29) O (xx_dt dd_X4_roomOutside 7 rfl) (by decide) ?_
    exact sw_iret O (xx_dt dd_X4_roomOutside 21 rfl) rfl rfl (by rw [hQ]; exact ⟨by unfold f_roomOutside; simp only [if_neg q1], rfl⟩)
def x_objection_11 (σ : XS9) (S w : Nat) (s0 : Int32) : Int32 := xit (fun i11 s11 => (if ((nI S) &&& (1 <<< ((nI i11) &&& 31))) = 0 then s11 - (σ (1131 + w) i11) else s11 - (σ (1131 + 0) i11))) 6 0 s0
def f_objection (σ : XS9) (S w : Nat) : Int32 := (x_objection_11 σ S w (σ 1041 S))
theorem ct_X4_objection {l : Launch} {h : XH} (hl : l.stackTraces = false) {σ : XS9} {S w : Nat} (hS : S < 64) (hw : w < 3) : XEx l m_X4_objection 0 0 0 [.ref 1004, .ref 1003, .int (nI S), .int (nI w)] (setC σ h) (some (.int (f_objection σ S w))) (setC σ h) := by
  refine XMet.of hl rfl rfl (Nat.le_of_ble_eq_true rfl) (fun Y O hh hQ => ?_)
  show SW Y 0 0 (setC σ h) 0 [.ref 1004, .ref 1003, .int (nI S), .int (nI w), xx_d, xx_d, xx_d] []
  refine sw_aload_n O (xx_dt dd_X4_objection 0 rfl) rfl ?_
  refine sw_get (v := .ref 1041) O (xx_dt dd_X4_objection 1 rfl) cl_X2 fl_X4_42 (ly_1003 σ h) (by decide) rfl ?_
  refine sw_iload_n O (xx_dt dd_X4_objection 2 rfl) rfl ?_
  refine sw_iaload (v := .int (σ 1041 S)) O (xx_dt dd_X4_objection 3 rfl) (ly_1041 σ h) (pk_in S _ (by omega)) (by rw [nI_clamp (by omega)]) ?_
  refine sw_istore (ls2 := [.ref 1004, .ref 1003, .int (nI S), .int (nI w), .int (σ 1041 S), xx_d, xx_d]) O (xx_dt dd_X4_objection 4 rfl) (by decide) rfl ?_
  refine sw_iconst (x := 0) O (xx_dt dd_X4_objection 5 rfl) (by decide) ?_
  refine sw_istore (ls2 := [.ref 1004, .ref 1003, .int (nI S), .int (nI w), .int (σ 1041 S), .int 0, xx_d]) O (xx_dt dd_X4_objection 6 rfl) (by decide) rfl ?_
  refine sw_for (fun i11 s11 => (if ((nI S) &&& (1 <<< ((nI i11) &&& 31))) = 0 then s11 - (σ (1131 + w) i11) else s11 - (σ (1131 + 0) i11))) (fun _ _ => True) (hp := fun _ => setC σ h) (hd := 11) (lc := fun i11 s11 => [.ref 1004, .ref 1003, .int (nI S), .int (nI w), .int s11, .int (nI i11), xx_d]) (N := 6) (fun i11 s11 hi11 hP11 => ⟨trivial, fun kk11 => ?_⟩) 6 0 (σ 1041 S) (by omega) (trivial) (fun hP11 => ?_)
  · refine sw_iload O (xx_dt dd_X4_objection 7 rfl) rfl ?_
    refine sw_bipush (x := 6) O (xx_dt dd_X4_objection 8 rfl) (by decide) ?_
    refine sw_icmp_ge (tgt := 71) O (xx_dt dd_X4_objection 9 rfl) (by decide) (fun q1 => ?_) (fun q1 => ?_)
    · exact absurd q1 (nI_ge (b := 6) hi11 (by omega))
    · refine sw_iload_n O (xx_dt dd_X4_objection 10 rfl) rfl ?_
      refine sw_iconst (x := 1) O (xx_dt dd_X4_objection 11 rfl) (by decide) ?_
      refine sw_iload O (xx_dt dd_X4_objection 12 rfl) rfl ?_
      refine sw_ishl O (xx_dt dd_X4_objection 13 rfl) ?_
      refine sw_iand O (xx_dt dd_X4_objection 14 rfl) ?_
      refine sw_if_eq (tgt := 31) O (xx_dt dd_X4_objection 15 rfl) (by decide) (fun q2 => ?_) (fun q2 => ?_)
      · refine sw_iconst (x := 0) O (xx_dt dd_X4_objection 18 rfl) (by decide) ?_
        refine sw_istore (ls2 := [.ref 1004, .ref 1003, .int (nI S), .int (nI w), .int s11, .int (nI i11), .int 0]) O (xx_dt dd_X4_objection 19 rfl) (by decide) rfl ?_
        refine sw_iload O (xx_dt dd_X4_objection 20 rfl) rfl ?_
        refine sw_iload O (xx_dt dd_X4_objection 21 rfl) rfl ?_
        refine sw_if_eq (tgt := 53) O (xx_dt dd_X4_objection 22 rfl) (by decide) (fun q3 => ?_) (fun q3 => ?_)
        · refine sw_aload_n O (xx_dt dd_X4_objection 30 rfl) rfl ?_
          refine sw_get (v := .ref 1130) O (xx_dt dd_X4_objection 31 rfl) cl_X4 fl_X4_11 (ly_1004 σ h) (by decide) rfl ?_
          refine sw_iload_n O (xx_dt dd_X4_objection 32 rfl) rfl ?_
          refine sw_aaload (v := .ref (1131 + w)) O (xx_dt dd_X4_objection 33 rfl) (by omega) (by omega) (ly_1130 σ h) (pk_in w _ (by omega)) (by rw [nI_clamp (by omega)]) ?_
          refine sw_iload O (xx_dt dd_X4_objection 34 rfl) rfl ?_
          refine sw_iaload (v := .int (σ (1131 + w) i11)) O (xx_dt dd_X4_objection 35 rfl) (lr_1130 σ h (k := w) (by omega)) (pk_in i11 _ (by omega)) (by rw [nI_clamp (by omega)]) ?_
          refine sw_isub O (xx_dt dd_X4_objection 36 rfl) ?_
          refine sw_istore (ls2 := [.ref 1004, .ref 1003, .int (nI S), .int (nI w), .int (s11 - (σ (1131 + w) i11)), .int (nI i11), .int 0]) O (xx_dt dd_X4_objection 37 rfl) (by decide) rfl ?_
          refine sw_iinc (y := nI (i11 + 1)) (ls2 := [.ref 1004, .ref 1003, .int (nI S), .int (nI w), .int (s11 - (σ (1131 + w) i11)), .int (nI (i11 + 1)), .int 0]) O (xx_dt dd_X4_objection 38 rfl) rfl (nI_1 _) (by decide) rfl ?_
          refine sw_goto (tgt := 11) O (xx_dt dd_X4_objection 39 rfl) (by decide) ?_
          refine sw_dum (ls2 := [.ref 1004, .ref 1003, .int (nI S), .int (nI w), .int (s11 - (σ (1131 + w) i11)), .int (nI (i11 + 1)), xx_d]) ⟨.inr rfl, .inr rfl, .inr rfl, .inr rfl, .inr rfl, .inr rfl, .inl rfl, trivial⟩ ?_
          simp only [if_pos q2] at kk11
          exact kk11
        · exact absurd q3 (by decide)
      · refine sw_iconst (x := 1) O (xx_dt dd_X4_objection 16 rfl) (by decide) ?_
        refine sw_goto (tgt := 32) O (xx_dt dd_X4_objection 17 rfl) (by decide) ?_
        refine sw_istore (ls2 := [.ref 1004, .ref 1003, .int (nI S), .int (nI w), .int s11, .int (nI i11), .int 1]) O (xx_dt dd_X4_objection 19 rfl) (by decide) rfl ?_
        refine sw_iload O (xx_dt dd_X4_objection 20 rfl) rfl ?_
        refine sw_iload O (xx_dt dd_X4_objection 21 rfl) rfl ?_
        refine sw_if_eq (tgt := 53) O (xx_dt dd_X4_objection 22 rfl) (by decide) (fun q4 => ?_) (fun q4 => ?_)
        · exact absurd q4 (by decide)
        · refine sw_aload_n O (xx_dt dd_X4_objection 23 rfl) rfl ?_
          refine sw_get (v := .ref 1130) O (xx_dt dd_X4_objection 24 rfl) cl_X4 fl_X4_11 (ly_1004 σ h) (by decide) rfl ?_
          refine sw_iconst (x := 0) O (xx_dt dd_X4_objection 25 rfl) (by decide) ?_
          refine sw_aaload (v := .ref (1131 + 0)) O (xx_dt dd_X4_objection 26 rfl) (by omega) (by omega) (ly_1130 σ h) (by unfold vp_in; decide) rfl ?_
          refine sw_iload O (xx_dt dd_X4_objection 27 rfl) rfl ?_
          refine sw_iaload (v := .int (σ (1131 + 0) i11)) O (xx_dt dd_X4_objection 28 rfl) (lr_1130 σ h (k := 0) (by omega)) (pk_in i11 _ (by omega)) (by rw [nI_clamp (by omega)]) ?_
          refine sw_goto (tgt := 62) O (xx_dt dd_X4_objection 29 rfl) (by decide) ?_
          refine sw_isub O (xx_dt dd_X4_objection 36 rfl) ?_
          refine sw_istore (ls2 := [.ref 1004, .ref 1003, .int (nI S), .int (nI w), .int (s11 - (σ (1131 + 0) i11)), .int (nI i11), .int 1]) O (xx_dt dd_X4_objection 37 rfl) (by decide) rfl ?_
          refine sw_iinc (y := nI (i11 + 1)) (ls2 := [.ref 1004, .ref 1003, .int (nI S), .int (nI w), .int (s11 - (σ (1131 + 0) i11)), .int (nI (i11 + 1)), .int 1]) O (xx_dt dd_X4_objection 38 rfl) rfl (nI_1 _) (by decide) rfl ?_
          refine sw_goto (tgt := 11) O (xx_dt dd_X4_objection 39 rfl) (by decide) ?_
          refine sw_dum (ls2 := [.ref 1004, .ref 1003, .int (nI S), .int (nI w), .int (s11 - (σ (1131 + 0) i11)), .int (nI (i11 + 1)), xx_d]) ⟨.inr rfl, .inr rfl, .inr rfl, .inr rfl, .inr rfl, .inr rfl, .inl rfl, trivial⟩ ?_
          simp only [if_neg q2] at kk11
          exact kk11
  · show SW Y _ _ (setC σ h) 11 [.ref 1004, .ref 1003, .int (nI S), .int (nI w), .int (x_objection_11 σ S w (σ 1041 S)), .int (nI 6), xx_d] []
    refine sw_iload O (xx_dt dd_X4_objection 7 rfl) rfl ?_
    refine sw_bipush (x := 6) O (xx_dt dd_X4_objection 8 rfl) (by decide) ?_
    refine sw_icmp_ge (tgt := 71) O (xx_dt dd_X4_objection 9 rfl) (by decide) (fun q1 => ?_) (fun q1 => ?_)
    · refine sw_iload O (xx_dt dd_X4_objection 40 rfl) rfl ?_
      exact sw_iret O (xx_dt dd_X4_objection 41 rfl) rfl rfl (by rw [hQ]; exact ⟨by unfold f_objection; rfl, rfl⟩)
    · exact absurd (Int32.le_refl _) q1
def x_raiseEach_6 (σ : XS9) (x y z : Int32) (s0 : XS9 × Int32) : XS9 × Int32 := xit (fun i6 s6 => (if z < (s6.2 + y) then (s6.1, s6.2) else (if (f_roomOutside s6.1 x i6) < y then (s6.1, s6.2) else (u2 s6.1 (1131 + 2) i6 ((s6.1 (1131 + 2) i6) + y), s6.2 + y)))) 6 0 s0
def f_raiseEach (σ : XS9) (x y z : Int32) : Int32 := (x_raiseEach_6 σ x y z (σ, 0)).2
def g_raiseEach (σ : XS9) (x y z : Int32) : XS9 := (x_raiseEach_6 σ x y z (σ, 0)).1
theorem ct_X4_raiseEach {l : Launch} {h : XH} (hl : l.stackTraces = false) {σ : XS9} {x y z : Int32} : XEx l m_X4_raiseEach 1 0 0 [.ref 1004, .int x, .int y, .int z] (setC σ h) (some (.int (f_raiseEach σ x y z))) (setC (g_raiseEach σ x y z) h) := by
  refine XMet.of hl rfl rfl (Nat.le_of_ble_eq_true rfl) (fun Y O hh hQ => ?_)
  show SW Y 0 0 (setC σ h) 0 [.ref 1004, .int x, .int y, .int z, xx_d, xx_d] []
  refine sw_iconst (x := 0) O (xx_dt dd_X4_raiseEach 0 rfl) (by decide) ?_
  refine sw_istore (ls2 := [.ref 1004, .int x, .int y, .int z, .int 0, xx_d]) O (xx_dt dd_X4_raiseEach 1 rfl) (by decide) rfl ?_
  refine sw_iconst (x := 0) O (xx_dt dd_X4_raiseEach 2 rfl) (by decide) ?_
  refine sw_istore (ls2 := [.ref 1004, .int x, .int y, .int z, .int 0, .int 0]) O (xx_dt dd_X4_raiseEach 3 rfl) (by decide) rfl ?_
  refine sw_for (fun i6 s6 => (if z < (s6.2 + y) then (s6.1, s6.2) else (if (f_roomOutside s6.1 x i6) < y then (s6.1, s6.2) else (u2 s6.1 (1131 + 2) i6 ((s6.1 (1131 + 2) i6) + y), s6.2 + y)))) (fun _ _ => True) (hp := fun s6 => setC s6.1 h) (hd := 6) (lc := fun i6 s6 => [.ref 1004, .int x, .int y, .int z, .int s6.2, .int (nI i6)]) (N := 6) (fun i6 s6 hi6 hP6 => ⟨trivial, fun kk6 => ?_⟩) 6 0 (σ, 0) (by omega) (trivial) (fun hP6 => ?_)
  · refine sw_iload O (xx_dt dd_X4_raiseEach 4 rfl) rfl ?_
    refine sw_bipush (x := 6) O (xx_dt dd_X4_raiseEach 5 rfl) (by decide) ?_
    refine sw_icmp_ge (tgt := 57) O (xx_dt dd_X4_raiseEach 6 rfl) (by decide) (fun q1 => ?_) (fun q1 => ?_)
    · exact absurd q1 (nI_ge (b := 6) hi6 (by omega))
    · refine sw_iload O (xx_dt dd_X4_raiseEach 7 rfl) rfl ?_
      refine sw_iload_n O (xx_dt dd_X4_raiseEach 8 rfl) rfl ?_
      refine sw_iadd O (xx_dt dd_X4_raiseEach 9 rfl) ?_
      refine sw_iload_n O (xx_dt dd_X4_raiseEach 10 rfl) rfl ?_
      refine sw_icmp_gt (tgt := 51) O (xx_dt dd_X4_raiseEach 11 rfl) (by decide) (fun q2 => ?_) (fun q2 => ?_)
      · refine sw_iinc (y := nI (i6 + 1)) (ls2 := [.ref 1004, .int x, .int y, .int z, .int s6.2, .int (nI (i6 + 1))]) O (xx_dt dd_X4_raiseEach 32 rfl) rfl (nI_1 _) (by decide) rfl ?_
        refine sw_goto (tgt := 6) O (xx_dt dd_X4_raiseEach 33 rfl) (by decide) ?_
        simp only [if_pos q2] at kk6
        exact kk6
      · refine sw_aload_n O (xx_dt dd_X4_raiseEach 12 rfl) rfl ?_
        refine sw_iload_n O (xx_dt dd_X4_raiseEach 13 rfl) rfl ?_
        refine sw_iload O (xx_dt dd_X4_raiseEach 14 rfl) rfl ?_
        refine sw_callVx (as := [.int x, .int (nI i6)]) (st := []) (st2 := [.int (f_roomOutside s6.1 x i6)]) O (ct_X4_roomOutside hl (σ := s6.1) (x := x) (i := i6) (by omega)) ce_X4_roomOutside ml_X4_45 iv_X4_roomOutside cl_X4 rfl (ly_1004 s6.1 h) (xx_dt dd_X4_raiseEach 15 rfl) (by decide) rfl rfl (Nat.le_of_ble_eq_true rfl) rfl ?_
        refine sw_iload_n O (xx_dt dd_X4_raiseEach 16 rfl) rfl ?_
        refine sw_icmp_lt (tgt := 51) O (xx_dt dd_X4_raiseEach 17 rfl) (by decide) (fun q3 => ?_) (fun q3 => ?_)
        · refine sw_iinc (y := nI (i6 + 1)) (ls2 := [.ref 1004, .int x, .int y, .int z, .int s6.2, .int (nI (i6 + 1))]) O (xx_dt dd_X4_raiseEach 32 rfl) rfl (nI_1 _) (by decide) rfl ?_
          refine sw_goto (tgt := 6) O (xx_dt dd_X4_raiseEach 33 rfl) (by decide) ?_
          simp only [if_neg q2, if_pos q3] at kk6
          exact kk6
        · refine sw_aload_n O (xx_dt dd_X4_raiseEach 18 rfl) rfl ?_
          refine sw_get (v := .ref 1130) O (xx_dt dd_X4_raiseEach 19 rfl) cl_X4 fl_X4_11 (ly_1004 s6.1 h) (by decide) rfl ?_
          refine sw_iconst (x := 2) O (xx_dt dd_X4_raiseEach 20 rfl) (by decide) ?_
          refine sw_aaload (v := .ref (1131 + 2)) O (xx_dt dd_X4_raiseEach 21 rfl) (by omega) (by omega) (ly_1130 s6.1 h) (by unfold vp_in; decide) rfl ?_
          refine sw_iload O (xx_dt dd_X4_raiseEach 22 rfl) rfl ?_
          refine sw_dup2 O (xx_dt dd_X4_raiseEach 23 rfl) rfl rfl ?_
          refine sw_iaload (v := .int (s6.1 (1131 + 2) i6)) O (xx_dt dd_X4_raiseEach 24 rfl) (lr_1130 s6.1 h (k := 2) (by omega)) (pk_in i6 _ (by omega)) (by rw [nI_clamp (by omega)]) ?_
          refine sw_iload_n O (xx_dt dd_X4_raiseEach 25 rfl) rfl ?_
          refine sw_iadd O (xx_dt dd_X4_raiseEach 26 rfl) ?_
          refine sw_iastore (h2 := setC (u2 s6.1 (1131 + 2) i6 ((s6.1 (1131 + 2) i6) + y)) h) O (xx_dt dd_X4_raiseEach 27 rfl) (lr_1130 s6.1 h (k := 2) (by omega)) (pk_in i6 _ (by omega)) (by omega) (by rw [nI_clamp (by omega)]; exact (pr_1130 (by omega))) ?_
          refine sw_iload O (xx_dt dd_X4_raiseEach 28 rfl) rfl ?_
          refine sw_iload_n O (xx_dt dd_X4_raiseEach 29 rfl) rfl ?_
          refine sw_iadd O (xx_dt dd_X4_raiseEach 30 rfl) ?_
          refine sw_istore (ls2 := [.ref 1004, .int x, .int y, .int z, .int (s6.2 + y), .int (nI i6)]) O (xx_dt dd_X4_raiseEach 31 rfl) (by decide) rfl ?_
          refine sw_iinc (y := nI (i6 + 1)) (ls2 := [.ref 1004, .int x, .int y, .int z, .int (s6.2 + y), .int (nI (i6 + 1))]) O (xx_dt dd_X4_raiseEach 32 rfl) rfl (nI_1 _) (by decide) rfl ?_
          refine sw_goto (tgt := 6) O (xx_dt dd_X4_raiseEach 33 rfl) (by decide) ?_
          simp only [if_neg q2, if_neg q3] at kk6
          exact kk6
  · show SW Y _ _ (setC ((x_raiseEach_6 σ x y z (σ, 0)).1) h) 6 [.ref 1004, .int x, .int y, .int z, .int ((x_raiseEach_6 σ x y z (σ, 0)).2), .int (nI 6)] []
    refine sw_iload O (xx_dt dd_X4_raiseEach 4 rfl) rfl ?_
    refine sw_bipush (x := 6) O (xx_dt dd_X4_raiseEach 5 rfl) (by decide) ?_
    refine sw_icmp_ge (tgt := 57) O (xx_dt dd_X4_raiseEach 6 rfl) (by decide) (fun q1 => ?_) (fun q1 => ?_)
    · refine sw_iload O (xx_dt dd_X4_raiseEach 34 rfl) rfl ?_
      exact sw_iret O (xx_dt dd_X4_raiseEach 35 rfl) rfl rfl (by rw [hQ]; exact ⟨by unfold f_raiseEach; rfl, by unfold g_raiseEach; rfl⟩)
    · exact absurd (Int32.le_refl _) q1
/-! ===== Market ===== -/
def f_isOut (σ : XS9) (i : Nat) : Int32 := (if ((σ 1003 5) &&& (1 <<< ((nI i) &&& 31))) = 0 then 0 else 1)
theorem ct_X2_isOut {l : Launch} {h : XH} (hl : l.stackTraces = false) {σ : XS9} {i : Nat} : XEx l m_X2_isOut 0 0 0 [.ref 1003, .int (nI i)] (setC σ h) (some (.int (f_isOut σ i))) (setC σ h) := by
  refine XMet.of hl rfl rfl (Nat.le_of_ble_eq_true rfl) (fun Y O hh hQ => ?_)
  show SW Y 0 0 (setC σ h) 0 [.ref 1003, .int (nI i)] []
  refine sw_aload_n O (xx_dt dd_X2_isOut 0 rfl) rfl ?_
  refine sw_get (v := .int (σ 1003 5)) O (xx_dt dd_X2_isOut 1 rfl) cl_X2 fl_X2_50 (ly_1003 σ h) (by decide) rfl ?_
  refine sw_iconst (x := 1) O (xx_dt dd_X2_isOut 2 rfl) (by decide) ?_
  refine sw_iload_n O (xx_dt dd_X2_isOut 3 rfl) rfl ?_
  refine sw_ishl O (xx_dt dd_X2_isOut 4 rfl) ?_
  refine sw_iand O (xx_dt dd_X2_isOut 5 rfl) ?_
  refine sw_if_eq (tgt := 15) O (xx_dt dd_X2_isOut 6 rfl) (by decide) (fun q1 => ?_) (fun q1 => ?_)
  · refine sw_iconst (x := 0) O (xx_dt dd_X2_isOut 9 rfl) (by decide) ?_
    exact sw_iret O (xx_dt dd_X2_isOut 10 rfl) rfl rfl (by rw [hQ]; exact ⟨by unfold f_isOut; simp only [if_pos q1], rfl⟩)
  · refine sw_iconst (x := 1) O (xx_dt dd_X2_isOut 7 rfl) (by decide) ?_
    refine sw_goto (tgt := 16) O (xx_dt dd_X2_isOut 8 rfl) (by decide) ?_
    exact sw_iret O (xx_dt dd_X2_isOut 10 rfl) rfl rfl (by rw [hQ]; exact ⟨by unfold f_isOut; simp only [if_neg q1], rfl⟩)
def x_winners_4 (σ : XS9)  (s0 : Int32) : Int32 := xit (fun i4 s4 => (if (σ 1040 i4) = (-1) then s4 else s4 + 1)) 6 0 s0
def f_winners (σ : XS9)  : Int32 := (x_winners_4 σ 0)
theorem ct_X2_winners {l : Launch} {h : XH} (hl : l.stackTraces = false) {σ : XS9}  : XEx l m_X2_winners 0 0 0 [.ref 1003] (setC σ h) (some (.int (f_winners σ))) (setC σ h) := by
  refine XMet.of hl rfl rfl (Nat.le_of_ble_eq_true rfl) (fun Y O hh hQ => ?_)
  show SW Y 0 0 (setC σ h) 0 [.ref 1003, xx_d, xx_d] []
  refine sw_iconst (x := 0) O (xx_dt dd_X2_winners 0 rfl) (by decide) ?_
  refine sw_istore_n (ls2 := [.ref 1003, .int 0, xx_d]) O (xx_dt dd_X2_winners 1 rfl) (by decide) rfl ?_
  refine sw_iconst (x := 0) O (xx_dt dd_X2_winners 2 rfl) (by decide) ?_
  refine sw_istore_n (ls2 := [.ref 1003, .int 0, .int 0]) O (xx_dt dd_X2_winners 3 rfl) (by decide) rfl ?_
  refine sw_for (fun i4 s4 => (if (σ 1040 i4) = (-1) then s4 else s4 + 1)) (fun _ _ => True) (hp := fun _ => setC σ h) (hd := 4) (lc := fun i4 s4 => [.ref 1003, .int s4, .int (nI i4)]) (N := 6) (fun i4 s4 hi4 hP4 => ⟨trivial, fun kk4 => ?_⟩) 6 0 0 (by omega) (trivial) (fun hP4 => ?_)
  · refine sw_iload_n O (xx_dt dd_X2_winners 4 rfl) rfl ?_
    refine sw_bipush (x := 6) O (xx_dt dd_X2_winners 5 rfl) (by decide) ?_
    refine sw_icmp_ge (tgt := 29) O (xx_dt dd_X2_winners 6 rfl) (by decide) (fun q1 => ?_) (fun q1 => ?_)
    · exact absurd q1 (nI_ge (b := 6) hi4 (by omega))
    · refine sw_aload_n O (xx_dt dd_X2_winners 7 rfl) rfl ?_
      refine sw_get (v := .ref 1040) O (xx_dt dd_X2_winners 8 rfl) cl_X2 fl_X2_23 (ly_1003 σ h) (by decide) rfl ?_
      refine sw_iload_n O (xx_dt dd_X2_winners 9 rfl) rfl ?_
      refine sw_iaload (v := .int (σ 1040 i4)) O (xx_dt dd_X2_winners 10 rfl) (ly_1040 σ h) (pk_in i4 _ (by omega)) (by rw [nI_clamp (by omega)]) ?_
      refine sw_iconst (x := (-1)) O (xx_dt dd_X2_winners 11 rfl) (by decide) ?_
      refine sw_icmp_eq (tgt := 23) O (xx_dt dd_X2_winners 12 rfl) (by decide) (fun q2 => ?_) (fun q2 => ?_)
      · refine sw_iinc (y := nI (i4 + 1)) (ls2 := [.ref 1003, .int s4, .int (nI (i4 + 1))]) O (xx_dt dd_X2_winners 14 rfl) rfl (nI_1 _) (by decide) rfl ?_
        refine sw_goto (tgt := 4) O (xx_dt dd_X2_winners 15 rfl) (by decide) ?_
        simp only [if_pos q2] at kk4
        exact kk4
      · refine sw_iinc (y := s4 + 1) (ls2 := [.ref 1003, .int (s4 + 1), .int (nI i4)]) O (xx_dt dd_X2_winners 13 rfl) rfl rfl (by decide) rfl ?_
        refine sw_iinc (y := nI (i4 + 1)) (ls2 := [.ref 1003, .int (s4 + 1), .int (nI (i4 + 1))]) O (xx_dt dd_X2_winners 14 rfl) rfl (nI_1 _) (by decide) rfl ?_
        refine sw_goto (tgt := 4) O (xx_dt dd_X2_winners 15 rfl) (by decide) ?_
        simp only [if_neg q2] at kk4
        exact kk4
  · show SW Y _ _ (setC σ h) 4 [.ref 1003, .int (x_winners_4 σ 0), .int (nI 6)] []
    refine sw_iload_n O (xx_dt dd_X2_winners 4 rfl) rfl ?_
    refine sw_bipush (x := 6) O (xx_dt dd_X2_winners 5 rfl) (by decide) ?_
    refine sw_icmp_ge (tgt := 29) O (xx_dt dd_X2_winners 6 rfl) (by decide) (fun q1 => ?_) (fun q1 => ?_)
    · refine sw_iload_n O (xx_dt dd_X2_winners 16 rfl) rfl ?_
      exact sw_iret O (xx_dt dd_X2_winners 17 rfl) rfl rfl (by rw [hQ]; exact ⟨by unfold f_winners; rfl, rfl⟩)
    · exact absurd (Int32.le_refl _) q1
def f_amountWon (σ : XS9) (i : Nat) : Int32 := (if (σ 1040 i) < 0 then 0 else (if 6 ≤ (σ 1040 i) then 0 else σ (1031 + i) (Int32.toNatClampNeg (σ 1040 i))))
theorem ct_X2_amountWon {l : Launch} {h : XH} (hl : l.stackTraces = false) {σ : XS9} {i : Nat} (hi : i < 6) : XEx l m_X2_amountWon 0 0 0 [.ref 1003, .int (nI i)] (setC σ h) (some (.int (f_amountWon σ i))) (setC σ h) := by
  refine XMet.of hl rfl rfl (Nat.le_of_ble_eq_true rfl) (fun Y O hh hQ => ?_)
  show SW Y 0 0 (setC σ h) 0 [.ref 1003, .int (nI i), xx_d] []
  refine sw_aload_n O (xx_dt dd_X2_amountWon 0 rfl) rfl ?_
  refine sw_get (v := .ref 1040) O (xx_dt dd_X2_amountWon 1 rfl) cl_X2 fl_X2_23 (ly_1003 σ h) (by decide) rfl ?_
  refine sw_iload_n O (xx_dt dd_X2_amountWon 2 rfl) rfl ?_
  refine sw_iaload (v := .int (σ 1040 i)) O (xx_dt dd_X2_amountWon 3 rfl) (ly_1040 σ h) (pk_in i _ (by omega)) (by rw [nI_clamp (by omega)]) ?_
  refine sw_istore_n (ls2 := [.ref 1003, .int (nI i), .int (σ 1040 i)]) O (xx_dt dd_X2_amountWon 4 rfl) (by decide) rfl ?_
  refine sw_iload_n O (xx_dt dd_X2_amountWon 5 rfl) rfl ?_
  refine sw_if_lt (tgt := 28) O (xx_dt dd_X2_amountWon 6 rfl) (by decide) (fun q1 => ?_) (fun q1 => ?_)
  · refine sw_iconst (x := 0) O (xx_dt dd_X2_amountWon 17 rfl) (by decide) ?_
    exact sw_iret O (xx_dt dd_X2_amountWon 18 rfl) rfl rfl (by rw [hQ]; exact ⟨by unfold f_amountWon; simp only [if_pos q1], rfl⟩)
  · refine sw_iload_n O (xx_dt dd_X2_amountWon 7 rfl) rfl ?_
    refine sw_bipush (x := 6) O (xx_dt dd_X2_amountWon 8 rfl) (by decide) ?_
    refine sw_icmp_ge (tgt := 28) O (xx_dt dd_X2_amountWon 9 rfl) (by decide) (fun q2 => ?_) (fun q2 => ?_)
    · refine sw_iconst (x := 0) O (xx_dt dd_X2_amountWon 17 rfl) (by decide) ?_
      exact sw_iret O (xx_dt dd_X2_amountWon 18 rfl) rfl rfl (by rw [hQ]; exact ⟨by unfold f_amountWon; simp only [if_neg q1, if_pos q2], rfl⟩)
    · refine sw_aload_n O (xx_dt dd_X2_amountWon 10 rfl) rfl ?_
      refine sw_get (v := .ref 1030) O (xx_dt dd_X2_amountWon 11 rfl) cl_X2 fl_X2_20 (ly_1003 σ h) (by decide) rfl ?_
      refine sw_iload_n O (xx_dt dd_X2_amountWon 12 rfl) rfl ?_
      refine sw_aaload (v := .ref (1031 + i)) O (xx_dt dd_X2_amountWon 13 rfl) (by omega) (by omega) (ly_1030 σ h) (pk_in i _ (by omega)) (by rw [nI_clamp (by omega)]) ?_
      refine sw_iload_n O (xx_dt dd_X2_amountWon 14 rfl) rfl ?_
      refine sw_iaload (v := .int (σ (1031 + i) (Int32.toNatClampNeg (σ 1040 i)))) O (xx_dt dd_X2_amountWon 15 rfl) (lr_1030 σ h (k := i) (by omega)) (vp_6 (by assumption) (by assumption)) rfl ?_
      refine sw_goto (tgt := 29) O (xx_dt dd_X2_amountWon 16 rfl) (by decide) ?_
      exact sw_iret O (xx_dt dd_X2_amountWon 18 rfl) rfl rfl (by rw [hQ]; exact ⟨by unfold f_amountWon; simp only [if_neg q1, if_neg q2], rfl⟩)
def f_blocksWon (σ : XS9) (i r : Nat) : Int32 := (if (σ 1040 i) < 0 then 0 else (if 6 ≤ (σ 1040 i) then 0 else f_many (σ (1022 + i) (Int32.toNatClampNeg (σ 1040 i))) r))
theorem ct_X2_blocksWon {l : Launch} {h : XH} (hl : l.stackTraces = false) {σ : XS9} {i r : Nat} (hi : i < 6) (hr : r < 5) : XEx l m_X2_blocksWon 1 0 0 [.ref 1003, .int (nI i), .int (nI r)] (setC σ h) (some (.int (f_blocksWon σ i r))) (setC σ h) := by
  refine XMet.of hl rfl rfl (Nat.le_of_ble_eq_true rfl) (fun Y O hh hQ => ?_)
  show SW Y 0 0 (setC σ h) 0 [.ref 1003, .int (nI i), .int (nI r), xx_d] []
  refine sw_aload_n O (xx_dt dd_X2_blocksWon 0 rfl) rfl ?_
  refine sw_get (v := .ref 1040) O (xx_dt dd_X2_blocksWon 1 rfl) cl_X2 fl_X2_23 (ly_1003 σ h) (by decide) rfl ?_
  refine sw_iload_n O (xx_dt dd_X2_blocksWon 2 rfl) rfl ?_
  refine sw_iaload (v := .int (σ 1040 i)) O (xx_dt dd_X2_blocksWon 3 rfl) (ly_1040 σ h) (pk_in i _ (by omega)) (by rw [nI_clamp (by omega)]) ?_
  refine sw_istore_n (ls2 := [.ref 1003, .int (nI i), .int (nI r), .int (σ 1040 i)]) O (xx_dt dd_X2_blocksWon 4 rfl) (by decide) rfl ?_
  refine sw_iload_n O (xx_dt dd_X2_blocksWon 5 rfl) rfl ?_
  refine sw_if_lt (tgt := 32) O (xx_dt dd_X2_blocksWon 6 rfl) (by decide) (fun q1 => ?_) (fun q1 => ?_)
  · refine sw_iconst (x := 0) O (xx_dt dd_X2_blocksWon 19 rfl) (by decide) ?_
    exact sw_iret O (xx_dt dd_X2_blocksWon 20 rfl) rfl rfl (by rw [hQ]; exact ⟨by unfold f_blocksWon; simp only [if_pos q1], rfl⟩)
  · refine sw_iload_n O (xx_dt dd_X2_blocksWon 7 rfl) rfl ?_
    refine sw_bipush (x := 6) O (xx_dt dd_X2_blocksWon 8 rfl) (by decide) ?_
    refine sw_icmp_ge (tgt := 32) O (xx_dt dd_X2_blocksWon 9 rfl) (by decide) (fun q2 => ?_) (fun q2 => ?_)
    · refine sw_iconst (x := 0) O (xx_dt dd_X2_blocksWon 19 rfl) (by decide) ?_
      exact sw_iret O (xx_dt dd_X2_blocksWon 20 rfl) rfl rfl (by rw [hQ]; exact ⟨by unfold f_blocksWon; simp only [if_neg q1, if_pos q2], rfl⟩)
    · refine sw_aload_n O (xx_dt dd_X2_blocksWon 10 rfl) rfl ?_
      refine sw_get (v := .ref 1021) O (xx_dt dd_X2_blocksWon 11 rfl) cl_X2 fl_X2_17 (ly_1003 σ h) (by decide) rfl ?_
      refine sw_iload_n O (xx_dt dd_X2_blocksWon 12 rfl) rfl ?_
      refine sw_aaload (v := .ref (1022 + i)) O (xx_dt dd_X2_blocksWon 13 rfl) (by omega) (by omega) (ly_1021 σ h) (pk_in i _ (by omega)) (by rw [nI_clamp (by omega)]) ?_
      refine sw_iload_n O (xx_dt dd_X2_blocksWon 14 rfl) rfl ?_
      refine sw_iaload (v := .int (σ (1022 + i) (Int32.toNatClampNeg (σ 1040 i)))) O (xx_dt dd_X2_blocksWon 15 rfl) (lr_1021 σ h (k := i) (by omega)) (vp_6 (by assumption) (by assumption)) rfl ?_
      refine sw_iload_n O (xx_dt dd_X2_blocksWon 16 rfl) rfl ?_
      refine sw_callSx (as := [.int (σ (1022 + i) (Int32.toNatClampNeg (σ 1040 i))), .int (nI r)]) (st := []) (st2 := [.int (f_many (σ (1022 + i) (Int32.toNatClampNeg (σ 1040 i))) r)]) O (ct_X0_many hl (c := σ (1022 + i) (Int32.toNatClampNeg (σ 1040 i))) (r := r) (by omega)) ce_X0_many ml_X2_54 st_X0_many (xx_dt dd_X2_blocksWon 17 rfl) (by decide) rfl rfl (Nat.le_of_ble_eq_true rfl) rfl ?_
      refine sw_goto (tgt := 33) O (xx_dt dd_X2_blocksWon 18 rfl) (by decide) ?_
      exact sw_iret O (xx_dt dd_X2_blocksWon 20 rfl) rfl rfl (by rw [hQ]; exact ⟨by unfold f_blocksWon; simp only [if_neg q1, if_neg q2], rfl⟩)
def x_isAhead_2 (f g : Nat → Int32) (s0 : Unit) : Unit ⊕ Int32 := xitR (fun i2 s2 => (if (f i2) = (g i2) then .inl () else (if (g i2) ≤ (f i2) then .inr 0 else .inr 1))) 6 0 s0
def f_isAhead (f g : Nat → Int32) : Int32 := (match (x_isAhead_2 f g ()) with | .inl s2 => 0 | .inr r2 => r2)
theorem ct_X2_isAhead {l : Launch} {h : XH} (hl : l.stackTraces = false) {a b : Nat} {f g : Nat → Int32} (ha : h a = some (100, 6, fun k => .int (f k))) (hb : h b = some (100, 6, fun k => .int (g k))) : XEx l m_X2_isAhead 0 0 0 [.ref a, .ref b] (h) (some (.int (f_isAhead f g))) (h) := by
  refine XMet.of hl rfl rfl (Nat.le_of_ble_eq_true rfl) (fun Y O hh hQ => ?_)
  show SW Y 0 0 (h) 0 [.ref a, .ref b, xx_d] []
  refine sw_iconst (x := 0) O (xx_dt dd_X2_isAhead 0 rfl) (by decide) ?_
  refine sw_istore_n (ls2 := [.ref a, .ref b, .int 0]) O (xx_dt dd_X2_isAhead 1 rfl) (by decide) rfl ?_
  refine sw_forR (R := Int32) (fun i2 s2 => (if (f i2) = (g i2) then .inl () else (if (g i2) ≤ (f i2) then .inr 0 else .inr 1))) (fun _ _ => True) (FR := fun r => f_isAhead f g = r) (hp := fun _ => h) (hd := 2) (lc := fun i2 s2 => [.ref a, .ref b, .int (nI i2)]) (N := 6) (fun i2 s2 hi2 hP2 => ⟨fun _ _ => trivial, fun kk2 kr2 => ?_⟩) 6 0 () (by omega) (trivial) (fun sN2 eN2 hP2 => ?_) (fun r2 eN2 => ?_)
  · refine sw_iload_n O (xx_dt dd_X2_isAhead 2 rfl) rfl ?_
    refine sw_bipush (x := 6) O (xx_dt dd_X2_isAhead 3 rfl) (by decide) ?_
    refine sw_icmp_ge (tgt := 38) O (xx_dt dd_X2_isAhead 4 rfl) (by decide) (fun q1 => ?_) (fun q1 => ?_)
    · exact absurd q1 (nI_ge (b := 6) hi2 (by omega))
    · refine sw_aload_n O (xx_dt dd_X2_isAhead 5 rfl) rfl ?_
      refine sw_iload_n O (xx_dt dd_X2_isAhead 6 rfl) rfl ?_
      refine sw_iaload (v := .int (f i2)) O (xx_dt dd_X2_isAhead 7 rfl) (ha) (pk_in i2 _ (by omega)) (by rw [nI_clamp (by omega)]) ?_
      refine sw_aload_n O (xx_dt dd_X2_isAhead 8 rfl) rfl ?_
      refine sw_iload_n O (xx_dt dd_X2_isAhead 9 rfl) rfl ?_
      refine sw_iaload (v := .int (g i2)) O (xx_dt dd_X2_isAhead 10 rfl) (hb) (pk_in i2 _ (by omega)) (by rw [nI_clamp (by omega)]) ?_
      refine sw_icmp_eq (tgt := 32) O (xx_dt dd_X2_isAhead 11 rfl) (by decide) (fun q2 => ?_) (fun q2 => ?_)
      · refine sw_iinc (y := nI (i2 + 1)) (ls2 := [.ref a, .ref b, .int (nI (i2 + 1))]) O (xx_dt dd_X2_isAhead 23 rfl) rfl (nI_1 _) (by decide) rfl ?_
        refine sw_goto (tgt := 2) O (xx_dt dd_X2_isAhead 24 rfl) (by decide) ?_
        exact kk2 () (by simp only [if_pos q2])
      · refine sw_aload_n O (xx_dt dd_X2_isAhead 12 rfl) rfl ?_
        refine sw_iload_n O (xx_dt dd_X2_isAhead 13 rfl) rfl ?_
        refine sw_iaload (v := .int (f i2)) O (xx_dt dd_X2_isAhead 14 rfl) (ha) (pk_in i2 _ (by omega)) (by rw [nI_clamp (by omega)]) ?_
        refine sw_aload_n O (xx_dt dd_X2_isAhead 15 rfl) rfl ?_
        refine sw_iload_n O (xx_dt dd_X2_isAhead 16 rfl) rfl ?_
        refine sw_iaload (v := .int (g i2)) O (xx_dt dd_X2_isAhead 17 rfl) (hb) (pk_in i2 _ (by omega)) (by rw [nI_clamp (by omega)]) ?_
        refine sw_icmp_ge (tgt := 30) O (xx_dt dd_X2_isAhead 18 rfl) (by decide) (fun q3 => ?_) (fun q3 => ?_)
        · refine sw_iconst (x := 0) O (xx_dt dd_X2_isAhead 21 rfl) (by decide) ?_
          exact sw_iret O (xx_dt dd_X2_isAhead 22 rfl) rfl rfl (by rw [hQ, kr2 0 (by simp only [if_neg q2, if_pos q3])]; exact ⟨rfl, rfl⟩)
        · refine sw_iconst (x := 1) O (xx_dt dd_X2_isAhead 19 rfl) (by decide) ?_
          refine sw_goto (tgt := 31) O (xx_dt dd_X2_isAhead 20 rfl) (by decide) ?_
          exact sw_iret O (xx_dt dd_X2_isAhead 22 rfl) rfl rfl (by rw [hQ, kr2 1 (by simp only [if_neg q2, if_neg q3])]; exact ⟨rfl, rfl⟩)
  · show SW Y _ _ (h) 2 [.ref a, .ref b, .int (nI 6)] []
    refine sw_iload_n O (xx_dt dd_X2_isAhead 2 rfl) rfl ?_
    refine sw_bipush (x := 6) O (xx_dt dd_X2_isAhead 3 rfl) (by decide) ?_
    refine sw_icmp_ge (tgt := 38) O (xx_dt dd_X2_isAhead 4 rfl) (by decide) (fun q1 => ?_) (fun q1 => ?_)
    · refine sw_iconst (x := 0) O (xx_dt dd_X2_isAhead 25 rfl) (by decide) ?_
      exact sw_iret O (xx_dt dd_X2_isAhead 26 rfl) rfl rfl (by rw [hQ]; exact ⟨by unfold f_isAhead; simp only [x_isAhead_2, eN2], rfl⟩)
    · exact absurd (Int32.le_refl _) q1
  · unfold f_isAhead; simp only [x_isAhead_2, eN2]
