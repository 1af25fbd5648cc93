section
/-! ===== StringBuilder and the strings it makes ===== -/
def xx_sb0 (v : Nat) : Nat → Value := updV (updV (fun j => defaultValue (tyJ4 j)) 0 (.ref v)) 1 (.int 0)
def xx_sb (v c : Nat) (b : Int32) : Nat → Value := updV (updV (xx_sb0 v) 2 (.int b)) 3 (.int (nI c))
theorem xx_sb_c {v c c2 : Nat} {b : Int32} : updV (xx_sb v c b) 3 (.int (nI c2)) = xx_sb v c2 b := by
  funext k
  unfold xx_sb updV
  by_cases e : k = 3
  · rw [if_pos e, if_pos e]
  · rw [if_neg e, if_neg e, if_neg e]
theorem xx_sb_b {v c : Nat} {b z : Int32} : updV (xx_sb v c b) 2 (.int z) = xx_sb v c z := by
  funext k
  unfold xx_sb updV
  by_cases e : k = 2
  · subst e; rfl
  · rw [if_neg e]
    by_cases e3 : k = 3
    · rw [if_pos e3, if_pos e3]
    · rw [if_neg e3, if_neg e3, if_neg e, if_neg e]
theorem xx_sb_0 {v : Nat} : xx_sb0 v = xx_sb v 0 0 := by
  funext k
  unfold xx_sb updV
  by_cases e3 : k = 3
  · subst e3; rfl
  · rw [if_neg e3]
    by_cases e : k = 2
    · subst e; rfl
    · rw [if_neg e]
theorem xx_ens {a : Nat} (ha : a ≤ 16) : nI a - (nI 16) >>> ((0 : Int32) &&& 31) ≤ 0 := by
  have : ∀ a : Fin 17, nI a.1 - (nI 16) >>> ((0 : Int32) &&& 31) ≤ 0 := by decide +kernel
  exact this ⟨a, by omega⟩
theorem xx_dg1 {x : Nat} (hx : x < 10) : ¬ -(nI x) ≤ (-10 : Int32) := by
  have : ∀ a : Fin 10, ¬ -(nI a.1) ≤ (-10 : Int32) := by decide +kernel
  exact this ⟨x, hx⟩
theorem xx_dg2 {x : Nat} (hx : x < 10) : (-100 : Int32) < -(nI x) := by
  have : ∀ a : Fin 10, (-100 : Int32) < -(nI a.1) := by decide +kernel
  exact this ⟨x, hx⟩
theorem xx_dg3 {x : Nat} (hx : x < 10) : (-9 : Int32) ≤ -(nI x) := by
  have : ∀ a : Fin 10, (-9 : Int32) ≤ -(nI a.1) := by decide +kernel
  exact this ⟨x, hx⟩
theorem xx_negneg {x : Nat} (hx : x < 10) : -(-(nI x)) = nI x := by
  have : ∀ a : Fin 10, -(-(nI a.1)) = nI a.1 := by decide +kernel
  exact this ⟨x, hx⟩
theorem xx_sub0 (x : Int32) : x - 0 = x := by simp
theorem xx_ge0 (x : Nat) (hx : x < 2147483648) : (0 : Int32) ≤ nI x := (nI_leI (a := 0) (b := x) (by omega) hx).mpr (Nat.zero_le _)
theorem xx_nlt0 (x : Nat) (hx : x < 2147483648) : ¬ nI x < (0 : Int32) := Int32.not_lt.mpr (xx_ge0 x hx)
theorem sb_isLatin1 {l : Launch} {h : XH} (hl : l.stackTraces = false) {r v c : Nat} {b : Int32} (hr : h r = some (1, 4, xx_sb v c b))  : XEx l m_J5_isLatin1_aae02 0 0 0 [.ref r] (h) (some (.int 1)) (h) := by
  refine XMet.of hl rfl rfl (Nat.le_of_ble_eq_true rfl) (fun Y O hh hQ => ?_)
  show SW Y 0 0 (h) 0 [.ref r] []
  refine sw_gets (i := 0) (z := 1) O (xx_dt dd_J5_isLatin1_aae02 0 rfl) rfl gs_J5_18 ?_
  refine sw_if_eq (tgt := 17) O (xx_dt dd_J5_isLatin1_aae02 1 rfl) (by decide) (fun q => absurd q (by decide)) (fun _ => ?_)
  refine sw_aload_n O (xx_dt dd_J5_isLatin1_aae02 2 rfl) rfl ?_
  refine sw_get2 (v := .int 0) O (xx_dt dd_J5_isLatin1_aae02 3 rfl) cl_J4 f2_J5_22 hr (by decide) rfl ?_
  refine sw_if_ne (tgt := 17) O (xx_dt dd_J5_isLatin1_aae02 4 rfl) (by decide) (fun q => absurd rfl q) (fun _ => ?_)
  refine sw_iconst (x := 1) O (xx_dt dd_J5_isLatin1_aae02 5 rfl) (by decide) ?_
  refine sw_goto (tgt := 18) O (xx_dt dd_J5_isLatin1_aae02 6 rfl) (by decide) ?_
  exact sw_iret O (xx_dt dd_J5_isLatin1_aae02 8 rfl) rfl rfl (by rw [hQ]; exact ⟨rfl, rfl⟩)
theorem sb_getValue {l : Launch} {h : XH} (hl : l.stackTraces = false) {r v c : Nat} {b : Int32} (hr : h r = some (1, 4, xx_sb v c b))  : XEx l m_J5_getValue_6d5f1 0 0 0 [.ref r] (h) (some (.ref v)) (h) := by
  refine XMet.of hl rfl rfl (Nat.le_of_ble_eq_true rfl) (fun Y O hh hQ => ?_)
  show SW Y 0 0 (h) 0 [.ref r] []
  refine sw_aload_n O (xx_dt dd_J5_getValue_6d5f1 0 rfl) rfl ?_
  refine sw_get2 (v := .ref v) O (xx_dt dd_J5_getValue_6d5f1 1 rfl) cl_J4 f2_J5_15 hr (by decide) rfl ?_
  exact sw_aret O (xx_dt dd_J5_getValue_6d5f1 2 rfl) rfl (.inr ⟨_, rfl⟩) (by rw [hQ]; exact ⟨rfl, rfl⟩)
theorem sb_length5 {l : Launch} {h : XH} (hl : l.stackTraces = false) {r v c : Nat} {b : Int32} (hr : h r = some (1, 4, xx_sb v c b))  : XEx l m_J5_length_8abf5 0 0 0 [.ref r] (h) (some (.int (nI c))) (h) := by
  refine XMet.of hl rfl rfl (Nat.le_of_ble_eq_true rfl) (fun Y O hh hQ => ?_)
  show SW Y 0 0 (h) 0 [.ref r] []
  refine sw_aload_n O (xx_dt dd_J5_length_8abf5 0 rfl) rfl ?_
  refine sw_get2 (v := .int (nI c)) O (xx_dt dd_J5_length_8abf5 1 rfl) cl_J4 f2_J5_79 hr (by decide) rfl ?_
  exact sw_iret O (xx_dt dd_J5_length_8abf5 2 rfl) rfl rfl (by rw [hQ]; exact ⟨rfl, rfl⟩)
theorem sb_length {l : Launch} {h : XH} (hl : l.stackTraces = false) {r v c : Nat} {b : Int32} (hr : h r = some (1, 4, xx_sb v c b))  : XEx l m_J4_length_8abf5 1 0 0 [.ref r] (h) (some (.int (nI c))) (h) := by
  refine XMet.of hl rfl rfl (Nat.le_of_ble_eq_true rfl) (fun Y O hh hQ => ?_)
  show SW Y 0 0 (h) 0 [.ref r] []
  refine sw_aload_n O (xx_dt dd_J4_length_8abf5 0 rfl) rfl ?_
  refine sw_callSUx (as := []) (st := []) (st2 := [.int (nI c)]) O (sb_length5 hl hr) ce_J5_length_8abf5 su_J4_343 cl_J4 (hr) (xx_dt dd_J4_length_8abf5 1 rfl) (by decide) rfl rfl (Nat.le_of_ble_eq_true rfl) rfl ?_
  exact sw_iret O (xx_dt dd_J4_length_8abf5 2 rfl) rfl rfl (by rw [hQ]; exact ⟨rfl, rfl⟩)
theorem sb_ens {l : Launch} {h : XH} (hl : l.stackTraces = false) {a : Nat} {r v c : Nat} {b : Int32} {G : Nat → Value} (hr : h r = some (1, 4, xx_sb v c b)) (hv : h v = some (102, 16, G)) (ha : a ≤ 16)  : XEx l m_J5_ensureCapacityInternal_d00df 0 0 0 [.ref r, .int (nI a)] (h) (none) (h) := by
  refine XMet.of hl rfl rfl (Nat.le_of_ble_eq_true rfl) (fun Y O hh hQ => ?_)
  show SW Y 0 0 (h) 0 [.ref r, .int (nI a), xx_d] []
  refine sw_aload_n O (xx_dt dd_J5_ensureCapacityInternal_d00df 0 rfl) rfl ?_
  refine sw_get2 (v := .ref v) O (xx_dt dd_J5_ensureCapacityInternal_d00df 1 rfl) cl_J4 f2_J5_15 hr (by decide) rfl ?_
  refine sw_alen (t := 102) O (xx_dt dd_J5_ensureCapacityInternal_d00df 2 rfl) (by omega) (by omega) hv ?_
  refine sw_aload_n O (xx_dt dd_J5_ensureCapacityInternal_d00df 3 rfl) rfl ?_
  refine sw_get2 (v := .int 0) O (xx_dt dd_J5_ensureCapacityInternal_d00df 4 rfl) cl_J4 f2_J5_22 hr (by decide) rfl ?_
  refine sw_ishr O (xx_dt dd_J5_ensureCapacityInternal_d00df 5 rfl) ?_
  refine sw_istore_n (ls2 := [.ref r, .int (nI a), .int ((nI 16) >>> (0 &&& 31))]) O (xx_dt dd_J5_ensureCapacityInternal_d00df 6 rfl) (by decide) rfl ?_
  refine sw_iload_n O (xx_dt dd_J5_ensureCapacityInternal_d00df 7 rfl) rfl ?_
  refine sw_iload_n O (xx_dt dd_J5_ensureCapacityInternal_d00df 8 rfl) rfl ?_
  refine sw_isub O (xx_dt dd_J5_ensureCapacityInternal_d00df 9 rfl) ?_
  refine sw_if_le (tgt := 38) O (xx_dt dd_J5_ensureCapacityInternal_d00df 10 rfl) (by decide) (fun _ => ?_) (fun q => absurd (xx_ens ha) q)
  exact sw_ret O (xx_dt dd_J5_ensureCapacityInternal_d00df 22 rfl) rfl (by rw [hQ]; exact ⟨rfl, rfl⟩)
theorem sb_canEnc {l : Launch} {h : XH} (hl : l.stackTraces = false) {x : Int32} (hx : ¬ (255 : Int32) < x)  : XEx l m_J1_canEncode_fc78d 0 0 0 [.int x] (h) (some (.int 1)) (h) := by
  refine XMet.of hl rfl rfl (Nat.le_of_ble_eq_true rfl) (fun Y O hh hQ => ?_)
  show SW Y 0 0 (h) 0 [.int x] []
  refine sw_iload_n O (xx_dt dd_J1_canEncode_fc78d 0 rfl) rfl ?_
  refine sw_sipush (x := 255) O (xx_dt dd_J1_canEncode_fc78d 1 rfl) (by decide) ?_
  refine sw_icmp_gt (tgt := 11) O (xx_dt dd_J1_canEncode_fc78d 2 rfl) (by decide) (fun q => absurd q (hx)) (fun _ => ?_)
  refine sw_iconst (x := 1) O (xx_dt dd_J1_canEncode_fc78d 3 rfl) (by decide) ?_
  refine sw_goto (tgt := 12) O (xx_dt dd_J1_canEncode_fc78d 4 rfl) (by decide) ?_
  exact sw_iret O (xx_dt dd_J1_canEncode_fc78d 6 rfl) rfl rfl (by rw [hQ]; exact ⟨rfl, rfl⟩)
theorem sb_appendC5 {l : Launch} {h : XH} (hl : l.stackTraces = false) {r v c : Nat} {b : Int32} {G : Nat → Value} (hr : h r = some (1, 4, xx_sb v c b)) (hv : h v = some (102, 16, G)) (h1 : 1000 ≤ r) (h9 : 1000 ≤ v) (hrv : r ≠ v) {x : Int32} (hc : c < 16) (hx : ¬ (255 : Int32) < x) (hx2 : x.toInt8.toInt32 = x) (hx3 : narrow .byte (.int x) = .int x)  : XEx l m_J5_append_3fe6f 1 0 0 [.ref r, .int x] (h) (some (.ref r)) (xx_up (xx_up h r (1, 4, xx_sb v (c + 1) b)) v (102, 16, updV G c (.int x))) := by
  refine XMet.of hl rfl rfl (Nat.le_of_ble_eq_true rfl) (fun Y O hh hQ => ?_)
  show SW Y 0 0 (h) 0 [.ref r, .int x] []
  refine sw_aload_n O (xx_dt dd_J5_append_3fe6f 0 rfl) rfl ?_
  refine sw_aload_n O (xx_dt dd_J5_append_3fe6f 1 rfl) rfl ?_
  refine sw_get2 (v := .int (nI c)) O (xx_dt dd_J5_append_3fe6f 2 rfl) cl_J4 f2_J5_79 hr (by decide) rfl ?_
  refine sw_iconst (x := 1) O (xx_dt dd_J5_append_3fe6f 3 rfl) (by decide) ?_
  refine sw_iadd O (xx_dt dd_J5_append_3fe6f 4 rfl) ?_
  rw [nI_a1]
  refine sw_callWx (as := [.int (nI (c + 1))]) (st := []) (st2 := []) O (sb_ens hl hr hv (a := c + 1) (by omega)) ce_J5_ensureCapacityInternal_d00df mk_J5_100 slc_J5_ensureCapacityInternal_d00df cl_J4 (hr) (xx_dt dd_J5_append_3fe6f 5 rfl) (by decide) rfl rfl (Nat.le_of_ble_eq_true rfl) rfl ?_
  refine sw_aload_n O (xx_dt dd_J5_append_3fe6f 6 rfl) rfl ?_
  refine sw_callWx (as := []) (st := []) (st2 := [.int 1]) O (sb_isLatin1 hl hr) ce_J5_isLatin1_aae02 mk_J5_83 slc_J5_isLatin1_aae02 cl_J4 (hr) (xx_dt dd_J5_append_3fe6f 7 rfl) (by decide) rfl rfl (Nat.le_of_ble_eq_true rfl) rfl ?_
  refine sw_if_eq (tgt := 45) O (xx_dt dd_J5_append_3fe6f 8 rfl) (by decide) (fun q => absurd q (by decide)) (fun _ => ?_)
  refine sw_iload_n O (xx_dt dd_J5_append_3fe6f 9 rfl) rfl ?_
  refine sw_callSx (as := [.int x]) (st := []) (st2 := [.int 1]) O (sb_canEnc hl hx) ce_J1_canEncode_fc78d ml_J5_191 st_J1_canEncode_fc78d (xx_dt dd_J5_append_3fe6f 10 rfl) (by decide) rfl rfl (Nat.le_of_ble_eq_true rfl) rfl ?_
  refine sw_if_eq (tgt := 45) O (xx_dt dd_J5_append_3fe6f 11 rfl) (by decide) (fun q => absurd q (by decide)) (fun _ => ?_)
  refine sw_aload_n O (xx_dt dd_J5_append_3fe6f 12 rfl) rfl ?_
  refine sw_get2 (v := .ref v) O (xx_dt dd_J5_append_3fe6f 13 rfl) cl_J4 f2_J5_15 hr (by decide) rfl ?_
  refine sw_aload_n O (xx_dt dd_J5_append_3fe6f 14 rfl) rfl ?_
  refine sw_dup O (xx_dt dd_J5_append_3fe6f 15 rfl) rfl ?_
  refine sw_get2 (v := .int (nI c)) O (xx_dt dd_J5_append_3fe6f 16 rfl) cl_J4 f2_J5_79 hr (by decide) rfl ?_
  refine sw_dup_x1 O (xx_dt dd_J5_append_3fe6f 17 rfl) rfl rfl ?_
  refine sw_iconst (x := 1) O (xx_dt dd_J5_append_3fe6f 18 rfl) (by decide) ?_
  refine sw_iadd O (xx_dt dd_J5_append_3fe6f 19 rfl) ?_
  rw [nI_a1]
  refine sw_put2 (h2 := xx_up h r (1, 4, xx_sb v (c + 1) b)) O (xx_dt dd_J5_append_3fe6f 20 rfl) cl_J4 f2_J5_79 hr (by decide) h1 rfl (fun _ => ⟨rfl, rfl⟩) (by rw [xx_sb_c]) ?_
  refine sw_iload_n O (xx_dt dd_J5_append_3fe6f 21 rfl) rfl ?_
  refine sw_i2b O (xx_dt dd_J5_append_3fe6f 22 rfl) ?_
  rw [hx2]
  refine sw_bastore (h2 := xx_up (xx_up h r (1, 4, xx_sb v (c + 1) b)) v (102, 16, updV G c (.int x))) O (xx_dt dd_J5_append_3fe6f 23 rfl) (by rw [xx_up_ne (Ne.symm hrv)]; exact hv) (pk_in c _ (by omega)) h9 hx3 (by rw [nI_clamp (by omega)]) ?_
  refine sw_goto (tgt := 75) O (xx_dt dd_J5_append_3fe6f 24 rfl) (by decide) ?_
  refine sw_aload_n O (xx_dt dd_J5_append_3fe6f 41 rfl) rfl ?_
  exact sw_aret O (xx_dt dd_J5_append_3fe6f 42 rfl) rfl (.inl ⟨_, rfl⟩) (by rw [hQ]; exact ⟨rfl, rfl⟩)
theorem sb_appendC {l : Launch} {h : XH} (hl : l.stackTraces = false) {r v c : Nat} {b : Int32} {G : Nat → Value} (hr : h r = some (1, 4, xx_sb v c b)) (hv : h v = some (102, 16, G)) (h1 : 1000 ≤ r) (h9 : 1000 ≤ v) (hrv : r ≠ v) {x : Int32} (hc : c < 16) (hx : ¬ (255 : Int32) < x) (hx2 : x.toInt8.toInt32 = x) (hx3 : narrow .byte (.int x) = .int x)  : XEx l m_J4_append_cf468 2 0 0 [.ref r, .int x] (h) (some (.ref r)) (xx_up (xx_up h r (1, 4, xx_sb v (c + 1) b)) v (102, 16, updV G c (.int x))) := by
  refine XMet.of hl rfl rfl (Nat.le_of_ble_eq_true rfl) (fun Y O hh hQ => ?_)
  show SW Y 0 0 (h) 0 [.ref r, .int x] []
  refine sw_aload_n O (xx_dt dd_J4_append_cf468 0 rfl) rfl ?_
  refine sw_iload_n O (xx_dt dd_J4_append_cf468 1 rfl) rfl ?_
  refine sw_callSUx (as := [.int x]) (st := []) (st2 := [.ref r]) O (sb_appendC5 hl hr hv h1 h9 hrv hc hx hx2 hx3) ce_J5_append_3fe6f su_J4_50 cl_J4 (hr) (xx_dt dd_J4_append_cf468 2 rfl) (by decide) rfl rfl (Nat.le_of_ble_eq_true rfl) rfl ?_
  refine sw_pop O (xx_dt dd_J4_append_cf468 3 rfl) rfl ?_
  refine sw_aload_n O (xx_dt dd_J4_append_cf468 4 rfl) rfl ?_
  exact sw_aret O (xx_dt dd_J4_append_cf468 5 rfl) rfl (.inl ⟨_, rfl⟩) (by rw [hQ]; exact ⟨rfl, rfl⟩)
theorem sb_size {l : Launch} {h : XH} (hl : l.stackTraces = false) {x : Nat} (hx : x < 10)  : XEx l m_J6_stringSize_0f7a4 0 0 0 [.int (nI x)] (h) (some (.int 1)) (h) := by
  refine XMet.of hl rfl rfl (Nat.le_of_ble_eq_true rfl) (fun Y O hh hQ => ?_)
  show SW Y 0 0 (h) 0 [.int (nI x), xx_d, xx_d, xx_d] []
  refine sw_iconst (x := 1) O (xx_dt dd_J6_stringSize_0f7a4 0 rfl) (by decide) ?_
  refine sw_istore_n (ls2 := [.int (nI x), .int 1, xx_d, xx_d]) O (xx_dt dd_J6_stringSize_0f7a4 1 rfl) (by decide) rfl ?_
  refine sw_iload_n O (xx_dt dd_J6_stringSize_0f7a4 2 rfl) rfl ?_
  refine sw_if_lt (tgt := 11) O (xx_dt dd_J6_stringSize_0f7a4 3 rfl) (by decide) (fun q => absurd q (xx_nlt0 x (by omega))) (fun _ => ?_)
  refine sw_iconst (x := 0) O (xx_dt dd_J6_stringSize_0f7a4 4 rfl) (by decide) ?_
  refine sw_istore_n (ls2 := [.int (nI x), .int 0, xx_d, xx_d]) O (xx_dt dd_J6_stringSize_0f7a4 5 rfl) (by decide) rfl ?_
  refine sw_iload_n O (xx_dt dd_J6_stringSize_0f7a4 6 rfl) rfl ?_
  refine sw_ineg O (xx_dt dd_J6_stringSize_0f7a4 7 rfl) ?_
  refine sw_istore_n (ls2 := [.int (-(nI x)), .int 0, xx_d, xx_d]) O (xx_dt dd_J6_stringSize_0f7a4 8 rfl) (by decide) rfl ?_
  refine sw_bipush (x := (-10)) O (xx_dt dd_J6_stringSize_0f7a4 9 rfl) (by decide) ?_
  refine sw_istore_n (ls2 := [.int (-(nI x)), .int 0, .int (-10), xx_d]) O (xx_dt dd_J6_stringSize_0f7a4 10 rfl) (by decide) rfl ?_
  refine sw_iconst (x := 1) O (xx_dt dd_J6_stringSize_0f7a4 11 rfl) (by decide) ?_
  refine sw_istore_n (ls2 := [.int (-(nI x)), .int 0, .int (-10), .int 1]) O (xx_dt dd_J6_stringSize_0f7a4 12 rfl) (by decide) rfl ?_
  refine sw_iload_n O (xx_dt dd_J6_stringSize_0f7a4 13 rfl) rfl ?_
  refine sw_bipush (x := 10) O (xx_dt dd_J6_stringSize_0f7a4 14 rfl) (by decide) ?_
  refine sw_icmp_ge (tgt := 42) O (xx_dt dd_J6_stringSize_0f7a4 15 rfl) (by decide) (fun q => absurd q (by decide)) (fun _ => ?_)
  refine sw_iload_n O (xx_dt dd_J6_stringSize_0f7a4 16 rfl) rfl ?_
  refine sw_iload_n O (xx_dt dd_J6_stringSize_0f7a4 17 rfl) rfl ?_
  refine sw_icmp_le (tgt := 31) O (xx_dt dd_J6_stringSize_0f7a4 18 rfl) (by decide) (fun q => absurd q (xx_dg1 hx)) (fun _ => ?_)
  refine sw_iload_n O (xx_dt dd_J6_stringSize_0f7a4 19 rfl) rfl ?_
  refine sw_iload_n O (xx_dt dd_J6_stringSize_0f7a4 20 rfl) rfl ?_
  refine sw_iadd O (xx_dt dd_J6_stringSize_0f7a4 21 rfl) ?_
  rw [show (1 : Int32) + 0 = 1 by decide]
  exact sw_iret O (xx_dt dd_J6_stringSize_0f7a4 22 rfl) rfl rfl (by rw [hQ]; exact ⟨rfl, rfl⟩)
theorem sb_chars {l : Launch} {h : XH} (hl : l.stackTraces = false) {v c : Nat} {G : Nat → Value} (hv : h v = some (102, 16, G)) (h9 : 1000 ≤ v) (hc : c < 16) {x : Nat} {w : Int32} {F : Nat → Value} (hx : x < 10) (h4 : h 4 = some (102, 100, F)) (hw : F x = .int w) (hw3 : narrow .byte (.int w) = .int w)  : XEx l m_J6_getChars_ba4f3 0 0 0 [.int (nI x), .int (nI (c + 1)), .ref v] (h) (some (.int (nI c))) (xx_up h v (102, 16, updV G c (.int w))) := by
  refine XMet.of hl rfl rfl (Nat.le_of_ble_eq_true rfl) (fun Y O hh hQ => ?_)
  show SW Y 0 0 (h) 0 [.int (nI x), .int (nI (c + 1)), .ref v, xx_d, xx_d, xx_d, xx_d] []
  refine sw_iload_n O (xx_dt dd_J6_getChars_ba4f3 0 rfl) rfl ?_
  refine sw_istore (ls2 := [.int (nI x), .int (nI (c + 1)), .ref v, xx_d, xx_d, .int (nI (c + 1)), xx_d]) O (xx_dt dd_J6_getChars_ba4f3 1 rfl) (by decide) rfl ?_
  refine sw_iload_n O (xx_dt dd_J6_getChars_ba4f3 2 rfl) rfl ?_
  refine sw_if_ge (tgt := 11) O (xx_dt dd_J6_getChars_ba4f3 3 rfl) (by decide) (fun _ => ?_) (fun q => absurd (xx_ge0 x (by omega)) q)
  refine sw_iconst (x := 0) O (xx_dt dd_J6_getChars_ba4f3 6 rfl) (by decide) ?_
  refine sw_istore (ls2 := [.int (nI x), .int (nI (c + 1)), .ref v, xx_d, xx_d, .int (nI (c + 1)), .int 0]) O (xx_dt dd_J6_getChars_ba4f3 7 rfl) (by decide) rfl ?_
  refine sw_iload O (xx_dt dd_J6_getChars_ba4f3 8 rfl) rfl ?_
  refine sw_if_ne (tgt := 22) O (xx_dt dd_J6_getChars_ba4f3 9 rfl) (by decide) (fun q => absurd rfl q) (fun _ => ?_)
  refine sw_iload_n O (xx_dt dd_J6_getChars_ba4f3 10 rfl) rfl ?_
  refine sw_ineg O (xx_dt dd_J6_getChars_ba4f3 11 rfl) ?_
  refine sw_istore_n (ls2 := [.int (-(nI x)), .int (nI (c + 1)), .ref v, xx_d, xx_d, .int (nI (c + 1)), .int 0]) O (xx_dt dd_J6_getChars_ba4f3 12 rfl) (by decide) rfl ?_
  refine sw_iload_n O (xx_dt dd_J6_getChars_ba4f3 13 rfl) rfl ?_
  refine sw_bipush (x := (-100)) O (xx_dt dd_J6_getChars_ba4f3 14 rfl) (by decide) ?_
  refine sw_icmp_gt (tgt := 72) O (xx_dt dd_J6_getChars_ba4f3 15 rfl) (by decide) (fun _ => ?_) (fun q => absurd (xx_dg2 hx) q)
  refine sw_aload_n O (xx_dt dd_J6_getChars_ba4f3 43 rfl) rfl ?_
  refine sw_iinc (y := nI c) (ls2 := [.int (-(nI x)), .int (nI (c + 1)), .ref v, xx_d, xx_d, .int (nI c), .int 0]) O (xx_dt dd_J6_getChars_ba4f3 44 rfl) rfl (pk_m1 _) (by decide) rfl ?_
  refine sw_iload O (xx_dt dd_J6_getChars_ba4f3 45 rfl) rfl ?_
  refine sw_getsR (i := 4) (r := 4) O (xx_dt dd_J6_getChars_ba4f3 46 rfl) rfl gs_J6_83 h4 (by omega) ?_
  refine sw_iload_n O (xx_dt dd_J6_getChars_ba4f3 47 rfl) rfl ?_
  refine sw_ineg O (xx_dt dd_J6_getChars_ba4f3 48 rfl) ?_
  rw [xx_negneg hx]
  refine sw_baload (v := .int w) O (xx_dt dd_J6_getChars_ba4f3 49 rfl) h4 (pk_in x _ (by omega)) (by rw [nI_clamp (by omega)]; exact hw) ?_
  refine sw_bastore (h2 := xx_up h v (102, 16, updV G c (.int w))) O (xx_dt dd_J6_getChars_ba4f3 50 rfl) hv (pk_in c _ (by omega)) h9 hw3 (by rw [nI_clamp (by omega)]) ?_
  refine sw_iload_n O (xx_dt dd_J6_getChars_ba4f3 51 rfl) rfl ?_
  refine sw_bipush (x := (-9)) O (xx_dt dd_J6_getChars_ba4f3 52 rfl) (by decide) ?_
  refine sw_icmp_ge (tgt := 104) O (xx_dt dd_J6_getChars_ba4f3 53 rfl) (by decide) (fun _ => ?_) (fun q => absurd (xx_dg3 hx) q)
  refine sw_iload O (xx_dt dd_J6_getChars_ba4f3 62 rfl) rfl ?_
  refine sw_if_eq (tgt := 118) O (xx_dt dd_J6_getChars_ba4f3 63 rfl) (by decide) (fun _ => ?_) (fun q => absurd rfl q)
  refine sw_iload O (xx_dt dd_J6_getChars_ba4f3 69 rfl) rfl ?_
  exact sw_iret O (xx_dt dd_J6_getChars_ba4f3 70 rfl) rfl rfl (by rw [hQ]; exact ⟨rfl, rfl⟩)
theorem sb_appendI5 {l : Launch} {h : XH} (hl : l.stackTraces = false) {r v c : Nat} {b : Int32} {G : Nat → Value} (hr : h r = some (1, 4, xx_sb v c b)) (hv : h v = some (102, 16, G)) (h1 : 1000 ≤ r) (h9 : 1000 ≤ v) (hrv : r ≠ v) (hc : c < 16) {x : Nat} {w : Int32} {F : Nat → Value} (hx : x < 10) (h4 : h 4 = some (102, 100, F)) (hw : F x = .int w) (hw3 : narrow .byte (.int w) = .int w)  : XEx l m_J5_append_c97b9 1 0 0 [.ref r, .int (nI x)] (h) (some (.ref r)) (xx_up (xx_up h r (1, 4, xx_sb v (c + 1) b)) v (102, 16, updV G c (.int w))) := by
  refine XMet.of hl rfl rfl (Nat.le_of_ble_eq_true rfl) (fun Y O hh hQ => ?_)
  show SW Y 0 0 (h) 0 [.ref r, .int (nI x), xx_d, xx_d] []
  refine sw_aload_n O (xx_dt dd_J5_append_c97b9 0 rfl) rfl ?_
  refine sw_get2 (v := .int (nI c)) O (xx_dt dd_J5_append_c97b9 1 rfl) cl_J4 f2_J5_79 hr (by decide) rfl ?_
  refine sw_istore_n (ls2 := [.ref r, .int (nI x), .int (nI c), xx_d]) O (xx_dt dd_J5_append_c97b9 2 rfl) (by decide) rfl ?_
  refine sw_iload_n O (xx_dt dd_J5_append_c97b9 3 rfl) rfl ?_
  refine sw_iload_n O (xx_dt dd_J5_append_c97b9 4 rfl) rfl ?_
  refine sw_callSx (as := [.int (nI x)]) (st := [.int (nI c)]) (st2 := [.int 1, .int (nI c)]) O (sb_size hl hx) ce_J6_stringSize_0f7a4 ml_J5_245 st_J6_stringSize_0f7a4 (xx_dt dd_J5_append_c97b9 5 rfl) (by decide) rfl rfl (Nat.le_of_ble_eq_true rfl) rfl ?_
  refine sw_iadd O (xx_dt dd_J5_append_c97b9 6 rfl) ?_
  rw [nI_a1]
  refine sw_istore_n (ls2 := [.ref r, .int (nI x), .int (nI c), .int (nI (c + 1))]) O (xx_dt dd_J5_append_c97b9 7 rfl) (by decide) rfl ?_
  refine sw_aload_n O (xx_dt dd_J5_append_c97b9 8 rfl) rfl ?_
  refine sw_iload_n O (xx_dt dd_J5_append_c97b9 9 rfl) rfl ?_
  refine sw_callWx (as := [.int (nI (c + 1))]) (st := []) (st2 := []) O (sb_ens hl hr hv (a := c + 1) (by omega)) ce_J5_ensureCapacityInternal_d00df mk_J5_100 slc_J5_ensureCapacityInternal_d00df cl_J4 (hr) (xx_dt dd_J5_append_c97b9 10 rfl) (by decide) rfl rfl (Nat.le_of_ble_eq_true rfl) rfl ?_
  refine sw_aload_n O (xx_dt dd_J5_append_c97b9 11 rfl) rfl ?_
  refine sw_callWx (as := []) (st := []) (st2 := [.int 1]) O (sb_isLatin1 hl hr) ce_J5_isLatin1_aae02 mk_J5_83 slc_J5_isLatin1_aae02 cl_J4 (hr) (xx_dt dd_J5_append_c97b9 12 rfl) (by decide) rfl rfl (Nat.le_of_ble_eq_true rfl) rfl ?_
  refine sw_if_eq (tgt := 37) O (xx_dt dd_J5_append_c97b9 13 rfl) (by decide) (fun q => absurd q (by decide)) (fun _ => ?_)
  refine sw_iload_n O (xx_dt dd_J5_append_c97b9 14 rfl) rfl ?_
  refine sw_iload_n O (xx_dt dd_J5_append_c97b9 15 rfl) rfl ?_
  refine sw_aload_n O (xx_dt dd_J5_append_c97b9 16 rfl) rfl ?_
  refine sw_get2 (v := .ref v) O (xx_dt dd_J5_append_c97b9 17 rfl) cl_J4 f2_J5_15 hr (by decide) rfl ?_
  refine sw_callSx (as := [.int (nI x), .int (nI (c + 1)), .ref v]) (st := []) (st2 := [.int (nI c)]) O (sb_chars hl hv h9 hc hx h4 hw hw3) ce_J6_getChars_ba4f3 ml_J5_248 st_J6_getChars_ba4f3 (xx_dt dd_J5_append_c97b9 18 rfl) (by decide) rfl rfl (Nat.le_of_ble_eq_true rfl) rfl ?_
  refine sw_pop O (xx_dt dd_J5_append_c97b9 19 rfl) rfl ?_
  refine sw_goto (tgt := 48) O (xx_dt dd_J5_append_c97b9 20 rfl) (by decide) ?_
  refine sw_aload_n O (xx_dt dd_J5_append_c97b9 28 rfl) rfl ?_
  refine sw_iload_n O (xx_dt dd_J5_append_c97b9 29 rfl) rfl ?_
  refine sw_put2 (h2 := xx_up (xx_up h r (1, 4, xx_sb v (c + 1) b)) v (102, 16, updV G c (.int w))) O (xx_dt dd_J5_append_c97b9 30 rfl) cl_J4 f2_J5_79 (by rw [xx_up_ne hrv]; exact hr) (by decide) h1 rfl (fun _ => ⟨rfl, rfl⟩) (by rw [xx_sb_c]; exact (xx_up_sw hrv).symm) ?_
  refine sw_aload_n O (xx_dt dd_J5_append_c97b9 31 rfl) rfl ?_
  exact sw_aret O (xx_dt dd_J5_append_c97b9 32 rfl) rfl (.inl ⟨_, rfl⟩) (by rw [hQ]; exact ⟨rfl, rfl⟩)
theorem sb_appendI {l : Launch} {h : XH} (hl : l.stackTraces = false) {r v c : Nat} {b : Int32} {G : Nat → Value} (hr : h r = some (1, 4, xx_sb v c b)) (hv : h v = some (102, 16, G)) (h1 : 1000 ≤ r) (h9 : 1000 ≤ v) (hrv : r ≠ v) (hc : c < 16) {x : Nat} {w : Int32} {F : Nat → Value} (hx : x < 10) (h4 : h 4 = some (102, 100, F)) (hw : F x = .int w) (hw3 : narrow .byte (.int w) = .int w)  : XEx l m_J4_append_bf812 2 0 0 [.ref r, .int (nI x)] (h) (some (.ref r)) (xx_up (xx_up h r (1, 4, xx_sb v (c + 1) b)) v (102, 16, updV G c (.int w))) := by
  refine XMet.of hl rfl rfl (Nat.le_of_ble_eq_true rfl) (fun Y O hh hQ => ?_)
  show SW Y 0 0 (h) 0 [.ref r, .int (nI x)] []
  refine sw_aload_n O (xx_dt dd_J4_append_bf812 0 rfl) rfl ?_
  refine sw_iload_n O (xx_dt dd_J4_append_bf812 1 rfl) rfl ?_
  refine sw_callSUx (as := [.int (nI x)]) (st := []) (st2 := [.ref r]) O (sb_appendI5 hl hr hv h1 h9 hrv hc hx h4 hw hw3) ce_J5_append_c97b9 su_J4_53 cl_J4 (hr) (xx_dt dd_J4_append_bf812 2 rfl) (by decide) rfl rfl (Nat.le_of_ble_eq_true rfl) rfl ?_
  refine sw_pop O (xx_dt dd_J4_append_bf812 3 rfl) rfl ?_
  refine sw_aload_n O (xx_dt dd_J4_append_bf812 4 rfl) rfl ?_
  exact sw_aret O (xx_dt dd_J4_append_bf812 5 rfl) rfl (.inl ⟨_, rfl⟩) (by rw [hQ]; exact ⟨rfl, rfl⟩)
theorem sb_setLength5 {l : Launch} {h : XH} (hl : l.stackTraces = false) {r v c : Nat} {b : Int32} {G : Nat → Value} (hr : h r = some (1, 4, xx_sb v c b)) (hv : h v = some (102, 16, G)) (h1 : 1000 ≤ r) (h9 : 1000 ≤ v) (hrv : r ≠ v) (hc : c ≤ 16)  : XEx l m_J5_setLength_d00df 1 0 0 [.ref r, .int (nI 0)] (h) (none) (xx_up h r (1, 4, xx_sb v 0 (if c = 0 then b else 1))) := by
  refine XMet.of hl rfl rfl (Nat.le_of_ble_eq_true rfl) (fun Y O hh hQ => ?_)
  show SW Y 0 0 (h) 0 [.ref r, .int (nI 0)] []
  refine sw_iload_n O (xx_dt dd_J5_setLength_d00df 0 rfl) rfl ?_
  refine sw_if_ge (tgt := 13) O (xx_dt dd_J5_setLength_d00df 1 rfl) (by decide) (fun _ => ?_) (fun q => absurd (xx_ge0 0 (by omega)) q)
  refine sw_aload_n O (xx_dt dd_J5_setLength_d00df 7 rfl) rfl ?_
  refine sw_iload_n O (xx_dt dd_J5_setLength_d00df 8 rfl) rfl ?_
  refine sw_callWx (as := [.int (nI 0)]) (st := []) (st2 := []) O (sb_ens hl hr hv (a := 0) (by omega)) ce_J5_ensureCapacityInternal_d00df mk_J5_100 slc_J5_ensureCapacityInternal_d00df cl_J4 (hr) (xx_dt dd_J5_setLength_d00df 9 rfl) (by decide) rfl rfl (Nat.le_of_ble_eq_true rfl) rfl ?_
  refine sw_aload_n O (xx_dt dd_J5_setLength_d00df 10 rfl) rfl ?_
  refine sw_get2 (v := .int (nI c)) O (xx_dt dd_J5_setLength_d00df 11 rfl) cl_J4 f2_J5_79 hr (by decide) rfl ?_
  refine sw_iload_n O (xx_dt dd_J5_setLength_d00df 12 rfl) rfl ?_
  refine sw_icmp_ge (tgt := 63) O (xx_dt dd_J5_setLength_d00df 13 rfl) (by decide) (fun _ => ?_) (fun q => absurd (xx_ge0 c (by omega)) q)
  refine sw_aload_n O (xx_dt dd_J5_setLength_d00df 31 rfl) rfl ?_
  refine sw_get2 (v := .int (nI c)) O (xx_dt dd_J5_setLength_d00df 32 rfl) cl_J4 f2_J5_79 hr (by decide) rfl ?_
  refine sw_iload_n O (xx_dt dd_J5_setLength_d00df 33 rfl) rfl ?_
  refine sw_icmp_le (tgt := 76) O (xx_dt dd_J5_setLength_d00df 34 rfl) (by decide) (fun q => ?_) (fun q => ?_)
  · have hc0 : c = 0 := by have := (nI_leI (a := c) (b := 0) (by omega) (by omega)).mp q; omega
    refine sw_aload_n O (xx_dt dd_J5_setLength_d00df 38 rfl) rfl ?_
    refine sw_iload_n O (xx_dt dd_J5_setLength_d00df 39 rfl) rfl ?_
    refine sw_put2 (h2 := xx_up h r (1, 4, xx_sb v 0 b)) O (xx_dt dd_J5_setLength_d00df 40 rfl) cl_J4 f2_J5_79 hr (by decide) h1 rfl (fun _ => ⟨rfl, rfl⟩) (by rw [xx_sb_c]) ?_
    exact sw_ret O (xx_dt dd_J5_setLength_d00df 41 rfl) rfl (by rw [hQ]; exact ⟨rfl, by rw [if_pos hc0]⟩)
  · have hc0 : ¬ c = 0 := fun e => q (by rw [e]; exact Int32.le_refl _)
    refine sw_aload_n O (xx_dt dd_J5_setLength_d00df 35 rfl) rfl ?_
    refine sw_iconst (x := 1) O (xx_dt dd_J5_setLength_d00df 36 rfl) (by decide) ?_
    refine sw_put2 (h2 := xx_up h r (1, 4, xx_sb v c 1)) O (xx_dt dd_J5_setLength_d00df 37 rfl) cl_J4 f2_J5_73 hr (by decide) h1 rfl (fun _ => ⟨rfl, rfl⟩) (by rw [xx_sb_b]) ?_
    refine sw_aload_n O (xx_dt dd_J5_setLength_d00df 38 rfl) rfl ?_
    refine sw_iload_n O (xx_dt dd_J5_setLength_d00df 39 rfl) rfl ?_
    refine sw_put2 (h2 := xx_up h r (1, 4, xx_sb v 0 1)) O (xx_dt dd_J5_setLength_d00df 40 rfl) cl_J4 f2_J5_79 (xx_up_eq _ _ _) (by decide) h1 rfl (fun _ => ⟨rfl, rfl⟩) (by rw [xx_sb_c, xx_up_up]) ?_
    exact sw_ret O (xx_dt dd_J5_setLength_d00df 41 rfl) rfl (by rw [hQ]; exact ⟨rfl, by rw [if_neg hc0]⟩)
theorem sb_setLength {l : Launch} {h : XH} (hl : l.stackTraces = false) {r v c : Nat} {b : Int32} {G : Nat → Value} (hr : h r = some (1, 4, xx_sb v c b)) (hv : h v = some (102, 16, G)) (h1 : 1000 ≤ r) (h9 : 1000 ≤ v) (hrv : r ≠ v) (hc : c ≤ 16)  : XEx l m_J4_setLength_d00df 2 0 0 [.ref r, .int (nI 0)] (h) (none) (xx_up h r (1, 4, xx_sb v 0 (if c = 0 then b else 1))) := by
  refine XMet.of hl rfl rfl (Nat.le_of_ble_eq_true rfl) (fun Y O hh hQ => ?_)
  show SW Y 0 0 (h) 0 [.ref r, .int (nI 0)] []
  refine sw_aload_n O (xx_dt dd_J4_setLength_d00df 0 rfl) rfl ?_
  refine sw_iload_n O (xx_dt dd_J4_setLength_d00df 1 rfl) rfl ?_
  refine sw_callSUx (as := [.int (nI 0)]) (st := []) (st2 := []) O (sb_setLength5 hl hr hv h1 h9 hrv hc) ce_J5_setLength_d00df su_J4_333 cl_J4 (hr) (xx_dt dd_J4_setLength_d00df 2 rfl) (by decide) rfl rfl (Nat.le_of_ble_eq_true rfl) rfl ?_
  exact sw_ret O (xx_dt dd_J4_setLength_d00df 3 rfl) rfl (by rw [hQ]; exact ⟨rfl, rfl⟩)
theorem sb_init5 {l : Launch} {h : XH} (hl : l.stackTraces = false) {r v : Nat} (hr : h r = some (1, 4, fun j => defaultValue (tyJ4 j))) (h1 : 1000 ≤ r) (hv : h v = none) (h9 : 1000 ≤ v)  : XEx l m_J5_init_d00df 1 1 16 [.ref r, .int (nI 16)] (h) (none) (xx_up (xx_up h r (1, 4, xx_sb v 0 0)) v (102, 16, fun _ => .int 0)) := by
  refine XMet.of hl rfl rfl (Nat.le_of_ble_eq_true rfl) (fun Y O hh hQ => ?_)
  have hrv : r ≠ v := fun q => by rw [q, hv] at hr; cases hr
  show SW Y 1 16 (h) 0 [.ref r, .int (nI 16)] []
  refine sw_aload_n O (xx_dt dd_J5_init_d00df 0 rfl) rfl ?_
  refine sw_objInit O oi_J5_3 (xx_dt dd_J5_init_d00df 1 rfl) (by omega) (Nat.le_of_ble_eq_true rfl) ?_
  refine sw_gets (i := 0) (z := 1) O (xx_dt dd_J5_init_d00df 2 rfl) rfl gs_J5_18 ?_
  refine sw_if_eq (tgt := 25) O (xx_dt dd_J5_init_d00df 3 rfl) (by decide) (fun q => absurd q (by decide)) (fun _ => ?_)
  refine sw_aload_n O (xx_dt dd_J5_init_d00df 4 rfl) rfl ?_
  refine sw_iload_n O (xx_dt dd_J5_init_d00df 5 rfl) rfl ?_
  refine sw_newarray (k := 0) (n := 0) (t := 102) (N := 16) (r := v) O (xx_dt dd_J5_init_d00df 6 rfl) ⟨⟨by omega, by omega⟩, rfl⟩ ac_byte (by decide) (by decide) (by decide) hv h9 ?_
  rw [xx_blk_up, show (fun _ => defaultValue (newarray.typeOf .byte)) = (fun _ => Value.int 0 : Nat → Value) from rfl]
  refine sw_put2 (h2 := xx_up (xx_up h v (102, 16, fun _ => .int 0)) r (1, 4, updV (fun j => defaultValue (tyJ4 j)) 0 (.ref v))) O (xx_dt dd_J5_init_d00df 7 rfl) cl_J4 f2_J5_15 (by rw [xx_up_ne hrv]; exact hr) (by decide) h1 rfl (fun _ => ⟨rfl, rfl⟩) rfl ?_
  refine sw_aload_n O (xx_dt dd_J5_init_d00df 8 rfl) rfl ?_
  refine sw_iconst (x := 0) O (xx_dt dd_J5_init_d00df 9 rfl) (by decide) ?_
  refine sw_put2 (h2 := xx_up (xx_up h r (1, 4, xx_sb v 0 0)) v (102, 16, fun _ => .int 0)) O (xx_dt dd_J5_init_d00df 10 rfl) cl_J4 f2_J5_22 (xx_up_eq _ _ _) (by decide) h1 rfl (fun _ => ⟨rfl, rfl⟩) (by rw [xx_up_up, ← xx_sb_0]; exact (xx_up_sw hrv).symm) ?_
  refine sw_goto (tgt := 38) O (xx_dt dd_J5_init_d00df 11 rfl) (by decide) ?_
  exact sw_ret O (xx_dt dd_J5_init_d00df 19 rfl) rfl (by rw [hQ]; exact ⟨rfl, rfl⟩)
theorem sb_init {l : Launch} {h : XH} (hl : l.stackTraces = false) {r v : Nat} (hr : h r = some (1, 4, fun j => defaultValue (tyJ4 j))) (h1 : 1000 ≤ r) (hv : h v = none) (h9 : 1000 ≤ v)  : XEx l m_J4_init_da8c8 2 1 16 [.ref r] (h) (none) (xx_up (xx_up h r (1, 4, xx_sb v 0 0)) v (102, 16, fun _ => .int 0)) := by
  refine XMet.of hl rfl rfl (Nat.le_of_ble_eq_true rfl) (fun Y O hh hQ => ?_)
  show SW Y 1 16 (h) 0 [.ref r] []
  refine sw_aload_n O (xx_dt dd_J4_init_da8c8 0 rfl) rfl ?_
  refine sw_bipush (x := nI 16) O (xx_dt dd_J4_init_da8c8 1 rfl) (by decide) ?_
  refine sw_callIx (k := 0) (n := 0) (k' := 1) (n' := 16) (as := [.int (nI 16)]) (st := []) (st2 := []) O (sb_init5 hl hr h1 hv h9) ce_J5_init_d00df ml_J4_1 ii_J5_init_d00df (xx_dt dd_J4_init_da8c8 2 rfl) (by decide) rfl rfl (Nat.le_of_ble_eq_true rfl) rfl ?_
  exact sw_ret O (xx_dt dd_J4_init_da8c8 3 rfl) rfl (by rw [hQ]; exact ⟨rfl, rfl⟩)
theorem sb_checkLength {l : Launch} {h : XH} (hl : l.stackTraces = false) {c : Nat} (hc : c < 16)  : XEx l m_J7_checkLength_df160 0 0 0 [.int (nI 0), .int (nI c)] (h) (none) (h) := by
  refine XMet.of hl rfl rfl (Nat.le_of_ble_eq_true rfl) (fun Y O hh hQ => ?_)
  show SW Y 0 0 (h) 0 [.int (nI 0), .int (nI c)] []
  refine sw_iload_n O (xx_dt dd_J7_checkLength_df160 0 rfl) rfl ?_
  refine sw_iload_n O (xx_dt dd_J7_checkLength_df160 1 rfl) rfl ?_
  refine sw_icmp_ge (tgt := 37) O (xx_dt dd_J7_checkLength_df160 2 rfl) (by decide) (fun _ => ?_) (fun q => absurd (xx_ge0 c (by omega)) q)
  exact sw_ret O (xx_dt dd_J7_checkLength_df160 17 rfl) rfl (by rw [hQ]; exact ⟨rfl, rfl⟩)
theorem sb_copyRB {l : Launch} {h : XH} (hl : l.stackTraces = false) {v u c : Nat} {G : Nat → Value} (hv : h v = some (102, 16, G)) (hu : h u = none) (h9 : 1000 ≤ u) (hc : c < 16) (hG : ∀ j, j < c → ∃ z : Int32, G j = .int z ∧ fits .byte (.int z) = true)  : XEx l m_J7_copyOfRangeByte_39247 1 1 c [.ref v, .int (nI 0), .int (nI c)] (h) (some (.ref u)) (xx_up h u (102, c, fun j => if j < c then G j else .int 0)) := by
  refine XMet.of hl rfl rfl (Nat.le_of_ble_eq_true rfl) (fun Y O hh hQ => ?_)
  have hvu : v ≠ u := fun q => by rw [q, hu] at hv; cases hv
  show SW Y 1 c (h) 0 [.ref v, .int (nI 0), .int (nI c), xx_d, xx_d] []
  refine sw_iload_n O (xx_dt dd_J7_copyOfRangeByte_39247 0 rfl) rfl ?_
  refine sw_iload_n O (xx_dt dd_J7_copyOfRangeByte_39247 1 rfl) rfl ?_
  refine sw_callSx (k := 1) (n := c) (k' := 0) (n' := 0) (as := [.int (nI 0), .int (nI c)]) (st := []) (st2 := []) O (sb_checkLength hl hc) ce_J7_checkLength_df160 ml_J7_343 st_J7_checkLength_df160 (xx_dt dd_J7_copyOfRangeByte_39247 2 rfl) (by decide) rfl rfl (Nat.le_of_ble_eq_true rfl) rfl ?_
  refine sw_iload_n O (xx_dt dd_J7_copyOfRangeByte_39247 3 rfl) rfl ?_
  refine sw_iload_n O (xx_dt dd_J7_copyOfRangeByte_39247 4 rfl) rfl ?_
  refine sw_isub O (xx_dt dd_J7_copyOfRangeByte_39247 5 rfl) ?_
  rw [show nI c - nI 0 = nI c from xx_sub0 _]
  refine sw_istore_n (ls2 := [.ref v, .int (nI 0), .int (nI c), .int (nI c), xx_d]) O (xx_dt dd_J7_copyOfRangeByte_39247 6 rfl) (by decide) rfl ?_
  refine sw_iload_n O (xx_dt dd_J7_copyOfRangeByte_39247 7 rfl) rfl ?_
  refine xx_wid (k' := 0 + 1) (n' := 0 + c) (by omega) (by omega) (sw_newarray (t := 102) (N := c) (r := u) O (xx_dt dd_J7_copyOfRangeByte_39247 8 rfl) ⟨⟨by omega, by omega⟩, rfl⟩ ac_byte (xx_nlt0 c (by omega)) (nI_clamp (by omega)) (by show c * 1 ≤ _; omega) hu h9 ?_)
  rw [xx_blk_up, show (fun _ => defaultValue (newarray.typeOf .byte)) = (fun _ => Value.int 0 : Nat → Value) from rfl]
  refine sw_astore (ls2 := [.ref v, .int (nI 0), .int (nI c), .int (nI c), .ref u]) O (xx_dt dd_J7_copyOfRangeByte_39247 9 rfl) (by decide) rfl ?_
  refine sw_aload_n O (xx_dt dd_J7_copyOfRangeByte_39247 10 rfl) rfl ?_
  refine sw_iload_n O (xx_dt dd_J7_copyOfRangeByte_39247 11 rfl) rfl ?_
  refine sw_aload O (xx_dt dd_J7_copyOfRangeByte_39247 12 rfl) rfl ?_
  refine sw_iconst (x := 0) O (xx_dt dd_J7_copyOfRangeByte_39247 13 rfl) (by decide) ?_
  refine sw_aload_n O (xx_dt dd_J7_copyOfRangeByte_39247 14 rfl) rfl ?_
  refine sw_alen (t := 102) O (xx_dt dd_J7_copyOfRangeByte_39247 15 rfl) (by omega) (by omega) (by rw [xx_up_ne hvu]; exact hv) ?_
  refine sw_iload_n O (xx_dt dd_J7_copyOfRangeByte_39247 16 rfl) rfl ?_
  refine sw_isub O (xx_dt dd_J7_copyOfRangeByte_39247 17 rfl) ?_
  rw [show nI 16 - nI 0 = nI 16 from xx_sub0 _]
  refine sw_iload_n O (xx_dt dd_J7_copyOfRangeByte_39247 18 rfl) rfl ?_
  refine sw_min (x := nI 16) (y := nI c) O mm_J7_304 (xx_dt dd_J7_copyOfRangeByte_39247 19 rfl) (by omega) (Nat.le_of_ble_eq_true rfl) ?_
  rw [if_pos ((nI_ltI (a := c) (b := 16) (by omega) (by omega)).mpr (by omega))]
  refine sw_copyB (h2' := xx_up h u (102, c, fun j => if j < c then G j else .int 0)) O ay_J7_150 (xx_dt dd_J7_copyOfRangeByte_39247 20 rfl) (by rw [xx_up_ne hvu]; exact hv) (xx_up_eq _ _ _) h9 (xx_nlt0 c (by omega)) (by rw [nI_clamp (by omega)]; omega) (by rw [nI_clamp (by omega)]; exact Nat.le_refl _) (fun j hj => ?_) (by omega) (by decide +kernel) ?_ ?_
  · rw [nI_clamp (by omega)] at hj
    exact hG j hj
  · rw [xx_up_up, nI_clamp (by omega)]
  refine sw_aload O (xx_dt dd_J7_copyOfRangeByte_39247 21 rfl) rfl ?_
  exact sw_aret O (xx_dt dd_J7_copyOfRangeByte_39247 22 rfl) rfl (.inr ⟨_, rfl⟩) (by rw [hQ]; exact ⟨rfl, rfl⟩)
theorem sb_copyR {l : Launch} {h : XH} (hl : l.stackTraces = false) {v u c : Nat} {G : Nat → Value} (hv : h v = some (102, 16, G)) (hu : h u = none) (h9 : 1000 ≤ u) (hc : c < 16) (hG : ∀ j, j < c → ∃ z : Int32, G j = .int z ∧ fits .byte (.int z) = true)  : XEx l m_J7_copyOfRange_39247 2 1 c [.ref v, .int (nI 0), .int (nI c)] (h) (some (.ref u)) (xx_up h u (102, c, fun j => if j < c then G j else .int 0)) := by
  refine XMet.of hl rfl rfl (Nat.le_of_ble_eq_true rfl) (fun Y O hh hQ => ?_)
  show SW Y 1 c (h) 0 [.ref v, .int (nI 0), .int (nI c)] []
  refine sw_iload_n O (xx_dt dd_J7_copyOfRange_39247 0 rfl) rfl ?_
  refine sw_if_ne (tgt := 10) O (xx_dt dd_J7_copyOfRange_39247 1 rfl) (by decide) (fun q => absurd rfl q) (fun _ => ?_)
  refine sw_iload_n O (xx_dt dd_J7_copyOfRange_39247 2 rfl) rfl ?_
  refine sw_aload_n O (xx_dt dd_J7_copyOfRange_39247 3 rfl) rfl ?_
  refine sw_alen (t := 102) O (xx_dt dd_J7_copyOfRange_39247 4 rfl) (by omega) (by omega) hv ?_
  refine sw_icmp_eq (tgt := 17) O (xx_dt dd_J7_copyOfRange_39247 5 rfl) (by decide) (fun q => absurd q (fun q => absurd (congrArg cn q) (by rw [cn_nI (by omega), cn_nI (by omega)]; omega))) (fun _ => ?_)
  refine sw_aload_n O (xx_dt dd_J7_copyOfRange_39247 6 rfl) rfl ?_
  refine sw_iload_n O (xx_dt dd_J7_copyOfRange_39247 7 rfl) rfl ?_
  refine sw_iload_n O (xx_dt dd_J7_copyOfRange_39247 8 rfl) rfl ?_
  refine xx_wid (k' := 0 + 1) (n' := 0 + c) (by omega) (by omega) (sw_callSx (k := 0) (n := 0) (k' := 1) (n' := c) (as := [.ref v, .int (nI 0), .int (nI c)]) (st := []) (st2 := [.ref u]) O (sb_copyRB hl hv hu h9 hc hG) ce_J7_copyOfRangeByte_39247 ml_J7_339 st_J7_copyOfRangeByte_39247 (xx_dt dd_J7_copyOfRange_39247 9 rfl) (by decide) rfl rfl (Nat.le_of_ble_eq_true rfl) rfl ?_)
  exact sw_aret O (xx_dt dd_J7_copyOfRange_39247 10 rfl) rfl (.inr ⟨_, rfl⟩) (by rw [hQ]; exact ⟨rfl, rfl⟩)
def xx_so (u : Nat) : Nat → Value := updV (updV (fun j => defaultValue (tyJ0 j)) 1 (.int 0)) 0 (.ref u)
theorem sb_sinit2 {l : Launch} {h : XH} (hl : l.stackTraces = false) {r v c t u : Nat} {b : Int32} {G : Nat → Value} (hr : h r = some (1, 4, xx_sb v c b)) (hv : h v = some (102, 16, G)) (ht : h t = some (0, 4, fun j => defaultValue (tyJ0 j))) (hu : h u = none) (h1 : 1000 ≤ t) (h9 : 1000 ≤ u) (hc : c < 16) (hG : ∀ j, j < c → ∃ z : Int32, G j = .int z ∧ fits .byte (.int z) = true)  : XEx l m_J0_init_db425 3 1 c [.ref t, .ref r, .null] (h) (none) (xx_up (xx_up h t (0, 4, xx_so u)) u (102, c, fun j => if j < c then G j else .int 0)) := by
  refine XMet.of hl rfl rfl (Nat.le_of_ble_eq_true rfl) (fun Y O hh hQ => ?_)
  have hrt : r ≠ t := fun q => by rw [q, ht] at hr; cases hr
  have hvt : v ≠ t := fun q => by rw [q, ht] at hv; cases hv
  have htu : t ≠ u := fun q => by rw [q, hu] at ht; cases ht
  show SW Y 1 c (h) 0 [.ref t, .ref r, .null, xx_d, xx_d] []
  refine sw_aload_n O (xx_dt dd_J0_init_db425 0 rfl) rfl ?_
  refine sw_objInit O oi_J0_1 (xx_dt dd_J0_init_db425 1 rfl) (by omega) (Nat.le_of_ble_eq_true rfl) ?_
  refine sw_aload_n O (xx_dt dd_J0_init_db425 2 rfl) rfl ?_
  refine sw_callWx (k := 1) (n := c) (k' := 0) (n' := 0) (as := []) (st := []) (st2 := [.ref v]) O (sb_getValue hl hr) ce_J5_getValue_6d5f1 mk_J0_552 slc_J5_getValue_6d5f1 cl_J4 (hr) (xx_dt dd_J0_init_db425 3 rfl) (by decide) rfl rfl (Nat.le_of_ble_eq_true rfl) rfl ?_
  refine sw_astore_n (ls2 := [.ref t, .ref r, .null, .ref v, xx_d]) O (xx_dt dd_J0_init_db425 4 rfl) (by decide) rfl ?_
  refine sw_aload_n O (xx_dt dd_J0_init_db425 5 rfl) rfl ?_
  refine sw_callUx (k := 1) (n := c) (k' := 0) (n' := 0) (as := []) (st := []) (st2 := [.int (nI c)]) O (sb_length hl hr) ce_J4_length_8abf5 ov_J0_549 cl_J4 hr (xx_dt dd_J0_init_db425 6 rfl) (by decide) rfl rfl (Nat.le_of_ble_eq_true rfl) rfl ?_
  refine sw_istore (ls2 := [.ref t, .ref r, .null, .ref v, .int (nI c)]) O (xx_dt dd_J0_init_db425 7 rfl) (by decide) rfl ?_
  refine sw_aload_n O (xx_dt dd_J0_init_db425 8 rfl) rfl ?_
  refine sw_callWx (k := 1) (n := c) (k' := 0) (n' := 0) (as := []) (st := []) (st2 := [.int 1]) O (sb_isLatin1 hl hr) ce_J5_isLatin1_aae02 mk_J0_1047 slc_J5_isLatin1_aae02 cl_J4 (hr) (xx_dt dd_J0_init_db425 9 rfl) (by decide) rfl rfl (Nat.le_of_ble_eq_true rfl) rfl ?_
  refine sw_if_eq (tgt := 41) O (xx_dt dd_J0_init_db425 10 rfl) (by decide) (fun q => absurd q (by decide)) (fun _ => ?_)
  refine sw_aload_n O (xx_dt dd_J0_init_db425 11 rfl) rfl ?_
  refine sw_iconst (x := 0) O (xx_dt dd_J0_init_db425 12 rfl) (by decide) ?_
  refine sw_putF (h2 := xx_up h t (0, 4, updV (fun j => defaultValue (tyJ0 j)) 1 (.int 0))) O (xx_dt dd_J0_init_db425 13 rfl) cl_J0 fz_J0_15 ht (by decide) h1 rfl rfl (fun _ => ⟨rfl, rfl⟩) rfl ?_
  refine sw_aload_n O (xx_dt dd_J0_init_db425 14 rfl) rfl ?_
  refine sw_aload_n O (xx_dt dd_J0_init_db425 15 rfl) rfl ?_
  refine sw_iconst (x := 0) O (xx_dt dd_J0_init_db425 16 rfl) (by decide) ?_
  refine sw_iload O (xx_dt dd_J0_init_db425 17 rfl) rfl ?_
  refine xx_wid (k' := 0 + 1) (n' := 0 + c) (by omega) (by omega) (sw_callSx (k := 0) (n := 0) (k' := 1) (n' := c) (as := [.ref v, .int (nI 0), .int (nI c)]) (st := [.ref t]) (st2 := [.ref u, .ref t]) O (sb_copyR hl (v := v) (u := u) (c := c) (G := G) (by rw [xx_up_ne hvt]; exact hv) (by rw [xx_up_ne (Ne.symm htu)]; exact hu) h9 hc hG) ce_J7_copyOfRange_39247 ml_J0_54 st_J7_copyOfRange_39247 (xx_dt dd_J0_init_db425 18 rfl) (by decide) rfl rfl (Nat.le_of_ble_eq_true rfl) rfl ?_)
  refine sw_putF (h2 := xx_up (xx_up h t (0, 4, xx_so u)) u (102, c, fun j => if j < c then G j else .int 0)) O (xx_dt dd_J0_init_db425 19 rfl) cl_J0 fz_J0_9 (by rw [xx_up_ne htu]; exact xx_up_eq _ _ _) (by decide) h1 rfl rfl (fun _ => ⟨rfl, rfl⟩) (by rw [← xx_up_sw htu, xx_up_up]; rfl) ?_
  refine sw_goto (tgt := 97) O (xx_dt dd_J0_init_db425 20 rfl) (by decide) ?_
  exact sw_ret O (xx_dt dd_J0_init_db425 50 rfl) rfl (by rw [hQ]; exact ⟨rfl, rfl⟩)
theorem sb_sinit {l : Launch} {h : XH} (hl : l.stackTraces = false) {r v c t u : Nat} {b : Int32} {G : Nat → Value} (hr : h r = some (1, 4, xx_sb v c b)) (hv : h v = some (102, 16, G)) (ht : h t = some (0, 4, fun j => defaultValue (tyJ0 j))) (hu : h u = none) (h1 : 1000 ≤ t) (h9 : 1000 ≤ u) (hc : c < 16) (hG : ∀ j, j < c → ∃ z : Int32, G j = .int z ∧ fits .byte (.int z) = true)  : XEx l m_J0_init_81219 4 1 c [.ref t, .ref r] (h) (none) (xx_up (xx_up h t (0, 4, xx_so u)) u (102, c, fun j => if j < c then G j else .int 0)) := by
  refine XMet.of hl rfl rfl (Nat.le_of_ble_eq_true rfl) (fun Y O hh hQ => ?_)
  show SW Y 1 c (h) 0 [.ref t, .ref r] []
  refine sw_aload_n O (xx_dt dd_J0_init_81219 0 rfl) rfl ?_
  refine sw_aload_n O (xx_dt dd_J0_init_81219 1 rfl) rfl ?_
  refine sw_null O (xx_dt dd_J0_init_81219 2 rfl) ?_
  refine xx_wid (k' := 0 + 1) (n' := 0 + c) (by omega) (by omega) (sw_callIx (k := 0) (n := 0) (k' := 1) (n' := c) (as := [.ref r, .null]) (st := []) (st2 := []) O (sb_sinit2 hl hr hv ht hu h1 h9 hc hG) ce_J0_init_db425 ml_J0_489 ii_J0_init_db425 (xx_dt dd_J0_init_81219 3 rfl) (by decide) rfl rfl (Nat.le_of_ble_eq_true rfl) rfl ?_)
  exact sw_ret O (xx_dt dd_J0_init_81219 4 rfl) rfl (by rw [hQ]; exact ⟨rfl, rfl⟩)
theorem sb_toString {l : Launch} {h : XH} (hl : l.stackTraces = false) {r v c t u : Nat} {b : Int32} {G : Nat → Value} (hr : h r = some (1, 4, xx_sb v c b)) (hv : h v = some (102, 16, G)) (ht : h t = none) (hu : h u = none) (h1 : 1000 ≤ t) (h9 : 1000 ≤ u) (hc : c < 16) (hG : ∀ j, j < c → ∃ z : Int32, G j = .int z ∧ fits .byte (.int z) = true) (htu : t ≠ u)  : XEx l m_J4_toString_0e30d 5 2 (c + 4) [.ref r] (h) (some (.ref t)) (xx_up (xx_up h t (0, 4, xx_so u)) u (102, c, fun j => if j < c then G j else .int 0)) := by
  refine XMet.of hl rfl rfl (Nat.le_of_ble_eq_true rfl) (fun Y O hh hQ => ?_)
  have hrt : r ≠ t := fun q => by rw [q, ht] at hr; cases hr
  have hvt : v ≠ t := fun q => by rw [q, ht] at hv; cases hv
  show SW Y 2 (c + 4) (h) 0 [.ref r] []
  refine sw_new (k := 1) (n := c) (r := t) O (xx_dt dd_J4_toString_0e30d 0 rfl) cl_J0 nw_J4_18 ht h1 ?_
  rw [xx_blk_up]
  refine sw_dup O (xx_dt dd_J4_toString_0e30d 1 rfl) rfl ?_
  refine sw_aload_n O (xx_dt dd_J4_toString_0e30d 2 rfl) rfl ?_
  refine xx_wid (k' := 0 + 1) (n' := 0 + c) (by omega) (by omega) (sw_callIx (k := 0) (n := 0) (k' := 1) (n' := c) (as := [.ref r]) (st := [.ref t]) (st2 := [.ref t]) O (sb_sinit hl (r := r) (v := v) (c := c) (t := t) (u := u) (b := b) (G := G) (by rw [xx_up_ne hrt]; exact hr) (by rw [xx_up_ne hvt]; exact hv) (xx_up_eq _ _ _) (by rw [xx_up_ne (Ne.symm htu)]; exact hu) h1 h9 hc hG) ce_J0_init_81219 ml_J4_137 ii_J0_init_81219 (xx_dt dd_J4_toString_0e30d 3 rfl) (by decide) rfl rfl (Nat.le_of_ble_eq_true rfl) rfl ?_)
  rw [xx_up_up]
  exact sw_aret O (xx_dt dd_J4_toString_0e30d 4 rfl) rfl (.inl ⟨_, rfl⟩) (by rw [hQ]; exact ⟨rfl, rfl⟩)
end
section
/-! ===== a region's chart ===== -/
theorem setC_up {σ : XS9} {h : XH} {r : Nat} {c : XC} (hr : ¬ (1000 ≤ r ∧ r < 4000)) : setC σ (xx_up h r c) = xx_up (setC σ h) r c := by
  funext q
  unfold setC xx_up
  by_cases e : q = r
  · subst e
    rw [if_neg hr, if_pos rfl, if_pos rfl]
  · simp only [if_neg e]
theorem setC_out {σ : XS9} {h : XH} {r : Nat} (hr : ¬ (1000 ≤ r ∧ r < 4000)) : setC σ h r = h r := if_neg hr
def hB (h : XH) (c : Nat) (b : Int32) (G : Nat → Value) : XH := xx_up (xx_up h 4000 (1, 4, xx_sb 4001 c b)) 4001 (102, 16, G)
section
variable {σ : XS9} {h : XH} {c c' : Nat} {b b' : Int32} {G G' : Nat → Value}
theorem hB_r : setC σ (hB h c b G) 4000 = some (1, 4, xx_sb 4001 c b) := (setC_out (by omega)).trans ((xx_up_ne (by omega)).trans (xx_up_eq _ _ _))
theorem hB_v : setC σ (hB h c b G) 4001 = some (102, 16, G) := (setC_out (by omega)).trans (xx_up_eq _ _ _)
theorem hB_o {q : Nat} (h1 : ¬ (1000 ≤ q ∧ q < 4000)) (h2 : q ≠ 4000) (h3 : q ≠ 4001) : setC σ (hB h c b G) q = h q := (setC_out h1).trans ((xx_up_ne h3).trans (xx_up_ne h2))
theorem hB_up : xx_up (xx_up (setC σ (hB h c b G)) 4000 (1, 4, xx_sb 4001 c' b')) 4001 (102, 16, G') = setC σ (hB h c' b' G') := by
  rw [← setC_up (by omega), ← setC_up (by omega)]
  congr 1
  funext q
  unfold hB xx_up
  by_cases a1 : q = 4001 <;> by_cases a2 : q = 4000 <;> simp_all
theorem hB_set : xx_up (setC σ (hB h c b G)) 4000 (1, 4, xx_sb 4001 c' b') = setC σ (hB h c' b' G) := by
  rw [← setC_up (by omega)]
  congr 1
  funext q
  unfold hB xx_up
  by_cases a1 : q = 4001 <;> by_cases a2 : q = 4000 <;> simp_all
end
/-- the row of digits' signs -/
def xx_dig (h : XH) : Prop := ∃ F, h 4 = some (102, 100, F) ∧ ∀ x, x < 10 → F x = .int (48 + nI x)
theorem nar_dig {x : Nat} (hx : x < 10) : narrow .byte (.int (48 + nI x)) = .int (48 + nI x) := by
  have : ∀ a : Fin 10, (48 + nI a.1 : Int32).toInt8.toInt32 = 48 + nI a.1 := by decide +kernel
  exact congrArg Value.int (this ⟨x, hx⟩)
theorem dr_C {l : Launch} {σ : XS9} {h : XH} {c : Nat} {b : Int32} {G : Nat → Value} (hl : l.stackTraces = false) (hc : c < 16) {x : Int32} (hx : ¬ (255 : Int32) < x) (hx2 : x.toInt8.toInt32 = x) : XEx l m_J4_append_cf468 2 0 0 [.ref 4000, .int x] (setC σ (hB h c b G)) (some (.ref 4000)) (setC σ (hB h (c + 1) b (updV G c (.int x)))) := by
  have t := sb_appendC hl (h := setC σ (hB h c b G)) hB_r hB_v (by omega) (by omega) (by omega) hc hx hx2 (congrArg Value.int hx2)
  rw [hB_up] at t
  exact t
theorem dr_I {l : Launch} {σ : XS9} {h : XH} {c : Nat} {b : Int32} {G : Nat → Value} (hl : l.stackTraces = false) (hd : xx_dig h) (hc : c < 15) {x : Nat} (hx : x < 10) : XEx l m_J4_append_bf812 2 0 0 [.ref 4000, .int (nI x)] (setC σ (hB h c b G)) (some (.ref 4000)) (setC σ (hB h (c + 1) b (updV G c (.int (48 + nI x))))) := by
  obtain ⟨F, h4, hF⟩ := hd
  have t := sb_appendI hl (h := setC σ (hB h c b G)) hB_r hB_v (by omega) (by omega) (by omega) (by omega) hx ((hB_o (by omega) (by omega) (by omega)).trans h4) (hF x hx) (nar_dig hx)
  rw [hB_up] at t
  exact t
def sgn (z : Int32) : Int32 := if z = -1 then 45 else 48 + z
def gD (f : Nat → Int32) (G : Nat → Value) (s : Nat) : Nat → Value := fun j => if j < 2 * s - 1 then .int (if j % 2 = 1 then 44 else sgn (f (j / 2))) else G j
theorem gD_0 {f : Nat → Int32} {G : Nat → Value} : gD f G 0 = G := by
  funext j
  unfold gD
  rw [if_neg (by omega)]
theorem dr_1 {σ : XS9} {h : XH} {b : Int32} {f : Nat → Int32} {G : Nat → Value} {s : Nat} {w : Int32} (hs : 0 < s) (hw : w = sgn (f s)) : setC σ (hB h (2 * s - 1 + 1 + 1) b (updV (updV (gD f G s) (2 * s - 1) (.int 44)) (2 * s - 1 + 1) (.int w))) = setC σ (hB h (2 * (s + 1) - 1) b (gD f G (s + 1))) := by
  subst hw
  rw [show 2 * s - 1 + 1 + 1 = 2 * (s + 1) - 1 by omega, show 2 * s - 1 + 1 = 2 * s by omega]
  congr 2
  funext j
  unfold updV gD
  by_cases e : j = 2 * s
  · subst e
    rw [if_pos rfl, if_pos (by omega), if_neg (by omega), show 2 * s / 2 = s by omega]
  · rw [if_neg e]
    by_cases e2 : j = 2 * s - 1
    · rw [if_pos e2, if_pos (by omega), if_pos (by omega)]
    · rw [if_neg e2]
      by_cases e3 : j < 2 * s - 1
      · rw [if_pos e3, if_pos (show j < 2 * (s + 1) - 1 by omega)]
      · rw [if_neg e3, if_neg (by omega)]
theorem dr_0 {σ : XS9} {h : XH} {b : Int32} {f : Nat → Int32} {G : Nat → Value} {s : Nat} {w : Int32} (hs : s = 0) (hw : w = sgn (f s)) : setC σ (hB h (2 * s - 1 + 1) b (updV (gD f G s) (2 * s - 1) (.int w))) = setC σ (hB h (2 * (s + 1) - 1) b (gD f G (s + 1))) := by
  subst hs
  subst hw
  congr 2
  funext j
  unfold updV gD
  by_cases e : j = 0
  · subst e
    rfl
  · rw [if_neg (by omega), if_neg (by omega), if_neg (by omega)]
theorem ct_X3_draw {l : Launch} {h : XH} (hl : l.stackTraces = false) {σ : XS9} {b : Int32} {G : Nat → Value} {rg sp : Nat} (hr : rg < 5) (hsp : σ 1010 rg = nI sp) (hsp5 : sp ≤ 5) (hdg : xx_dig h) (hho : ∀ k, k < sp → σ (1141 + rg) k = -1 ∨ ∃ x, x < 10 ∧ σ (1141 + rg) k = nI x)  : XEx l m_X3_draw 3 0 0 [.ref 1005, .ref 1001, .int (nI rg), .ref 4000] (setC σ (hB h 0 b G)) (none) (setC σ (hB h (2 * sp - 1) b (gD (σ (1141 + rg)) G sp))) := by
  refine XMet.of hl rfl rfl (Nat.le_of_ble_eq_true rfl) (fun Y O hh hQ => ?_)
  show SW Y 0 0 (setC σ (hB h 0 b G)) 0 [.ref 1005, .ref 1001, .int (nI rg), .ref 4000, xx_d, xx_d] []
  refine sw_iconst (x := 0) O (xx_dt dd_X3_draw 0 rfl) (by decide) ?_
  refine sw_istore (ls2 := [.ref 1005, .ref 1001, .int (nI rg), .ref 4000, .int 0, xx_d]) O (xx_dt dd_X3_draw 1 rfl) (by decide) rfl ?_
  rw [show hB h 0 b G = hB h (2 * 0 - 1) b (gD (σ (1141 + rg)) G 0) by rw [gD_0]]
  refine sw_for (fun _ s => s + 1) (fun i s => s = i) (hp := fun s => setC σ (hB h (2 * s - 1) b (gD (σ (1141 + rg)) G s))) (hd := 3) (lc := fun i s => [.ref 1005, .ref 1001, .int (nI rg), .ref 4000, .int (nI i), xx_d]) (N := sp) (fun i s hi hP => ⟨by rw [hP], fun kk => ?_⟩) sp 0 0 (by omega) rfl (fun hP => ?_)
  · subst hP
    refine sw_iload O (xx_dt dd_X3_draw 2 rfl) rfl ?_
    refine sw_aload_n O (xx_dt dd_X3_draw 3 rfl) rfl ?_
    refine sw_get (v := .ref 1010) O (xx_dt dd_X3_draw 4 rfl) cl_X6 fl_X3_45 (ly_1001 σ (hB h (2 * s - 1) b (gD (σ (1141 + rg)) G s))) (by decide) rfl ?_
    refine sw_iload_n O (xx_dt dd_X3_draw 5 rfl) rfl ?_
    refine sw_iaload (v := .int (nI sp)) O (xx_dt dd_X3_draw 6 rfl) (ly_1010 σ (hB h (2 * s - 1) b (gD (σ (1141 + rg)) G s))) (pk_in rg _ (by omega)) (by rw [nI_clamp (by omega)]; exact (congrArg Value.int hsp)) ?_
    refine sw_icmp_ge (tgt := 66) O (xx_dt dd_X3_draw 7 rfl) (by decide) (fun q => absurd ((nI_leI (a := sp) (b := s) (by omega) (by omega)).mp q) (by omega)) (fun _ => ?_)
    refine sw_iload O (xx_dt dd_X3_draw 8 rfl) rfl ?_
    refine sw_if_le (tgt := 26) O (xx_dt dd_X3_draw 9 rfl) (by decide) (fun q => ?_) (fun q => ?_)
    · have hs0 : s = 0 := by have := (nI_leI (a := s) (b := 0) (by omega) (by omega)).mp q; omega
      refine sw_aload_n O (xx_dt dd_X3_draw 14 rfl) rfl ?_
      refine sw_get (v := .ref 1140) O (xx_dt dd_X3_draw 15 rfl) cl_X3 fl_X3_11 (ly_1005 σ (hB h (2 * s - 1) b (gD (σ (1141 + rg)) G s))) (by decide) rfl ?_
      refine sw_iload_n O (xx_dt dd_X3_draw 16 rfl) rfl ?_
      refine sw_aaload (v := .ref (1141 + rg)) O (xx_dt dd_X3_draw 17 rfl) (by omega) (by omega) (ly_1140 σ (hB h (2 * s - 1) b (gD (σ (1141 + rg)) G s))) (pk_in rg _ (by omega)) (by rw [nI_clamp (by omega)]; try exact rfl) ?_
      refine sw_iload O (xx_dt dd_X3_draw 18 rfl) rfl ?_
      refine sw_iaload (v := .int (σ (1141 + rg) s)) O (xx_dt dd_X3_draw 19 rfl) (lr_1140 σ (hB h (2 * s - 1) b (gD (σ (1141 + rg)) G s)) (k := rg) (by omega)) (pk_in s _ (by omega)) (by rw [nI_clamp (by omega)]; try exact rfl) ?_
      refine sw_istore (ls2 := [.ref 1005, .ref 1001, .int (nI rg), .ref 4000, .int (nI s), .int (σ (1141 + rg) s)]) O (xx_dt dd_X3_draw 20 rfl) (by decide) rfl ?_
      refine sw_iload O (xx_dt dd_X3_draw 21 rfl) rfl ?_
      refine sw_iconst (x := (-1)) O (xx_dt dd_X3_draw 22 rfl) (by decide) ?_
      refine sw_icmp_ne (tgt := 53) O (xx_dt dd_X3_draw 23 rfl) (by decide) (fun q2 => ?_) (fun q2 => ?_)
      · obtain ⟨x, hx, ex⟩ := (hho s hi).resolve_left q2
        have hsg : 48 + nI x = sgn (σ (1141 + rg) s) := by unfold sgn; rw [if_neg q2, ex]
        refine sw_aload_n O (xx_dt dd_X3_draw 29 rfl) rfl ?_
        rw [ex]
        refine sw_iload O (xx_dt dd_X3_draw 30 rfl) rfl ?_
        refine sw_callVx (as := [.int (nI x)]) (st := []) (st2 := [.ref 4000]) O (dr_I hl hdg (c := 2 * s - 1) (by omega) hx) ce_J4_append_bf812 ml_X3_68 iv_J4_append_bf812 cl_J4 rfl (hB_r) (xx_dt dd_X3_draw 31 rfl) (by decide) rfl rfl (Nat.le_of_ble_eq_true rfl) rfl ?_
        refine sw_pop O (xx_dt dd_X3_draw 32 rfl) rfl ?_
        rw [dr_0 hs0 hsg]
        refine sw_iinc (y := nI (s + 1)) (ls2 := [.ref 1005, .ref 1001, .int (nI rg), .ref 4000, .int (nI (s + 1)), .int (nI x)]) O (xx_dt dd_X3_draw 33 rfl) rfl (nI_1 _) (by decide) rfl ?_
        refine sw_goto (tgt := 3) O (xx_dt dd_X3_draw 34 rfl) (by decide) ?_
        refine sw_dum (ls2 := [.ref 1005, .ref 1001, .int (nI rg), .ref 4000, .int (nI (s + 1)), xx_d]) ⟨.inr rfl, .inr rfl, .inr rfl, .inr rfl, .inr rfl, .inl rfl, trivial⟩ ?_
        exact kk
      · have hsg : (45 : Int32) = sgn (σ (1141 + rg) s) := by unfold sgn; rw [if_pos q2]
        refine sw_aload_n O (xx_dt dd_X3_draw 24 rfl) rfl ?_
        refine sw_bipush (x := 45) O (xx_dt dd_X3_draw 25 rfl) (by decide) ?_
        refine sw_callVx (as := [.int 45]) (st := []) (st2 := [.ref 4000]) O (dr_C hl (c := 2 * s - 1) (by omega) (by decide) (by decide)) ce_J4_append_cf468 ml_X3_62 iv_J4_append_cf468 cl_J4 rfl (hB_r) (xx_dt dd_X3_draw 26 rfl) (by decide) rfl rfl (Nat.le_of_ble_eq_true rfl) rfl ?_
        refine sw_pop O (xx_dt dd_X3_draw 27 rfl) rfl ?_
        refine sw_goto (tgt := 60) O (xx_dt dd_X3_draw 28 rfl) (by decide) ?_
        rw [dr_0 hs0 hsg]
        refine sw_iinc (y := nI (s + 1)) (ls2 := [.ref 1005, .ref 1001, .int (nI rg), .ref 4000, .int (nI (s + 1)), .int (σ (1141 + rg) s)]) O (xx_dt dd_X3_draw 33 rfl) rfl (nI_1 _) (by decide) rfl ?_
        refine sw_goto (tgt := 3) O (xx_dt dd_X3_draw 34 rfl) (by decide) ?_
        refine sw_dum (ls2 := [.ref 1005, .ref 1001, .int (nI rg), .ref 4000, .int (nI (s + 1)), xx_d]) ⟨.inr rfl, .inr rfl, .inr rfl, .inr rfl, .inr rfl, .inl rfl, trivial⟩ ?_
        exact kk
    · have hs : 0 < s := Nat.pos_of_ne_zero (fun e => q (by rw [e]; exact Int32.le_refl _))
      refine sw_aload_n O (xx_dt dd_X3_draw 10 rfl) rfl ?_
      refine sw_bipush (x := 44) O (xx_dt dd_X3_draw 11 rfl) (by decide) ?_
      refine sw_callVx (as := [.int 44]) (st := []) (st2 := [.ref 4000]) O (dr_C hl (c := 2 * s - 1) (by omega) (by decide) (by decide)) ce_J4_append_cf468 ml_X3_62 iv_J4_append_cf468 cl_J4 rfl (hB_r) (xx_dt dd_X3_draw 12 rfl) (by decide) rfl rfl (Nat.le_of_ble_eq_true rfl) rfl ?_
      refine sw_pop O (xx_dt dd_X3_draw 13 rfl) rfl ?_
      refine sw_aload_n O (xx_dt dd_X3_draw 14 rfl) rfl ?_
      refine sw_get (v := .ref 1140) O (xx_dt dd_X3_draw 15 rfl) cl_X3 fl_X3_11 (ly_1005 σ (hB h (2 * s - 1 + 1) b (updV (gD (σ (1141 + rg)) G s) (2 * s - 1) (.int 44)))) (by decide) rfl ?_
      refine sw_iload_n O (xx_dt dd_X3_draw 16 rfl) rfl ?_
      refine sw_aaload (v := .ref (1141 + rg)) O (xx_dt dd_X3_draw 17 rfl) (by omega) (by omega) (ly_1140 σ (hB h (2 * s - 1 + 1) b (updV (gD (σ (1141 + rg)) G s) (2 * s - 1) (.int 44)))) (pk_in rg _ (by omega)) (by rw [nI_clamp (by omega)]; try exact rfl) ?_
      refine sw_iload O (xx_dt dd_X3_draw 18 rfl) rfl ?_
      refine sw_iaload (v := .int (σ (1141 + rg) s)) O (xx_dt dd_X3_draw 19 rfl) (lr_1140 σ (hB h (2 * s - 1 + 1) b (updV (gD (σ (1141 + rg)) G s) (2 * s - 1) (.int 44))) (k := rg) (by omega)) (pk_in s _ (by omega)) (by rw [nI_clamp (by omega)]; try exact rfl) ?_
      refine sw_istore (ls2 := [.ref 1005, .ref 1001, .int (nI rg), .ref 4000, .int (nI s), .int (σ (1141 + rg) s)]) O (xx_dt dd_X3_draw 20 rfl) (by decide) rfl ?_
      refine sw_iload O (xx_dt dd_X3_draw 21 rfl) rfl ?_
      refine sw_iconst (x := (-1)) O (xx_dt dd_X3_draw 22 rfl) (by decide) ?_
      refine sw_icmp_ne (tgt := 53) O (xx_dt dd_X3_draw 23 rfl) (by decide) (fun q2 => ?_) (fun q2 => ?_)
      · obtain ⟨x, hx, ex⟩ := (hho s hi).resolve_left q2
        have hsg : 48 + nI x = sgn (σ (1141 + rg) s) := by unfold sgn; rw [if_neg q2, ex]
        refine sw_aload_n O (xx_dt dd_X3_draw 29 rfl) rfl ?_
        rw [ex]
        refine sw_iload O (xx_dt dd_X3_draw 30 rfl) rfl ?_
        refine sw_callVx (as := [.int (nI x)]) (st := []) (st2 := [.ref 4000]) O (dr_I hl hdg (c := 2 * s - 1 + 1) (by omega) hx) ce_J4_append_bf812 ml_X3_68 iv_J4_append_bf812 cl_J4 rfl (hB_r) (xx_dt dd_X3_draw 31 rfl) (by decide) rfl rfl (Nat.le_of_ble_eq_true rfl) rfl ?_
        refine sw_pop O (xx_dt dd_X3_draw 32 rfl) rfl ?_
        rw [dr_1 hs hsg]
        refine sw_iinc (y := nI (s + 1)) (ls2 := [.ref 1005, .ref 1001, .int (nI rg), .ref 4000, .int (nI (s + 1)), .int (nI x)]) O (xx_dt dd_X3_draw 33 rfl) rfl (nI_1 _) (by decide) rfl ?_
        refine sw_goto (tgt := 3) O (xx_dt dd_X3_draw 34 rfl) (by decide) ?_
        refine sw_dum (ls2 := [.ref 1005, .ref 1001, .int (nI rg), .ref 4000, .int (nI (s + 1)), xx_d]) ⟨.inr rfl, .inr rfl, .inr rfl, .inr rfl, .inr rfl, .inl rfl, trivial⟩ ?_
        exact kk
      · have hsg : (45 : Int32) = sgn (σ (1141 + rg) s) := by unfold sgn; rw [if_pos q2]
        refine sw_aload_n O (xx_dt dd_X3_draw 24 rfl) rfl ?_
        refine sw_bipush (x := 45) O (xx_dt dd_X3_draw 25 rfl) (by decide) ?_
        refine sw_callVx (as := [.int 45]) (st := []) (st2 := [.ref 4000]) O (dr_C hl (c := 2 * s - 1 + 1) (by omega) (by decide) (by decide)) ce_J4_append_cf468 ml_X3_62 iv_J4_append_cf468 cl_J4 rfl (hB_r) (xx_dt dd_X3_draw 26 rfl) (by decide) rfl rfl (Nat.le_of_ble_eq_true rfl) rfl ?_
        refine sw_pop O (xx_dt dd_X3_draw 27 rfl) rfl ?_
        refine sw_goto (tgt := 60) O (xx_dt dd_X3_draw 28 rfl) (by decide) ?_
        rw [dr_1 hs hsg]
        refine sw_iinc (y := nI (s + 1)) (ls2 := [.ref 1005, .ref 1001, .int (nI rg), .ref 4000, .int (nI (s + 1)), .int (σ (1141 + rg) s)]) O (xx_dt dd_X3_draw 33 rfl) rfl (nI_1 _) (by decide) rfl ?_
        refine sw_goto (tgt := 3) O (xx_dt dd_X3_draw 34 rfl) (by decide) ?_
        refine sw_dum (ls2 := [.ref 1005, .ref 1001, .int (nI rg), .ref 4000, .int (nI (s + 1)), xx_d]) ⟨.inr rfl, .inr rfl, .inr rfl, .inr rfl, .inr rfl, .inl rfl, trivial⟩ ?_
        exact kk
  · have hx : ∀ f i s, s = i → xit (fun _ s => s + 1) f i s = i + f := by
      intro f
      induction f with
      | zero => intro i s e; exact e
      | succ f ih => intro i s e; show xit _ f (i + 1) (s + 1) = _; rw [ih (i + 1) (s + 1) (by rw [e])]; omega
    rw [hx sp 0 0 rfl, Nat.zero_add]
    refine sw_iload O (xx_dt dd_X3_draw 2 rfl) rfl ?_
    refine sw_aload_n O (xx_dt dd_X3_draw 3 rfl) rfl ?_
    refine sw_get (v := .ref 1010) O (xx_dt dd_X3_draw 4 rfl) cl_X6 fl_X3_45 (ly_1001 σ (hB h (2 * sp - 1) b (gD (σ (1141 + rg)) G sp))) (by decide) rfl ?_
    refine sw_iload_n O (xx_dt dd_X3_draw 5 rfl) rfl ?_
    refine sw_iaload (v := .int (nI sp)) O (xx_dt dd_X3_draw 6 rfl) (ly_1010 σ (hB h (2 * sp - 1) b (gD (σ (1141 + rg)) G sp))) (pk_in rg _ (by omega)) (by rw [nI_clamp (by omega)]; exact (congrArg Value.int hsp)) ?_
    refine sw_icmp_ge (tgt := 66) O (xx_dt dd_X3_draw 7 rfl) (by decide) (fun _ => ?_) (fun q => absurd (Int32.le_refl _) q)
    exact sw_ret O (xx_dt dd_X3_draw 35 rfl) rfl (by rw [hQ]; exact ⟨rfl, rfl⟩)
end
section
/-! ===== chart ===== -/
def hS (h : XH) (c : Nat) (G : Nat → Value) : XH := xx_up (xx_up h 4002 (0, 4, xx_so 4003)) 4003 (102, c, fun j => if j < c then G j else .int 0)
section
variable {σ : XS9} {h : XH} {c c' : Nat} {b b' : Int32} {G G' : Nat → Value}
theorem hS_up : xx_up (xx_up (setC σ h) 4002 (0, 4, xx_so 4003)) 4003 (102, c, fun j => if j < c then G j else .int 0) = setC σ (hS h c G) := by
  rw [← setC_up (by omega), ← setC_up (by omega)]
  rfl
theorem hB_new {c0 : XC} : xx_up (xx_up (xx_up (setC σ h) 4000 c0) 4000 (1, 4, xx_sb 4001 c b)) 4001 (102, 16, G) = setC σ (hB h c b G) := by
  rw [xx_up_up, ← setC_up (by omega), ← setC_up (by omega)]
  rfl
theorem hS_sub (h0 : h 4000 = none) (h1 : h 4001 = none) : xx_sub (setC σ (hS h c G)) (setC σ (hS (hB h c' b G') c G)) := by
  intro q d hq
  unfold setC at hq ⊢
  split at hq
  · rename_i e
    rw [if_pos e]
    exact hq
  · rename_i e
    rw [if_neg e]
    unfold hS hB xx_up at *
    by_cases a3 : q = 4003
    · rw [if_pos a3] at hq ⊢
      exact hq
    · rw [if_neg a3] at hq ⊢
      by_cases a2 : q = 4002
      · rw [if_pos a2] at hq ⊢
        exact hq
      · rw [if_neg a2] at hq ⊢
        by_cases a1 : q = 4001
        · rw [a1, h1] at hq
          cases hq
        · rw [if_neg a1]
          by_cases a0 : q = 4000
          · rw [a0, h0] at hq
            cases hq
          · rw [if_neg a0]
            exact hq
theorem hS_cls (hcl : xx_cls (setC σ h)) (hG : ∀ j, j < c → ∃ z : Int32, G j = .int z) : xx_cls (setC σ (hS h c G)) := by
  rw [← hS_up, xx_up_sw (by omega)]
  refine xx_cls.up (xx_cls.up hcl (fun j hj => ?_)) (fun j hj => ?_)
  · show xx_in _ (if j < c then G j else .int 0)
    rw [if_pos hj]
    obtain ⟨z, e⟩ := hG j hj
    rw [e]
    trivial
  · match j, hj with
    | 0, _ => exact (by rw [xx_up_ne (by omega), xx_up_eq]; rfl : ((xx_up (xx_up (setC σ h) 4003 (102, c, fun j => if j < c then G j else .int 0)) 4002 (0, 4, xx_so 4003)) 4003).isSome = true)
    | 1, _ => trivial
    | 2, _ => trivial
    | 3, _ => trivial
theorem hS_dom (h2 : h 4002 = none) (h3 : h 4003 = none) (r : Nat) (hr : (setC σ h r).isSome = true) : (setC σ (hS h c G) r).isSome = true := by
  rw [← hS_up]
  by_cases a3 : r = 4003
  · rw [a3, xx_up_eq]; rfl
  · rw [xx_up_ne a3]
    by_cases a2 : r = 4002
    · rw [a2, xx_up_eq]; rfl
    · rw [xx_up_ne a2]
      exact hr
end
theorem gD_int {f : Nat → Int32} {G : Nat → Value} {s : Nat} (hf : ∀ k, k < s → f k = -1 ∨ ∃ x, x < 10 ∧ f k = nI x) : ∀ j, j < 2 * s - 1 → ∃ z : Int32, gD f G s j = .int z ∧ fits .byte (.int z) = true := by
  intro j hj
  unfold gD
  rw [if_pos hj]
  refine ⟨_, rfl, ?_⟩
  split
  · decide
  · unfold sgn
    rcases hf (j / 2) (by omega) with e | ⟨x, hx, e⟩
    · rw [if_pos e]; decide
    · have : ∀ a : Fin 10, fits .byte (.int (if nI a.1 = -1 then 45 else 48 + nI a.1)) = true := by decide +kernel
      rw [e]
      exact this ⟨x, hx⟩
/-- what chart leaves: its string -/
def g_chart (σ : XS9) (h : XH) (r s : Nat) : XH := hS h (2 * s - 1) (gD (σ (1141 + r)) (fun _ => .int 0) s)
def o_chart (x : Int32) (R : Nat) : XO := if n_lt x R then .inl (some (.ref 4002)) else .inr eIOB
theorem ct_X7_chart {l : Launch} {h : XH} (hl : l.stackTraces = false) {σ : XS9} {R : Nat} (hR : σ 1001 4 = nI R) (hR5 : R ≤ 5) {sp : Nat → Nat} (hsp : ∀ r, r < 5 → σ 1010 r = nI (sp r) ∧ sp r ≤ 5) (hho : ∀ r, r < R → ∀ k, k < sp r → σ (1141 + r) k = -1 ∨ ∃ x, x < 10 ∧ σ (1141 + r) k = nI x) (hdg : xx_dig h) (h0 : h 4000 = none) (h1 : h 4001 = none) (h2 : h 4002 = none) (h3 : h 4003 = none) {x : Int32}  : XEo l m_X7_chart 7 4 40 [.ref 1000, .int x] (setC σ h) (o_chart x R) (if n_lt x R then setC σ (g_chart σ h (cn x) (sp (cn x))) else setC σ h) := by
  refine XMet.of hl rfl rfl (Nat.le_of_ble_eq_true rfl) (fun Y O hh hQ => ?_)
  refine sw_cls (fun hcl => ?_)
  show SW Y 4 40 (setC σ h) 0 [.ref 1000, .int x, xx_d] []
  refine sw_aload_n O (xx_dt dd_X7_chart 0 rfl) rfl ?_
  refine sw_iload_n O (xx_dt dd_X7_chart 1 rfl) rfl ?_
  by_cases q1 : n_lt x R
  · refine sw_callVx (as := [.int x]) (st := []) (st2 := []) (k := 4) (n := 40) (k' := 0) (n' := 0) O (ct_X7_needRegion_ok hl (σ := σ) (R := R) hR (by omega) q1) ce_X7_needRegion ml_X7_87 iv_X7_needRegion cl_X7 rfl (ly_1000 σ h) (xx_dt dd_X7_chart 2 rfl) (by decide) rfl rfl (Nat.le_of_ble_eq_true rfl) rfl ?_
    rw [if_pos q1] at hQ
    refine sw_lsE (ls2 := [.ref 1000, .int (nI (cn x)), xx_d]) (by rw [← q1.1]) ?_
    have hv := q1.2
    have hs5 := (hsp (cn x) (by omega)).2
    refine sw_new (k := 3) (n := 36) (r := 4000) O (xx_dt dd_X7_chart 3 rfl) cl_J4 nw_X7_293 (show setC σ h 4000 = none from (setC_out (by omega)).trans h0) (by omega) ?_
    rw [xx_blk_up]
    refine sw_dup O (xx_dt dd_X7_chart 4 rfl) rfl ?_
    refine sw_callIx (k := 2) (n := 20) (k' := 1) (n' := 16) (as := []) (st := [.ref 4000]) (st2 := [.ref 4000]) O (sb_init hl (h := xx_up (setC σ h) 4000 (1, 4, fun j => defaultValue (tyJ4 j))) (r := 4000) (v := 4001) (xx_up_eq _ _ _) (by omega) ((xx_up_ne (by omega)).trans (show setC σ h 4001 = none from (setC_out (by omega)).trans h1)) (by omega)) ce_J4_init_da8c8 ml_X7_295 ii_J4_init_da8c8 (xx_dt dd_X7_chart 5 rfl) (by decide) rfl rfl (Nat.le_of_ble_eq_true rfl) rfl ?_
    rw [hB_new]
    refine sw_astore_n (ls2 := [.ref 1000, .int (nI (cn x)), .ref 4000]) O (xx_dt dd_X7_chart 6 rfl) (by decide) rfl ?_
    refine sw_aload_n O (xx_dt dd_X7_chart 7 rfl) rfl ?_
    refine sw_get (v := .ref 1005) O (xx_dt dd_X7_chart 8 rfl) cl_X7 fl_X7_43 (ly_1000 σ (hB h 0 0 (fun _ => Value.int 0))) (by decide) rfl ?_
    refine sw_aload_n O (xx_dt dd_X7_chart 9 rfl) rfl ?_
    refine sw_get (v := .ref 1001) O (xx_dt dd_X7_chart 10 rfl) cl_X7 fl_X7_12 (ly_1000 σ (hB h 0 0 (fun _ => Value.int 0))) (by decide) rfl ?_
    refine sw_iload_n O (xx_dt dd_X7_chart 11 rfl) rfl ?_
    refine sw_aload_n O (xx_dt dd_X7_chart 12 rfl) rfl ?_
    refine sw_callVx (as := [.ref 1001, .int (nI (cn x)), .ref 4000]) (st := []) (st2 := []) (k := 2) (n := 20) (k' := 0) (n' := 0) O (ct_X3_draw hl (rg := cn x) (sp := sp (cn x)) (by omega) (hsp (cn x) (by omega)).1 hs5 hdg (hho (cn x) hv)) ce_X3_draw ml_X7_296 iv_X3_draw cl_X3 rfl (ly_1005 σ (hB h 0 0 (fun _ => Value.int 0))) (xx_dt dd_X7_chart 13 rfl) (by decide) rfl rfl (Nat.le_of_ble_eq_true rfl) rfl ?_
    refine sw_aload_n O (xx_dt dd_X7_chart 14 rfl) rfl ?_
    refine xx_wid (k' := 0 + 2) (n' := 0 + (2 * sp (cn x) - 1 + 4)) (by omega) (by omega) (sw_callVx (k := 0) (n := 0) (as := []) (st := []) (st2 := [.ref 4002]) O (sb_toString hl (r := 4000) (v := 4001) (t := 4002) (u := 4003) (c := 2 * sp (cn x) - 1) (b := 0) (G := (gD (σ (1141 + cn x)) (fun _ => Value.int 0) (sp (cn x)))) hB_r hB_v ((hB_o (by omega) (by omega) (by omega)).trans h2) ((hB_o (by omega) (by omega) (by omega)).trans h3) (by omega) (by omega) (by omega) (gD_int (hho (cn x) hv)) (by omega)) ce_J4_toString_0e30d ml_X7_300 iv_J4_toString_0e30d cl_J4 rfl hB_r (xx_dt dd_X7_chart 15 rfl) (by decide) rfl rfl (Nat.le_of_ble_eq_true rfl) rfl ?_)
    rw [hS_up]
    exact sw_aretD (h' := setC σ (g_chart σ h (cn x) (sp (cn x)))) O (xx_dt dd_X7_chart 16 rfl) rfl (.inl ⟨_, rfl⟩) (hS_sub h0 h1) (hS_cls hcl (fun j hj => (gD_int (hho (cn x) hv) j hj).imp fun _ e => e.1)) (by rw [hh]; exact hS_dom h2 h3) (by unfold g_chart; rw [← hS_up, xx_up_ne (by omega), xx_up_eq]; rfl) (by rw [hQ]; exact ⟨by unfold o_chart; rw [if_pos q1], rfl⟩)
  · exact sw_callVt (as := [.int x]) (st := []) (k := 3) (n := 34) (k' := 1) (n' := 6) O (ct_X7_needRegion_no hl (σ := σ) (R := R) hR (by omega) q1) ce_X7_needRegion ml_X7_87 iv_X7_needRegion cl_X7 rfl (ly_1000 σ h) (xx_dt dd_X7_chart 2 rfl) (by decide) rfl rfl (Nat.le_of_ble_eq_true rfl) (by rw [hQ]; exact ⟨by unfold o_chart; rw [if_neg q1], by rw [if_neg q1]⟩)
end
section
/-! ===== the class's digest ===== -/
def f_mixed (a v : Int64) : Int64 := (a * 31) + v
theorem ct_X7_mixed {l : Launch} {h : XH} (hl : l.stackTraces = false) {a v : Int64} : XEx l m_X7_mixed 0 0 0 [.long a, .long v] (h) (some (.long (f_mixed a v))) (h) := by
  refine XMet.of hl rfl rfl (Nat.le_of_ble_eq_true rfl) (fun Y O hh hQ => ?_)
  show SW Y 0 0 (h) 0 [.long a, xx_d, .long v, xx_d] []
  refine sw_lload_n O (xx_dt dd_X7_mixed 0 rfl) rfl ?_
  refine sw_ldc2 O ct_X7_445 (xx_dt dd_X7_mixed 1 rfl) ?_
  refine sw_lmul O (xx_dt dd_X7_mixed 2 rfl) ?_
  refine sw_lload_n O (xx_dt dd_X7_mixed 3 rfl) rfl ?_
  refine sw_ladd O (xx_dt dd_X7_mixed 4 rfl) ?_
  exact sw_lret O (xx_dt dd_X7_mixed 5 rfl) rfl (by rw [hQ]; exact ⟨by unfold f_mixed; rfl, rfl⟩)
def x_withBidder_6 (σ : XS9) (a : Int64) (i w : Nat) (cnt : Nat → Nat) (s0 : Int64) : Int64 := xit (fun i6 s6 => f_mixed s6 (Int32.toInt64 (f_bidderFact σ i i6))) 11 0 s0
def x_withBidder_118 (σ : XS9) (a : Int64) (i w : Nat) (cnt : Nat → Nat) (s0 : Int64) : Int64 := xit (fun i118 s118 => f_mixed (f_mixed s118 (Int32.toInt64 (σ (1031 + i) i118))) (Int32.toInt64 (σ (1022 + i) i118))) (cnt i) 0 s0
def f_withBidder (σ : XS9) (a : Int64) (i w : Nat) (cnt : Nat → Nat) : Int64 := (x_withBidder_118 σ a i w cnt (f_mixed (f_mixed (f_mixed (f_mixed (f_mixed (x_withBidder_6 σ a i w cnt a) (Int32.toInt64 (σ 1040 i))) (Int32.toInt64 (f_paymentOf σ i w))) (Int32.toInt64 (f_dueOf σ i w))) (Int32.toInt64 (σ (1131 + 1) i))) (Int32.toInt64 (σ (1131 + 2) i))))
theorem ct_X7_withBidder {l : Launch} {h : XH} (hl : l.stackTraces = false) {σ : XS9} {w : Nat} (hw : σ 1000 9 = nI w) (hw3 : w < 3) {cnt : Nat → Nat} (hct : ∀ i, i < 6 → σ 1020 i = nI (cnt i) ∧ cnt i ≤ 6) {a : Int64} {i : Nat} (hi : i < 6) : XEx l m_X7_withBidder 3 0 0 [.ref 1000, .long a, .int (nI i)] (setC σ h) (some (.long (f_withBidder σ a i w cnt))) (setC σ h) := by
  refine XMet.of hl rfl rfl (Nat.le_of_ble_eq_true rfl) (fun Y O hh hQ => ?_)
  show SW Y 0 0 (setC σ h) 0 [.ref 1000, .long a, xx_d, .int (nI i), xx_d, xx_d, xx_d] []
  refine sw_lload_n O (xx_dt dd_X7_withBidder 0 rfl) rfl ?_
  refine sw_lstore (ls2 := [.ref 1000, .long a, xx_d, .int (nI i), .long a, xx_d, xx_d]) O (xx_dt dd_X7_withBidder 1 rfl) (by decide) rfl ?_
  refine sw_iconst (x := 0) O (xx_dt dd_X7_withBidder 2 rfl) (by decide) ?_
  refine sw_istore (ls2 := [.ref 1000, .long a, xx_d, .int (nI i), .long a, xx_d, .int 0]) O (xx_dt dd_X7_withBidder 3 rfl) (by decide) rfl ?_
  refine sw_for (fun i6 s6 => f_mixed s6 (Int32.toInt64 (f_bidderFact σ i i6))) (fun _ _ => True) (hp := fun _ => setC σ h) (hd := 6) (lc := fun i6 s6 => [.ref 1000, .long a, xx_d, .int (nI i), .long s6, xx_d, .int (nI i6)]) (N := 11) (fun i6 s6 hi6 hP6 => ⟨trivial, fun kk6 => ?_⟩) 11 0 a (by omega) (trivial) (fun hP6 => ?_)
  · refine sw_iload O (xx_dt dd_X7_withBidder 4 rfl) rfl ?_
    refine sw_bipush (x := 11) O (xx_dt dd_X7_withBidder 5 rfl) (by decide) ?_
    refine sw_icmp_ge (tgt := 34) O (xx_dt dd_X7_withBidder 6 rfl) (by decide) (fun q1 => ?_) (fun q1 => ?_)
    · exact absurd q1 (nI_ge (b := 11) hi6 (by omega))
    · refine sw_lload O (xx_dt dd_X7_withBidder 7 rfl) rfl ?_
      refine sw_aload_n O (xx_dt dd_X7_withBidder 8 rfl) rfl ?_
      refine sw_iload_n O (xx_dt dd_X7_withBidder 9 rfl) rfl ?_
      refine sw_iload O (xx_dt dd_X7_withBidder 10 rfl) rfl ?_
      refine sw_callVx (as := [.int (nI i), .int (nI i6)]) (st := [.long s6]) (st2 := [.int (f_bidderFact σ i i6), .long s6]) O (ct_X7_bidderFact hl (σ := σ) (i := i) (by omega) (v := i6) (by omega)) ce_X7_bidderFact ml_X7_246 iv_X7_bidderFact cl_X7 rfl (ly_1000 σ h) (xx_dt dd_X7_withBidder 11 rfl) (by first | decide | omega) rfl rfl (Nat.le_of_ble_eq_true rfl) rfl ?_
      refine sw_i2l O (xx_dt dd_X7_withBidder 12 rfl) ?_
      refine sw_callSx (as := [.long s6, .long (Int32.toInt64 (f_bidderFact σ i i6))]) (st := []) (st2 := [.long (f_mixed s6 (Int32.toInt64 (f_bidderFact σ i i6)))]) O (ct_X7_mixed hl (a := s6) (v := Int32.toInt64 (f_bidderFact σ i i6))) ce_X7_mixed ml_X7_348 st_X7_mixed (xx_dt dd_X7_withBidder 13 rfl) (by first | decide | omega) rfl rfl (Nat.le_of_ble_eq_true rfl) rfl ?_
      refine sw_lstore (ls2 := [.ref 1000, .long a, xx_d, .int (nI i), .long (f_mixed s6 (Int32.toInt64 (f_bidderFact σ i i6))), xx_d, .int (nI i6)]) O (xx_dt dd_X7_withBidder 14 rfl) (by decide) rfl ?_
      refine sw_iinc (y := nI (i6 + 1)) (ls2 := [.ref 1000, .long a, xx_d, .int (nI i), .long (f_mixed s6 (Int32.toInt64 (f_bidderFact σ i i6))), xx_d, .int (nI (i6 + 1))]) O (xx_dt dd_X7_withBidder 15 rfl) rfl (nI_1 _) (by decide) rfl ?_
      refine sw_goto (tgt := 6) O (xx_dt dd_X7_withBidder 16 rfl) (by decide) ?_
      exact kk6
  · show SW Y _ _ (setC σ h) 6 [.ref 1000, .long a, xx_d, .int (nI i), .long (x_withBidder_6 σ a i w cnt a), xx_d, .int (nI 11)] []
    refine sw_iload O (xx_dt dd_X7_withBidder 4 rfl) rfl ?_
    refine sw_bipush (x := 11) O (xx_dt dd_X7_withBidder 5 rfl) (by decide) ?_
    refine sw_icmp_ge (tgt := 34) O (xx_dt dd_X7_withBidder 6 rfl) (by decide) (fun q1 => ?_) (fun q1 => ?_)
    · refine sw_lload O (xx_dt dd_X7_withBidder 17 rfl) rfl ?_
      refine sw_aload_n O (xx_dt dd_X7_withBidder 18 rfl) rfl ?_
      refine sw_get (v := .ref 1003) O (xx_dt dd_X7_withBidder 19 rfl) cl_X7 fl_X7_29 (ly_1000 σ h) (by decide) rfl ?_
      refine sw_get (v := .ref 1040) O (xx_dt dd_X7_withBidder 20 rfl) cl_X2 fl_X7_200 (ly_1003 σ h) (by decide) rfl ?_
      refine sw_iload_n O (xx_dt dd_X7_withBidder 21 rfl) rfl ?_
      refine sw_iaload (v := .int (σ 1040 i)) O (xx_dt dd_X7_withBidder 22 rfl) (ly_1040 σ h) (pk_in i _ (by omega)) (by rw [nI_clamp (by omega)]; try exact rfl) ?_
      refine sw_i2l O (xx_dt dd_X7_withBidder 23 rfl) ?_
      refine sw_callSx (as := [.long (x_withBidder_6 σ a i w cnt a), .long (Int32.toInt64 (σ 1040 i))]) (st := []) (st2 := [.long (f_mixed (x_withBidder_6 σ a i w cnt a) (Int32.toInt64 (σ 1040 i)))]) O (ct_X7_mixed hl (a := (x_withBidder_6 σ a i w cnt a)) (v := Int32.toInt64 (σ 1040 i))) ce_X7_mixed ml_X7_348 st_X7_mixed (xx_dt dd_X7_withBidder 24 rfl) (by first | decide | omega) rfl rfl (Nat.le_of_ble_eq_true rfl) rfl ?_
      refine sw_lstore (ls2 := [.ref 1000, .long a, xx_d, .int (nI i), .long (f_mixed (x_withBidder_6 σ a i w cnt a) (Int32.toInt64 (σ 1040 i))), xx_d, .int (nI 11)]) O (xx_dt dd_X7_withBidder 25 rfl) (by decide) rfl ?_
      refine sw_lload O (xx_dt dd_X7_withBidder 26 rfl) rfl ?_
      refine sw_aload_n O (xx_dt dd_X7_withBidder 27 rfl) rfl ?_
      refine sw_iload_n O (xx_dt dd_X7_withBidder 28 rfl) rfl ?_
      refine sw_callVx (as := [.int (nI i)]) (st := [.long (f_mixed (x_withBidder_6 σ a i w cnt a) (Int32.toInt64 (σ 1040 i)))]) (st2 := [.int (f_paymentOf σ i w), .long (f_mixed (x_withBidder_6 σ a i w cnt a) (Int32.toInt64 (σ 1040 i)))]) O (ct_X7_paymentOf hl (σ := σ) (w := w) hw (by omega) (i := i) (by omega)) ce_X7_paymentOf ml_X7_282 iv_X7_paymentOf cl_X7 rfl (ly_1000 σ h) (xx_dt dd_X7_withBidder 29 rfl) (by first | decide | omega) rfl rfl (Nat.le_of_ble_eq_true rfl) rfl ?_
      refine sw_i2l O (xx_dt dd_X7_withBidder 30 rfl) ?_
      refine sw_callSx (as := [.long (f_mixed (x_withBidder_6 σ a i w cnt a) (Int32.toInt64 (σ 1040 i))), .long (Int32.toInt64 (f_paymentOf σ i w))]) (st := []) (st2 := [.long (f_mixed (f_mixed (x_withBidder_6 σ a i w cnt a) (Int32.toInt64 (σ 1040 i))) (Int32.toInt64 (f_paymentOf σ i w)))]) O (ct_X7_mixed hl (a := f_mixed (x_withBidder_6 σ a i w cnt a) (Int32.toInt64 (σ 1040 i))) (v := Int32.toInt64 (f_paymentOf σ i w))) ce_X7_mixed ml_X7_348 st_X7_mixed (xx_dt dd_X7_withBidder 31 rfl) (by first | decide | omega) rfl rfl (Nat.le_of_ble_eq_true rfl) rfl ?_
      refine sw_lstore (ls2 := [.ref 1000, .long a, xx_d, .int (nI i), .long (f_mixed (f_mixed (x_withBidder_6 σ a i w cnt a) (Int32.toInt64 (σ 1040 i))) (Int32.toInt64 (f_paymentOf σ i w))), xx_d, .int (nI 11)]) O (xx_dt dd_X7_withBidder 32 rfl) (by decide) rfl ?_
      refine sw_lload O (xx_dt dd_X7_withBidder 33 rfl) rfl ?_
      refine sw_aload_n O (xx_dt dd_X7_withBidder 34 rfl) rfl ?_
      refine sw_iload_n O (xx_dt dd_X7_withBidder 35 rfl) rfl ?_
      refine sw_callVx (as := [.int (nI i)]) (st := [.long (f_mixed (f_mixed (x_withBidder_6 σ a i w cnt a) (Int32.toInt64 (σ 1040 i))) (Int32.toInt64 (f_paymentOf σ i w)))]) (st2 := [.int (f_dueOf σ i w), .long (f_mixed (f_mixed (x_withBidder_6 σ a i w cnt a) (Int32.toInt64 (σ 1040 i))) (Int32.toInt64 (f_paymentOf σ i w)))]) O (ct_X7_dueOf hl (σ := σ) (w := w) hw (by omega) (i := i) (by omega)) ce_X7_dueOf ml_X7_279 iv_X7_dueOf cl_X7 rfl (ly_1000 σ h) (xx_dt dd_X7_withBidder 36 rfl) (by first | decide | omega) rfl rfl (Nat.le_of_ble_eq_true rfl) rfl ?_
      refine sw_i2l O (xx_dt dd_X7_withBidder 37 rfl) ?_
      refine sw_callSx (as := [.long (f_mixed (f_mixed (x_withBidder_6 σ a i w cnt a) (Int32.toInt64 (σ 1040 i))) (Int32.toInt64 (f_paymentOf σ i w))), .long (Int32.toInt64 (f_dueOf σ i w))]) (st := []) (st2 := [.long (f_mixed (f_mixed (f_mixed (x_withBidder_6 σ a i w cnt a) (Int32.toInt64 (σ 1040 i))) (Int32.toInt64 (f_paymentOf σ i w))) (Int32.toInt64 (f_dueOf σ i w)))]) O (ct_X7_mixed hl (a := f_mixed (f_mixed (x_withBidder_6 σ a i w cnt a) (Int32.toInt64 (σ 1040 i))) (Int32.toInt64 (f_paymentOf σ i w))) (v := Int32.toInt64 (f_dueOf σ i w))) ce_X7_mixed ml_X7_348 st_X7_mixed (xx_dt dd_X7_withBidder 38 rfl) (by first | decide | omega) rfl rfl (Nat.le_of_ble_eq_true rfl) rfl ?_
      refine sw_lstore (ls2 := [.ref 1000, .long a, xx_d, .int (nI i), .long (f_mixed (f_mixed (f_mixed (x_withBidder_6 σ a i w cnt a) (Int32.toInt64 (σ 1040 i))) (Int32.toInt64 (f_paymentOf σ i w))) (Int32.toInt64 (f_dueOf σ i w))), xx_d, .int (nI 11)]) O (xx_dt dd_X7_withBidder 39 rfl) (by decide) rfl ?_
      refine sw_lload O (xx_dt dd_X7_withBidder 40 rfl) rfl ?_
      refine sw_aload_n O (xx_dt dd_X7_withBidder 41 rfl) rfl ?_
      refine sw_get (v := .ref 1004) O (xx_dt dd_X7_withBidder 42 rfl) cl_X7 fl_X7_36 (ly_1000 σ h) (by decide) rfl ?_
      refine sw_get (v := .ref 1130) O (xx_dt dd_X7_withBidder 43 rfl) cl_X4 fl_X7_310 (ly_1004 σ h) (by decide) rfl ?_
      refine sw_iconst (x := 1) O (xx_dt dd_X7_withBidder 44 rfl) (by decide) ?_
      refine sw_aaload (v := .ref (1131 + 1)) O (xx_dt dd_X7_withBidder 45 rfl) (by omega) (by omega) (ly_1130 σ h) (by unfold vp_in; decide) rfl ?_
      refine sw_iload_n O (xx_dt dd_X7_withBidder 46 rfl) rfl ?_
      refine sw_iaload (v := .int (σ (1131 + 1) i)) O (xx_dt dd_X7_withBidder 47 rfl) (lr_1130 σ h (k := 1) (by omega)) (pk_in i _ (by omega)) (by rw [nI_clamp (by omega)]; try exact rfl) ?_
      refine sw_i2l O (xx_dt dd_X7_withBidder 48 rfl) ?_
      refine sw_callSx (as := [.long (f_mixed (f_mixed (f_mixed (x_withBidder_6 σ a i w cnt a) (Int32.toInt64 (σ 1040 i))) (Int32.toInt64 (f_paymentOf σ i w))) (Int32.toInt64 (f_dueOf σ i w))), .long (Int32.toInt64 (σ (1131 + 1) i))]) (st := []) (st2 := [.long (f_mixed (f_mixed (f_mixed (f_mixed (x_withBidder_6 σ a i w cnt a) (Int32.toInt64 (σ 1040 i))) (Int32.toInt64 (f_paymentOf σ i w))) (Int32.toInt64 (f_dueOf σ i w))) (Int32.toInt64 (σ (1131 + 1) i)))]) O (ct_X7_mixed hl (a := f_mixed (f_mixed (f_mixed (x_withBidder_6 σ a i w cnt a) (Int32.toInt64 (σ 1040 i))) (Int32.toInt64 (f_paymentOf σ i w))) (Int32.toInt64 (f_dueOf σ i w))) (v := Int32.toInt64 (σ (1131 + 1) i))) ce_X7_mixed ml_X7_348 st_X7_mixed (xx_dt dd_X7_withBidder 49 rfl) (by first | decide | omega) rfl rfl (Nat.le_of_ble_eq_true rfl) rfl ?_
      refine sw_lstore (ls2 := [.ref 1000, .long a, xx_d, .int (nI i), .long (f_mixed (f_mixed (f_mixed (f_mixed (x_withBidder_6 σ a i w cnt a) (Int32.toInt64 (σ 1040 i))) (Int32.toInt64 (f_paymentOf σ i w))) (Int32.toInt64 (f_dueOf σ i w))) (Int32.toInt64 (σ (1131 + 1) i))), xx_d, .int (nI 11)]) O (xx_dt dd_X7_withBidder 50 rfl) (by decide) rfl ?_
      refine sw_lload O (xx_dt dd_X7_withBidder 51 rfl) rfl ?_
      refine sw_aload_n O (xx_dt dd_X7_withBidder 52 rfl) rfl ?_
      refine sw_get (v := .ref 1004) O (xx_dt dd_X7_withBidder 53 rfl) cl_X7 fl_X7_36 (ly_1000 σ h) (by decide) rfl ?_
      refine sw_get (v := .ref 1130) O (xx_dt dd_X7_withBidder 54 rfl) cl_X4 fl_X7_310 (ly_1004 σ h) (by decide) rfl ?_
      refine sw_iconst (x := 2) O (xx_dt dd_X7_withBidder 55 rfl) (by decide) ?_
      refine sw_aaload (v := .ref (1131 + 2)) O (xx_dt dd_X7_withBidder 56 rfl) (by omega) (by omega) (ly_1130 σ h) (by unfold vp_in; decide) rfl ?_
      refine sw_iload_n O (xx_dt dd_X7_withBidder 57 rfl) rfl ?_
      refine sw_iaload (v := .int (σ (1131 + 2) i)) O (xx_dt dd_X7_withBidder 58 rfl) (lr_1130 σ h (k := 2) (by omega)) (pk_in i _ (by omega)) (by rw [nI_clamp (by omega)]; try exact rfl) ?_
      refine sw_i2l O (xx_dt dd_X7_withBidder 59 rfl) ?_
      refine sw_callSx (as := [.long (f_mixed (f_mixed (f_mixed (f_mixed (x_withBidder_6 σ a i w cnt a) (Int32.toInt64 (σ 1040 i))) (Int32.toInt64 (f_paymentOf σ i w))) (Int32.toInt64 (f_dueOf σ i w))) (Int32.toInt64 (σ (1131 + 1) i))), .long (Int32.toInt64 (σ (1131 + 2) i))]) (st := []) (st2 := [.long (f_mixed (f_mixed (f_mixed (f_mixed (f_mixed (x_withBidder_6 σ a i w cnt a) (Int32.toInt64 (σ 1040 i))) (Int32.toInt64 (f_paymentOf σ i w))) (Int32.toInt64 (f_dueOf σ i w))) (Int32.toInt64 (σ (1131 + 1) i))) (Int32.toInt64 (σ (1131 + 2) i)))]) O (ct_X7_mixed hl (a := f_mixed (f_mixed (f_mixed (f_mixed (x_withBidder_6 σ a i w cnt a) (Int32.toInt64 (σ 1040 i))) (Int32.toInt64 (f_paymentOf σ i w))) (Int32.toInt64 (f_dueOf σ i w))) (Int32.toInt64 (σ (1131 + 1) i))) (v := Int32.toInt64 (σ (1131 + 2) i))) ce_X7_mixed ml_X7_348 st_X7_mixed (xx_dt dd_X7_withBidder 60 rfl) (by first | decide | omega) rfl rfl (Nat.le_of_ble_eq_true rfl) rfl ?_
      refine sw_lstore (ls2 := [.ref 1000, .long a, xx_d, .int (nI i), .long (f_mixed (f_mixed (f_mixed (f_mixed (f_mixed (x_withBidder_6 σ a i w cnt a) (Int32.toInt64 (σ 1040 i))) (Int32.toInt64 (f_paymentOf σ i w))) (Int32.toInt64 (f_dueOf σ i w))) (Int32.toInt64 (σ (1131 + 1) i))) (Int32.toInt64 (σ (1131 + 2) i))), xx_d, .int (nI 11)]) O (xx_dt dd_X7_withBidder 61 rfl) (by decide) rfl ?_
      refine sw_iconst (x := 0) O (xx_dt dd_X7_withBidder 62 rfl) (by decide) ?_
      refine sw_istore (ls2 := [.ref 1000, .long a, xx_d, .int (nI i), .long (f_mixed (f_mixed (f_mixed (f_mixed (f_mixed (x_withBidder_6 σ a i w cnt a) (Int32.toInt64 (σ 1040 i))) (Int32.toInt64 (f_paymentOf σ i w))) (Int32.toInt64 (f_dueOf σ i w))) (Int32.toInt64 (σ (1131 + 1) i))) (Int32.toInt64 (σ (1131 + 2) i))), xx_d, .int 0]) O (xx_dt dd_X7_withBidder 63 rfl) (by decide) rfl ?_
      refine sw_for (fun i118 s118 => f_mixed (f_mixed s118 (Int32.toInt64 (σ (1031 + i) i118))) (Int32.toInt64 (σ (1022 + i) i118))) (fun _ _ => True) (hp := fun _ => setC σ h) (hd := 118) (lc := fun i118 s118 => [.ref 1000, .long a, xx_d, .int (nI i), .long s118, xx_d, .int (nI i118)]) (N := (cnt i)) (fun i118 s118 hi118 hP118 => ⟨trivial, fun kk118 => ?_⟩) (cnt i) 0 (f_mixed (f_mixed (f_mixed (f_mixed (f_mixed (x_withBidder_6 σ a i w cnt a) (Int32.toInt64 (σ 1040 i))) (Int32.toInt64 (f_paymentOf σ i w))) (Int32.toInt64 (f_dueOf σ i w))) (Int32.toInt64 (σ (1131 + 1) i))) (Int32.toInt64 (σ (1131 + 2) i))) (by omega) (trivial) (fun hP118 => ?_)
      · refine sw_iload O (xx_dt dd_X7_withBidder 64 rfl) rfl ?_
        refine sw_aload_n O (xx_dt dd_X7_withBidder 65 rfl) rfl ?_
        refine sw_get (v := .ref 1003) O (xx_dt dd_X7_withBidder 66 rfl) cl_X7 fl_X7_29 (ly_1000 σ h) (by decide) rfl ?_
        refine sw_get (v := .ref 1020) O (xx_dt dd_X7_withBidder 67 rfl) cl_X2 fl_X7_173 (ly_1003 σ h) (by decide) rfl ?_
        refine sw_iload_n O (xx_dt dd_X7_withBidder 68 rfl) rfl ?_
        have hz128 := (hct i (by omega)).2
        refine sw_iaload (v := .int (nI (cnt i))) O (xx_dt dd_X7_withBidder 69 rfl) (ly_1020 σ h) (pk_in i _ (by omega)) (by rw [nI_clamp (by omega)]; exact (congrArg Value.int (hct i (by omega)).1)) ?_
        refine sw_icmp_ge (tgt := 178) O (xx_dt dd_X7_withBidder 70 rfl) (by decide) (fun q2 => ?_) (fun q2 => ?_)
        · exact absurd q2 (nI_ge (b := (cnt i)) hi118 (by omega))
        · refine sw_lload O (xx_dt dd_X7_withBidder 71 rfl) rfl ?_
          refine sw_aload_n O (xx_dt dd_X7_withBidder 72 rfl) rfl ?_
          refine sw_get (v := .ref 1003) O (xx_dt dd_X7_withBidder 73 rfl) cl_X7 fl_X7_29 (ly_1000 σ h) (by decide) rfl ?_
          refine sw_get (v := .ref 1030) O (xx_dt dd_X7_withBidder 74 rfl) cl_X2 fl_X7_273 (ly_1003 σ h) (by decide) rfl ?_
          refine sw_iload_n O (xx_dt dd_X7_withBidder 75 rfl) rfl ?_
          refine sw_aaload (v := .ref (1031 + i)) O (xx_dt dd_X7_withBidder 76 rfl) (by omega) (by omega) (ly_1030 σ h) (pk_in i _ (by omega)) (by rw [nI_clamp (by omega)]; try exact rfl) ?_
          refine sw_iload O (xx_dt dd_X7_withBidder 77 rfl) rfl ?_
          refine sw_iaload (v := .int (σ (1031 + i) i118)) O (xx_dt dd_X7_withBidder 78 rfl) (lr_1030 σ h (k := i) (by omega)) (pk_in i118 _ (by omega)) (by rw [nI_clamp (by omega)]; try exact rfl) ?_
          refine sw_i2l O (xx_dt dd_X7_withBidder 79 rfl) ?_
          refine sw_callSx (as := [.long s118, .long (Int32.toInt64 (σ (1031 + i) i118))]) (st := []) (st2 := [.long (f_mixed s118 (Int32.toInt64 (σ (1031 + i) i118)))]) O (ct_X7_mixed hl (a := s118) (v := Int32.toInt64 (σ (1031 + i) i118))) ce_X7_mixed ml_X7_348 st_X7_mixed (xx_dt dd_X7_withBidder 80 rfl) (by first | decide | omega) rfl rfl (Nat.le_of_ble_eq_true rfl) rfl ?_
          refine sw_lstore (ls2 := [.ref 1000, .long a, xx_d, .int (nI i), .long (f_mixed s118 (Int32.toInt64 (σ (1031 + i) i118))), xx_d, .int (nI i118)]) O (xx_dt dd_X7_withBidder 81 rfl) (by decide) rfl ?_
          refine sw_lload O (xx_dt dd_X7_withBidder 82 rfl) rfl ?_
          refine sw_aload_n O (xx_dt dd_X7_withBidder 83 rfl) rfl ?_
          refine sw_get (v := .ref 1003) O (xx_dt dd_X7_withBidder 84 rfl) cl_X7 fl_X7_29 (ly_1000 σ h) (by decide) rfl ?_
          refine sw_get (v := .ref 1021) O (xx_dt dd_X7_withBidder 85 rfl) cl_X2 fl_X7_276 (ly_1003 σ h) (by decide) rfl ?_
          refine sw_iload_n O (xx_dt dd_X7_withBidder 86 rfl) rfl ?_
          refine sw_aaload (v := .ref (1022 + i)) O (xx_dt dd_X7_withBidder 87 rfl) (by omega) (by omega) (ly_1021 σ h) (pk_in i _ (by omega)) (by rw [nI_clamp (by omega)]; try exact rfl) ?_
          refine sw_iload O (xx_dt dd_X7_withBidder 88 rfl) rfl ?_
          refine sw_iaload (v := .int (σ (1022 + i) i118)) O (xx_dt dd_X7_withBidder 89 rfl) (lr_1021 σ h (k := i) (by omega)) (pk_in i118 _ (by omega)) (by rw [nI_clamp (by omega)]; try exact rfl) ?_
          refine sw_i2l O (xx_dt dd_X7_withBidder 90 rfl) ?_
          refine sw_callSx (as := [.long (f_mixed s118 (Int32.toInt64 (σ (1031 + i) i118))), .long (Int32.toInt64 (σ (1022 + i) i118))]) (st := []) (st2 := [.long (f_mixed (f_mixed s118 (Int32.toInt64 (σ (1031 + i) i118))) (Int32.toInt64 (σ (1022 + i) i118)))]) O (ct_X7_mixed hl (a := f_mixed s118 (Int32.toInt64 (σ (1031 + i) i118))) (v := Int32.toInt64 (σ (1022 + i) i118))) ce_X7_mixed ml_X7_348 st_X7_mixed (xx_dt dd_X7_withBidder 91 rfl) (by first | decide | omega) rfl rfl (Nat.le_of_ble_eq_true rfl) rfl ?_
          refine sw_lstore (ls2 := [.ref 1000, .long a, xx_d, .int (nI i), .long (f_mixed (f_mixed s118 (Int32.toInt64 (σ (1031 + i) i118))) (Int32.toInt64 (σ (1022 + i) i118))), xx_d, .int (nI i118)]) O (xx_dt dd_X7_withBidder 92 rfl) (by decide) rfl ?_
          refine sw_iinc (y := nI (i118 + 1)) (ls2 := [.ref 1000, .long a, xx_d, .int (nI i), .long (f_mixed (f_mixed s118 (Int32.toInt64 (σ (1031 + i) i118))) (Int32.toInt64 (σ (1022 + i) i118))), xx_d, .int (nI (i118 + 1))]) O (xx_dt dd_X7_withBidder 93 rfl) rfl (nI_1 _) (by decide) rfl ?_
          refine sw_goto (tgt := 118) O (xx_dt dd_X7_withBidder 94 rfl) (by decide) ?_
          exact kk118
      · show SW Y _ _ (setC σ h) 118 [.ref 1000, .long a, xx_d, .int (nI i), .long (x_withBidder_118 σ a i w cnt (f_mixed (f_mixed (f_mixed (f_mixed (f_mixed (x_withBidder_6 σ a i w cnt a) (Int32.toInt64 (σ 1040 i))) (Int32.toInt64 (f_paymentOf σ i w))) (Int32.toInt64 (f_dueOf σ i w))) (Int32.toInt64 (σ (1131 + 1) i))) (Int32.toInt64 (σ (1131 + 2) i)))), xx_d, .int (nI ((cnt i)))] []
        refine sw_iload O (xx_dt dd_X7_withBidder 64 rfl) rfl ?_
        refine sw_aload_n O (xx_dt dd_X7_withBidder 65 rfl) rfl ?_
        refine sw_get (v := .ref 1003) O (xx_dt dd_X7_withBidder 66 rfl) cl_X7 fl_X7_29 (ly_1000 σ h) (by decide) rfl ?_
        refine sw_get (v := .ref 1020) O (xx_dt dd_X7_withBidder 67 rfl) cl_X2 fl_X7_173 (ly_1003 σ h) (by decide) rfl ?_
        refine sw_iload_n O (xx_dt dd_X7_withBidder 68 rfl) rfl ?_
        have hz128 := (hct i (by omega)).2
        refine sw_iaload (v := .int (nI (cnt i))) O (xx_dt dd_X7_withBidder 69 rfl) (ly_1020 σ h) (pk_in i _ (by omega)) (by rw [nI_clamp (by omega)]; exact (congrArg Value.int (hct i (by omega)).1)) ?_
        refine sw_icmp_ge (tgt := 178) O (xx_dt dd_X7_withBidder 70 rfl) (by decide) (fun q2 => ?_) (fun q2 => ?_)
        · refine sw_lload O (xx_dt dd_X7_withBidder 95 rfl) rfl ?_
          exact sw_lret O (xx_dt dd_X7_withBidder 96 rfl) rfl (by rw [hQ]; exact ⟨by unfold f_withBidder; rfl, rfl⟩)
        · exact absurd (Int32.le_refl _) q2
    · exact absurd (Int32.le_refl _) q1
def x_withLast1_28 (σ : XS9) (a : Int64) (R B K : Nat) (s0 : Int64) : Int64 := xit (fun i28 s28 => f_mixed s28 (Int32.toInt64 (σ (2000 + 101 + K) i28))) R 0 s0
def x_withLast1_69 (σ : XS9) (a : Int64) (R B K : Nat) (s0 : Int64) : Int64 := xit (fun i69 s69 => f_mixed s69 (Int32.toInt64 (σ (2000 + 201 + K) i69))) B 0 s0
def f_withLast1 (σ : XS9) (a : Int64) (R B K : Nat) : Int64 := (x_withLast1_69 σ a R B K (x_withLast1_28 σ a R B K a))
theorem ct_withLast1 {l : Launch} {h : XH} (hl : l.stackTraces = false) {σ : XS9} {R : Nat} (hR : σ 1001 4 = nI R) (hR5 : R ≤ 5) {B : Nat} (hB : σ 1001 9 = nI B) (hB6 : B ≤ 6) {K : Nat} (hK : σ 2000 9 = nI (K + 1)) (hK60 : K < 60) {a : Int64} : XEx l m_X7_withLastRound 1 0 0 [.ref 1000, .long a] (setC σ h) (some (.long (f_withLast1 σ a R B K))) (setC σ h) := by
  refine XMet.of hl rfl rfl (Nat.le_of_ble_eq_true rfl) (fun Y O hh hQ => ?_)
  show SW Y 0 0 (setC σ h) 0 [.ref 1000, .long a, xx_d, xx_d, xx_d, xx_d, xx_d] []
  refine sw_aload_n O (xx_dt dd_X7_withLastRound 0 rfl) rfl ?_
  refine sw_get (v := .ref 2000) O (xx_dt dd_X7_withLastRound 1 rfl) cl_X7 fl_X7_19 (ly_1000 σ h) (by decide) rfl ?_
  refine sw_get (v := .int (nI (K + 1))) O (xx_dt dd_X7_withLastRound 2 rfl) cl_X1 fl_X7_379 (lk_0 σ h (.inl rfl)) (by decide) (congrArg Value.int hK) ?_
  refine sw_if_ne (tgt := 12) O (xx_dt dd_X7_withLastRound 3 rfl) (by decide) (fun q1 => ?_) (fun q1 => ?_)
  · refine sw_aload_n O (xx_dt dd_X7_withLastRound 6 rfl) rfl ?_
    refine sw_get (v := .ref 2000) O (xx_dt dd_X7_withLastRound 7 rfl) cl_X7 fl_X7_19 (ly_1000 σ h) (by decide) rfl ?_
    refine sw_get (v := .int (nI (K + 1))) O (xx_dt dd_X7_withLastRound 8 rfl) cl_X1 fl_X7_379 (lk_0 σ h (.inl rfl)) (by decide) (congrArg Value.int hK) ?_
    refine sw_iconst (x := 1) O (xx_dt dd_X7_withLastRound 9 rfl) (by decide) ?_
    refine sw_isub O (xx_dt dd_X7_withLastRound 10 rfl) ?_
    rw [nI_s1 K]
    refine sw_istore_n (ls2 := [.ref 1000, .long a, xx_d, .int (nI K), xx_d, xx_d, xx_d]) O (xx_dt dd_X7_withLastRound 11 rfl) (by decide) rfl ?_
    refine sw_lload_n O (xx_dt dd_X7_withLastRound 12 rfl) rfl ?_
    refine sw_lstore (ls2 := [.ref 1000, .long a, xx_d, .int (nI K), .long a, xx_d, xx_d]) O (xx_dt dd_X7_withLastRound 13 rfl) (by decide) rfl ?_
    refine sw_iconst (x := 0) O (xx_dt dd_X7_withLastRound 14 rfl) (by decide) ?_
    refine sw_istore (ls2 := [.ref 1000, .long a, xx_d, .int (nI K), .long a, xx_d, .int 0]) O (xx_dt dd_X7_withLastRound 15 rfl) (by decide) rfl ?_
    refine sw_for (fun i28 s28 => f_mixed s28 (Int32.toInt64 (σ (2000 + 101 + K) i28))) (fun _ _ => True) (hp := fun _ => setC σ h) (hd := 28) (lc := fun i28 s28 => [.ref 1000, .long a, xx_d, .int (nI K), .long s28, xx_d, .int (nI i28)]) (N := R) (fun i28 s28 hi28 hP28 => ⟨trivial, fun kk28 => ?_⟩) R 0 a (by omega) (trivial) (fun hP28 => ?_)
    · refine sw_iload O (xx_dt dd_X7_withLastRound 16 rfl) rfl ?_
      refine sw_aload_n O (xx_dt dd_X7_withLastRound 17 rfl) rfl ?_
      refine sw_get (v := .ref 1001) O (xx_dt dd_X7_withLastRound 18 rfl) cl_X7 fl_X7_12 (ly_1000 σ h) (by decide) rfl ?_
      refine sw_get (v := .int (nI R)) O (xx_dt dd_X7_withLastRound 19 rfl) cl_X6 fl_X7_69 (ly_1001 σ h) (by decide) (congrArg Value.int hR) ?_
      refine sw_icmp_ge (tgt := 66) O (xx_dt dd_X7_withLastRound 20 rfl) (by decide) (fun q2 => ?_) (fun q2 => ?_)
      · exact absurd q2 (nI_ge (b := R) hi28 (by omega))
      · refine sw_lload O (xx_dt dd_X7_withLastRound 21 rfl) rfl ?_
        refine sw_aload_n O (xx_dt dd_X7_withLastRound 22 rfl) rfl ?_
        refine sw_get (v := .ref 2000) O (xx_dt dd_X7_withLastRound 23 rfl) cl_X7 fl_X7_19 (ly_1000 σ h) (by decide) rfl ?_
        refine sw_get (v := .ref (2000 + 100)) O (xx_dt dd_X7_withLastRound 24 rfl) cl_X1 fl_X7_258 (lk_0 σ h (.inl rfl)) (by decide) rfl ?_
        refine sw_iload_n O (xx_dt dd_X7_withLastRound 25 rfl) rfl ?_
        refine sw_aaload (v := .ref (2000 + 101 + K)) O (xx_dt dd_X7_withLastRound 26 rfl) (by omega) (by omega) (lk_100 σ h (.inl rfl)) (pk_in K _ (by omega)) (by rw [nI_clamp (by omega)]; try exact rfl) ?_
        refine sw_iload O (xx_dt dd_X7_withLastRound 27 rfl) rfl ?_
        refine sw_iaload (v := .int (σ (2000 + 101 + K) i28)) O (xx_dt dd_X7_withLastRound 28 rfl) (lkr_100 σ h (.inl rfl) (k := K) (by omega)) (pk_in i28 _ (by omega)) (by rw [nI_clamp (by omega)]; try exact rfl) ?_
        refine sw_i2l O (xx_dt dd_X7_withLastRound 29 rfl) ?_
        refine sw_callSx (as := [.long s28, .long (Int32.toInt64 (σ (2000 + 101 + K) i28))]) (st := []) (st2 := [.long (f_mixed s28 (Int32.toInt64 (σ (2000 + 101 + K) i28)))]) O (ct_X7_mixed hl (a := s28) (v := Int32.toInt64 (σ (2000 + 101 + K) i28))) ce_X7_mixed ml_X7_348 st_X7_mixed (xx_dt dd_X7_withLastRound 30 rfl) (by first | decide | omega) rfl rfl (Nat.le_of_ble_eq_true rfl) rfl ?_
        refine sw_lstore (ls2 := [.ref 1000, .long a, xx_d, .int (nI K), .long (f_mixed s28 (Int32.toInt64 (σ (2000 + 101 + K) i28))), xx_d, .int (nI i28)]) O (xx_dt dd_X7_withLastRound 31 rfl) (by decide) rfl ?_
        refine sw_iinc (y := nI (i28 + 1)) (ls2 := [.ref 1000, .long a, xx_d, .int (nI K), .long (f_mixed s28 (Int32.toInt64 (σ (2000 + 101 + K) i28))), xx_d, .int (nI (i28 + 1))]) O (xx_dt dd_X7_withLastRound 32 rfl) rfl (nI_1 _) (by decide) rfl ?_
        refine sw_goto (tgt := 28) O (xx_dt dd_X7_withLastRound 33 rfl) (by decide) ?_
        exact kk28
    · show SW Y _ _ (setC σ h) 28 [.ref 1000, .long a, xx_d, .int (nI K), .long (x_withLast1_28 σ a R B K a), xx_d, .int (nI R)] []
      refine sw_iload O (xx_dt dd_X7_withLastRound 16 rfl) rfl ?_
      refine sw_aload_n O (xx_dt dd_X7_withLastRound 17 rfl) rfl ?_
      refine sw_get (v := .ref 1001) O (xx_dt dd_X7_withLastRound 18 rfl) cl_X7 fl_X7_12 (ly_1000 σ h) (by decide) rfl ?_
      refine sw_get (v := .int (nI R)) O (xx_dt dd_X7_withLastRound 19 rfl) cl_X6 fl_X7_69 (ly_1001 σ h) (by decide) (congrArg Value.int hR) ?_
      refine sw_icmp_ge (tgt := 66) O (xx_dt dd_X7_withLastRound 20 rfl) (by decide) (fun q2 => ?_) (fun q2 => ?_)
      · refine sw_iconst (x := 0) O (xx_dt dd_X7_withLastRound 34 rfl) (by decide) ?_
        refine sw_istore (ls2 := [.ref 1000, .long a, xx_d, .int (nI K), .long (x_withLast1_28 σ a R B K a), xx_d, .int 0]) O (xx_dt dd_X7_withLastRound 35 rfl) (by decide) rfl ?_
        refine sw_for (fun i69 s69 => f_mixed s69 (Int32.toInt64 (σ (2000 + 201 + K) i69))) (fun _ _ => True) (hp := fun _ => setC σ h) (hd := 69) (lc := fun i69 s69 => [.ref 1000, .long a, xx_d, .int (nI K), .long s69, xx_d, .int (nI i69)]) (N := B) (fun i69 s69 hi69 hP69 => ⟨trivial, fun kk69 => ?_⟩) B 0 (x_withLast1_28 σ a R B K a) (by omega) (trivial) (fun hP69 => ?_)
        · refine sw_iload O (xx_dt dd_X7_withLastRound 36 rfl) rfl ?_
          refine sw_aload_n O (xx_dt dd_X7_withLastRound 37 rfl) rfl ?_
          refine sw_get (v := .ref 1001) O (xx_dt dd_X7_withLastRound 38 rfl) cl_X7 fl_X7_12 (ly_1000 σ h) (by decide) rfl ?_
          refine sw_get (v := .int (nI B)) O (xx_dt dd_X7_withLastRound 39 rfl) cl_X6 fl_X7_100 (ly_1001 σ h) (by decide) (congrArg Value.int hB) ?_
          refine sw_icmp_ge (tgt := 107) O (xx_dt dd_X7_withLastRound 40 rfl) (by decide) (fun q3 => ?_) (fun q3 => ?_)
          · exact absurd q3 (nI_ge (b := B) hi69 (by omega))
          · refine sw_lload O (xx_dt dd_X7_withLastRound 41 rfl) rfl ?_
            refine sw_aload_n O (xx_dt dd_X7_withLastRound 42 rfl) rfl ?_
            refine sw_get (v := .ref 2000) O (xx_dt dd_X7_withLastRound 43 rfl) cl_X7 fl_X7_19 (ly_1000 σ h) (by decide) rfl ?_
            refine sw_get (v := .ref (2000 + 200)) O (xx_dt dd_X7_withLastRound 44 rfl) cl_X1 fl_X7_265 (lk_0 σ h (.inl rfl)) (by decide) rfl ?_
            refine sw_iload_n O (xx_dt dd_X7_withLastRound 45 rfl) rfl ?_
            refine sw_aaload (v := .ref (2000 + 201 + K)) O (xx_dt dd_X7_withLastRound 46 rfl) (by omega) (by omega) (lk_200 σ h (.inl rfl)) (pk_in K _ (by omega)) (by rw [nI_clamp (by omega)]; try exact rfl) ?_
            refine sw_iload O (xx_dt dd_X7_withLastRound 47 rfl) rfl ?_
            refine sw_iaload (v := .int (σ (2000 + 201 + K) i69)) O (xx_dt dd_X7_withLastRound 48 rfl) (lkr_200 σ h (.inl rfl) (k := K) (by omega)) (pk_in i69 _ (by omega)) (by rw [nI_clamp (by omega)]; try exact rfl) ?_
            refine sw_i2l O (xx_dt dd_X7_withLastRound 49 rfl) ?_
            refine sw_callSx (as := [.long s69, .long (Int32.toInt64 (σ (2000 + 201 + K) i69))]) (st := []) (st2 := [.long (f_mixed s69 (Int32.toInt64 (σ (2000 + 201 + K) i69)))]) O (ct_X7_mixed hl (a := s69) (v := Int32.toInt64 (σ (2000 + 201 + K) i69))) ce_X7_mixed ml_X7_348 st_X7_mixed (xx_dt dd_X7_withLastRound 50 rfl) (by first | decide | omega) rfl rfl (Nat.le_of_ble_eq_true rfl) rfl ?_
            refine sw_lstore (ls2 := [.ref 1000, .long a, xx_d, .int (nI K), .long (f_mixed s69 (Int32.toInt64 (σ (2000 + 201 + K) i69))), xx_d, .int (nI i69)]) O (xx_dt dd_X7_withLastRound 51 rfl) (by decide) rfl ?_
            refine sw_iinc (y := nI (i69 + 1)) (ls2 := [.ref 1000, .long a, xx_d, .int (nI K), .long (f_mixed s69 (Int32.toInt64 (σ (2000 + 201 + K) i69))), xx_d, .int (nI (i69 + 1))]) O (xx_dt dd_X7_withLastRound 52 rfl) rfl (nI_1 _) (by decide) rfl ?_
            refine sw_goto (tgt := 69) O (xx_dt dd_X7_withLastRound 53 rfl) (by decide) ?_
            exact kk69
        · show SW Y _ _ (setC σ h) 69 [.ref 1000, .long a, xx_d, .int (nI K), .long (x_withLast1_69 σ a R B K (x_withLast1_28 σ a R B K a)), xx_d, .int (nI B)] []
          refine sw_iload O (xx_dt dd_X7_withLastRound 36 rfl) rfl ?_
          refine sw_aload_n O (xx_dt dd_X7_withLastRound 37 rfl) rfl ?_
          refine sw_get (v := .ref 1001) O (xx_dt dd_X7_withLastRound 38 rfl) cl_X7 fl_X7_12 (ly_1000 σ h) (by decide) rfl ?_
          refine sw_get (v := .int (nI B)) O (xx_dt dd_X7_withLastRound 39 rfl) cl_X6 fl_X7_100 (ly_1001 σ h) (by decide) (congrArg Value.int hB) ?_
          refine sw_icmp_ge (tgt := 107) O (xx_dt dd_X7_withLastRound 40 rfl) (by decide) (fun q3 => ?_) (fun q3 => ?_)
          · refine sw_lload O (xx_dt dd_X7_withLastRound 54 rfl) rfl ?_
            exact sw_lret O (xx_dt dd_X7_withLastRound 55 rfl) rfl (by rw [hQ]; exact ⟨by unfold f_withLast1; rfl, rfl⟩)
          · exact absurd (Int32.le_refl _) q3
      · exact absurd (Int32.le_refl _) q2
  · exact absurd q1 (fun e => absurd (congrArg cn e) (by rw [cn_nI (by omega)]; exact Nat.succ_ne_zero _))
def f_withLast0 (σ : XS9) (a : Int64) : Int64 := a
theorem ct_withLast0 {l : Launch} {h : XH} (hl : l.stackTraces = false) {σ : XS9} (hK : σ 2000 9 = 0) {a : Int64} : XEx l m_X7_withLastRound 1 0 0 [.ref 1000, .long a] (setC σ h) (some (.long (f_withLast0 σ a))) (setC σ h) := by
  refine XMet.of hl rfl rfl (Nat.le_of_ble_eq_true rfl) (fun Y O hh hQ => ?_)
  show SW Y 0 0 (setC σ h) 0 [.ref 1000, .long a, xx_d, xx_d, xx_d, xx_d, xx_d] []
  refine sw_aload_n O (xx_dt dd_X7_withLastRound 0 rfl) rfl ?_
  refine sw_get (v := .ref 2000) O (xx_dt dd_X7_withLastRound 1 rfl) cl_X7 fl_X7_19 (ly_1000 σ h) (by decide) rfl ?_
  refine sw_get (v := .int (nI 0)) O (xx_dt dd_X7_withLastRound 2 rfl) cl_X1 fl_X7_379 (lk_0 σ h (.inl rfl)) (by decide) (congrArg Value.int hK) ?_
  refine sw_if_ne (tgt := 12) O (xx_dt dd_X7_withLastRound 3 rfl) (by decide) (fun q1 => ?_) (fun q1 => ?_)
  · exact absurd q1 (fun e => e rfl)
  · refine sw_lload_n O (xx_dt dd_X7_withLastRound 4 rfl) rfl ?_
    exact sw_lret O (xx_dt dd_X7_withLastRound 5 rfl) rfl (by rw [hQ]; exact ⟨by unfold f_withLast0; rfl, rfl⟩)
def f_withLastRound (σ : XS9) (a : Int64) (R B K : Nat) : Int64 := match K with | 0 => f_withLast0 σ a | K + 1 => f_withLast1 σ a R B K
theorem ct_X7_withLastRound {l : Launch} {h : XH} (hl : l.stackTraces = false) {σ : XS9} {R : Nat} (hR : σ 1001 4 = nI R) (hR5 : R ≤ 5) {B : Nat} (hB : σ 1001 9 = nI B) (hB6 : B ≤ 6) {K : Nat} (hK : σ 2000 9 = nI K) (hK60 : K ≤ 60) {a : Int64} : XEx l m_X7_withLastRound 1 0 0 [.ref 1000, .long a] (setC σ h) (some (.long (f_withLastRound σ a R B K))) (setC σ h) := by
  cases K with
  | zero => exact ct_withLast0 hl hK
  | succ K => exact ct_withLast1 hl hR hR5 hB hB6 hK (by omega)
theorem dr_set {l : Launch} {σ : XS9} {h : XH} {c : Nat} {b : Int32} {G : Nat → Value} (hl : l.stackTraces = false) (hc : c ≤ 16) : XEx l m_J4_setLength_d00df 2 0 0 [.ref 4000, .int (nI 0)] (setC σ (hB h c b G)) none (setC σ (hB h 0 (if c = 0 then b else 1) G)) := by
  have t := sb_setLength hl (h := setC σ (hB h c b G)) hB_r hB_v (by omega) (by omega) (by omega) hc
  rw [hB_set] at t
  exact t
def x_withRegion_6 (σ : XS9) (a : Int64) (i C : Nat) (sp : Nat → Nat) (s0 : Int64) : Int64 := xit (fun i6 s6 => f_mixed s6 (Int32.toInt64 (f_regionFact σ C i i6))) 9 0 s0
def x_withRegion_70 (σ : XS9) (a : Int64) (i C : Nat) (sp : Nat → Nat) (s0 : Int64) : Int64 := xit (fun i70 s70 => f_mixed s70 (Int32.toInt64 (σ (1141 + i) i70))) (sp i) 0 s0
def f_withRegion (σ : XS9) (a : Int64) (i C : Nat) (sp : Nat → Nat) : Int64 := (x_withRegion_70 σ a i C sp (f_mixed (x_withRegion_6 σ a i C sp a) (Int32.toInt64 (nI (2 * sp i - 1)))))
theorem ct_X7_withRegion {l : Launch} {h : XH} (hl : l.stackTraces = false) {σ : XS9} {R : Nat} (hR : σ 1001 4 = nI R) (hR5 : R ≤ 5) {C : Nat} (hC : σ 1006 1 = nI C) (hC10 : C ≤ 10) {sp : Nat → Nat} (hsp : ∀ r, r < 5 → σ 1010 r = nI (sp r) ∧ sp r ≤ 5) (hho : ∀ r, r < R → ∀ k, k < sp r → σ (1141 + r) k = -1 ∨ ∃ x, x < 10 ∧ σ (1141 + r) k = nI x) (hdg : xx_dig h) {c : Nat} {b : Int32} {G : Nat → Value} (hc : c ≤ 16) {a : Int64} {i : Nat} (hi : i < R) : XEx l m_X7_withRegion 4 0 0 [.ref 1000, .long a, .int (nI i), .ref 4000] (setC σ (hB h c b G)) (some (.long (f_withRegion σ a i C sp))) (setC σ (hB h (2 * sp i - 1) (if c = 0 then b else 1) (gD (σ (1141 + i)) G (sp i)))) := by
  refine XMet.of hl rfl rfl (Nat.le_of_ble_eq_true rfl) (fun Y O hh hQ => ?_)
  show SW Y 0 0 (setC σ (hB h c b G)) 0 [.ref 1000, .long a, xx_d, .int (nI i), .ref 4000, xx_d, xx_d, xx_d] []
  refine sw_lload_n O (xx_dt dd_X7_withRegion 0 rfl) rfl ?_
  refine sw_lstore (ls2 := [.ref 1000, .long a, xx_d, .int (nI i), .ref 4000, .long a, xx_d, xx_d]) O (xx_dt dd_X7_withRegion 1 rfl) (by decide) rfl ?_
  refine sw_iconst (x := 0) O (xx_dt dd_X7_withRegion 2 rfl) (by decide) ?_
  refine sw_istore (ls2 := [.ref 1000, .long a, xx_d, .int (nI i), .ref 4000, .long a, xx_d, .int 0]) O (xx_dt dd_X7_withRegion 3 rfl) (by decide) rfl ?_
  refine sw_for (fun i6 s6 => f_mixed s6 (Int32.toInt64 (f_regionFact σ C i i6))) (fun _ _ => True) (hp := fun _ => setC σ (hB h c b G)) (hd := 6) (lc := fun i6 s6 => [.ref 1000, .long a, xx_d, .int (nI i), .ref 4000, .long s6, xx_d, .int (nI i6)]) (N := 9) (fun i6 s6 hi6 hP6 => ⟨trivial, fun kk6 => ?_⟩) 9 0 a (by omega) (trivial) (fun hP6 => ?_)
  · refine sw_iload O (xx_dt dd_X7_withRegion 4 rfl) rfl ?_
    refine sw_bipush (x := 9) O (xx_dt dd_X7_withRegion 5 rfl) (by decide) ?_
    refine sw_icmp_ge (tgt := 34) O (xx_dt dd_X7_withRegion 6 rfl) (by decide) (fun q1 => ?_) (fun q1 => ?_)
    · exact absurd q1 (nI_ge (b := 9) hi6 (by omega))
    · refine sw_lload O (xx_dt dd_X7_withRegion 7 rfl) rfl ?_
      refine sw_aload_n O (xx_dt dd_X7_withRegion 8 rfl) rfl ?_
      refine sw_iload_n O (xx_dt dd_X7_withRegion 9 rfl) rfl ?_
      refine sw_iload O (xx_dt dd_X7_withRegion 10 rfl) rfl ?_
      refine sw_callVx (as := [.int (nI i), .int (nI i6)]) (st := [.long s6]) (st2 := [.int (f_regionFact σ C i i6), .long s6]) O (ct_X7_regionFact hl (σ := σ) (C := C) hC (by omega) (r := i) (by omega) (v := i6) (by omega)) ce_X7_regionFact ml_X7_243 iv_X7_regionFact cl_X7 rfl (ly_1000 σ (hB h c b G)) (xx_dt dd_X7_withRegion 11 rfl) (by first | decide | omega) rfl rfl (Nat.le_of_ble_eq_true rfl) rfl ?_
      refine sw_i2l O (xx_dt dd_X7_withRegion 12 rfl) ?_
      refine sw_callSx (as := [.long s6, .long (Int32.toInt64 (f_regionFact σ C i i6))]) (st := []) (st2 := [.long (f_mixed s6 (Int32.toInt64 (f_regionFact σ C i i6)))]) O (ct_X7_mixed hl (a := s6) (v := Int32.toInt64 (f_regionFact σ C i i6))) ce_X7_mixed ml_X7_348 st_X7_mixed (xx_dt dd_X7_withRegion 13 rfl) (by first | decide | omega) rfl rfl (Nat.le_of_ble_eq_true rfl) rfl ?_
      refine sw_lstore (ls2 := [.ref 1000, .long a, xx_d, .int (nI i), .ref 4000, .long (f_mixed s6 (Int32.toInt64 (f_regionFact σ C i i6))), xx_d, .int (nI i6)]) O (xx_dt dd_X7_withRegion 14 rfl) (by decide) rfl ?_
      refine sw_iinc (y := nI (i6 + 1)) (ls2 := [.ref 1000, .long a, xx_d, .int (nI i), .ref 4000, .long (f_mixed s6 (Int32.toInt64 (f_regionFact σ C i i6))), xx_d, .int (nI (i6 + 1))]) O (xx_dt dd_X7_withRegion 15 rfl) rfl (nI_1 _) (by decide) rfl ?_
      refine sw_goto (tgt := 6) O (xx_dt dd_X7_withRegion 16 rfl) (by decide) ?_
      exact kk6
  · show SW Y _ _ (setC σ (hB h c b G)) 6 [.ref 1000, .long a, xx_d, .int (nI i), .ref 4000, .long (x_withRegion_6 σ a i C sp a), xx_d, .int (nI 9)] []
    refine sw_iload O (xx_dt dd_X7_withRegion 4 rfl) rfl ?_
    refine sw_bipush (x := 9) O (xx_dt dd_X7_withRegion 5 rfl) (by decide) ?_
    refine sw_icmp_ge (tgt := 34) O (xx_dt dd_X7_withRegion 6 rfl) (by decide) (fun q1 => ?_) (fun q1 => ?_)
    · refine sw_aload O (xx_dt dd_X7_withRegion 17 rfl) rfl ?_
      refine sw_iconst (x := nI 0) O (xx_dt dd_X7_withRegion 18 rfl) (by decide) ?_
      refine sw_callVx (as := [.int (nI 0)]) (st := []) (st2 := []) O (dr_set hl (σ := σ) (c := c) (b := b) (G := G) (by omega)) ce_J4_setLength_d00df ml_X7_447 iv_J4_setLength_d00df cl_J4 rfl (hB_r) (xx_dt dd_X7_withRegion 19 rfl) (by first | decide | omega) rfl rfl (Nat.le_of_ble_eq_true rfl) rfl ?_
      refine sw_aload_n O (xx_dt dd_X7_withRegion 20 rfl) rfl ?_
      refine sw_get (v := .ref 1005) O (xx_dt dd_X7_withRegion 21 rfl) cl_X7 fl_X7_43 (ly_1000 σ (hB h 0 (if c = 0 then b else 1) G)) (by decide) rfl ?_
      refine sw_aload_n O (xx_dt dd_X7_withRegion 22 rfl) rfl ?_
      refine sw_get (v := .ref 1001) O (xx_dt dd_X7_withRegion 23 rfl) cl_X7 fl_X7_12 (ly_1000 σ (hB h 0 (if c = 0 then b else 1) G)) (by decide) rfl ?_
      refine sw_iload_n O (xx_dt dd_X7_withRegion 24 rfl) rfl ?_
      refine sw_aload O (xx_dt dd_X7_withRegion 25 rfl) rfl ?_
      refine sw_callVx (as := [.ref 1001, .int (nI i), .ref 4000]) (st := []) (st2 := []) O (ct_X3_draw hl (rg := i) (sp := sp i) (by omega) (hsp i (by omega)).1 (hsp i (by omega)).2 hdg (hho i (by omega))) ce_X3_draw ml_X7_296 iv_X3_draw cl_X3 rfl (ly_1005 σ (hB h (2 * sp i - 1) (if c = 0 then b else 1) (gD (σ (1141 + i)) G (sp i)))) (xx_dt dd_X7_withRegion 26 rfl) (by first | decide | omega) rfl rfl (Nat.le_of_ble_eq_true rfl) rfl ?_
      refine sw_lload O (xx_dt dd_X7_withRegion 27 rfl) rfl ?_
      refine sw_aload O (xx_dt dd_X7_withRegion 28 rfl) rfl ?_
      refine sw_callVx (as := []) (st := [.long (x_withRegion_6 σ a i C sp a)]) (st2 := [.int (nI (2 * sp i - 1)), .long (x_withRegion_6 σ a i C sp a)]) O (sb_length hl hB_r) ce_J4_length_8abf5 ml_X7_450 iv_J4_length_8abf5 cl_J4 rfl (hB_r) (xx_dt dd_X7_withRegion 29 rfl) (by first | decide | omega) rfl rfl (Nat.le_of_ble_eq_true rfl) rfl ?_
      refine sw_i2l O (xx_dt dd_X7_withRegion 30 rfl) ?_
      refine sw_callSx (as := [.long (x_withRegion_6 σ a i C sp a), .long (Int32.toInt64 (nI (2 * sp i - 1)))]) (st := []) (st2 := [.long (f_mixed (x_withRegion_6 σ a i C sp a) (Int32.toInt64 (nI (2 * sp i - 1))))]) O (ct_X7_mixed hl (a := (x_withRegion_6 σ a i C sp a)) (v := Int32.toInt64 (nI (2 * sp i - 1)))) ce_X7_mixed ml_X7_348 st_X7_mixed (xx_dt dd_X7_withRegion 31 rfl) (by first | decide | omega) rfl rfl (Nat.le_of_ble_eq_true rfl) rfl ?_
      refine sw_lstore (ls2 := [.ref 1000, .long a, xx_d, .int (nI i), .ref 4000, .long (f_mixed (x_withRegion_6 σ a i C sp a) (Int32.toInt64 (nI (2 * sp i - 1)))), xx_d, .int (nI 9)]) O (xx_dt dd_X7_withRegion 32 rfl) (by decide) rfl ?_
      refine sw_iconst (x := 0) O (xx_dt dd_X7_withRegion 33 rfl) (by decide) ?_
      refine sw_istore (ls2 := [.ref 1000, .long a, xx_d, .int (nI i), .ref 4000, .long (f_mixed (x_withRegion_6 σ a i C sp a) (Int32.toInt64 (nI (2 * sp i - 1)))), xx_d, .int 0]) O (xx_dt dd_X7_withRegion 34 rfl) (by decide) rfl ?_
      refine sw_for (fun i70 s70 => f_mixed s70 (Int32.toInt64 (σ (1141 + i) i70))) (fun _ _ => True) (hp := fun _ => setC σ (hB h (2 * sp i - 1) (if c = 0 then b else 1) (gD (σ (1141 + i)) G (sp i)))) (hd := 70) (lc := fun i70 s70 => [.ref 1000, .long a, xx_d, .int (nI i), .ref 4000, .long s70, xx_d, .int (nI i70)]) (N := (sp i)) (fun i70 s70 hi70 hP70 => ⟨trivial, fun kk70 => ?_⟩) (sp i) 0 (f_mixed (x_withRegion_6 σ a i C sp a) (Int32.toInt64 (nI (2 * sp i - 1)))) (by omega) (trivial) (fun hP70 => ?_)
      · refine sw_iload O (xx_dt dd_X7_withRegion 35 rfl) rfl ?_
        refine sw_aload_n O (xx_dt dd_X7_withRegion 36 rfl) rfl ?_
        refine sw_get (v := .ref 1001) O (xx_dt dd_X7_withRegion 37 rfl) cl_X7 fl_X7_12 (ly_1000 σ (hB h (2 * sp i - 1) (if c = 0 then b else 1) (gD (σ (1141 + i)) G (sp i)))) (by decide) rfl ?_
        refine sw_get (v := .ref 1010) O (xx_dt dd_X7_withRegion 38 rfl) cl_X6 fl_X7_285 (ly_1001 σ (hB h (2 * sp i - 1) (if c = 0 then b else 1) (gD (σ (1141 + i)) G (sp i)))) (by decide) rfl ?_
        refine sw_iload_n O (xx_dt dd_X7_withRegion 39 rfl) rfl ?_
        have hz80 := (hsp i (by omega)).2
        refine sw_iaload (v := .int (nI (sp i))) O (xx_dt dd_X7_withRegion 40 rfl) (ly_1010 σ (hB h (2 * sp i - 1) (if c = 0 then b else 1) (gD (σ (1141 + i)) G (sp i)))) (pk_in i _ (by omega)) (by rw [nI_clamp (by omega)]; exact (congrArg Value.int (hsp i (by omega)).1)) ?_
        refine sw_icmp_ge (tgt := 110) O (xx_dt dd_X7_withRegion 41 rfl) (by decide) (fun q2 => ?_) (fun q2 => ?_)
        · exact absurd q2 (nI_ge (b := (sp i)) hi70 (by omega))
        · refine sw_lload O (xx_dt dd_X7_withRegion 42 rfl) rfl ?_
          refine sw_aload_n O (xx_dt dd_X7_withRegion 43 rfl) rfl ?_
          refine sw_get (v := .ref 1005) O (xx_dt dd_X7_withRegion 44 rfl) cl_X7 fl_X7_43 (ly_1000 σ (hB h (2 * sp i - 1) (if c = 0 then b else 1) (gD (σ (1141 + i)) G (sp i)))) (by decide) rfl ?_
          refine sw_get (v := .ref 1140) O (xx_dt dd_X7_withRegion 45 rfl) cl_X3 fl_X7_290 (ly_1005 σ (hB h (2 * sp i - 1) (if c = 0 then b else 1) (gD (σ (1141 + i)) G (sp i)))) (by decide) rfl ?_
          refine sw_iload_n O (xx_dt dd_X7_withRegion 46 rfl) rfl ?_
          refine sw_aaload (v := .ref (1141 + i)) O (xx_dt dd_X7_withRegion 47 rfl) (by omega) (by omega) (ly_1140 σ (hB h (2 * sp i - 1) (if c = 0 then b else 1) (gD (σ (1141 + i)) G (sp i)))) (pk_in i _ (by omega)) (by rw [nI_clamp (by omega)]; try exact rfl) ?_
          refine sw_iload O (xx_dt dd_X7_withRegion 48 rfl) rfl ?_
          refine sw_iaload (v := .int (σ (1141 + i) i70)) O (xx_dt dd_X7_withRegion 49 rfl) (lr_1140 σ (hB h (2 * sp i - 1) (if c = 0 then b else 1) (gD (σ (1141 + i)) G (sp i))) (k := i) (by omega)) (pk_in i70 _ (by omega)) (by rw [nI_clamp (by omega)]; try exact rfl) ?_
          refine sw_i2l O (xx_dt dd_X7_withRegion 50 rfl) ?_
          refine sw_callSx (as := [.long s70, .long (Int32.toInt64 (σ (1141 + i) i70))]) (st := []) (st2 := [.long (f_mixed s70 (Int32.toInt64 (σ (1141 + i) i70)))]) O (ct_X7_mixed hl (a := s70) (v := Int32.toInt64 (σ (1141 + i) i70))) ce_X7_mixed ml_X7_348 st_X7_mixed (xx_dt dd_X7_withRegion 51 rfl) (by first | decide | omega) rfl rfl (Nat.le_of_ble_eq_true rfl) rfl ?_
          refine sw_lstore (ls2 := [.ref 1000, .long a, xx_d, .int (nI i), .ref 4000, .long (f_mixed s70 (Int32.toInt64 (σ (1141 + i) i70))), xx_d, .int (nI i70)]) O (xx_dt dd_X7_withRegion 52 rfl) (by decide) rfl ?_
          refine sw_iinc (y := nI (i70 + 1)) (ls2 := [.ref 1000, .long a, xx_d, .int (nI i), .ref 4000, .long (f_mixed s70 (Int32.toInt64 (σ (1141 + i) i70))), xx_d, .int (nI (i70 + 1))]) O (xx_dt dd_X7_withRegion 53 rfl) rfl (nI_1 _) (by decide) rfl ?_
          refine sw_goto (tgt := 70) O (xx_dt dd_X7_withRegion 54 rfl) (by decide) ?_
          exact kk70
      · show SW Y _ _ (setC σ (hB h (2 * sp i - 1) (if c = 0 then b else 1) (gD (σ (1141 + i)) G (sp i)))) 70 [.ref 1000, .long a, xx_d, .int (nI i), .ref 4000, .long (x_withRegion_70 σ a i C sp (f_mixed (x_withRegion_6 σ a i C sp a) (Int32.toInt64 (nI (2 * sp i - 1))))), xx_d, .int (nI ((sp i)))] []
        refine sw_iload O (xx_dt dd_X7_withRegion 35 rfl) rfl ?_
        refine sw_aload_n O (xx_dt dd_X7_withRegion 36 rfl) rfl ?_
        refine sw_get (v := .ref 1001) O (xx_dt dd_X7_withRegion 37 rfl) cl_X7 fl_X7_12 (ly_1000 σ (hB h (2 * sp i - 1) (if c = 0 then b else 1) (gD (σ (1141 + i)) G (sp i)))) (by decide) rfl ?_
        refine sw_get (v := .ref 1010) O (xx_dt dd_X7_withRegion 38 rfl) cl_X6 fl_X7_285 (ly_1001 σ (hB h (2 * sp i - 1) (if c = 0 then b else 1) (gD (σ (1141 + i)) G (sp i)))) (by decide) rfl ?_
        refine sw_iload_n O (xx_dt dd_X7_withRegion 39 rfl) rfl ?_
        have hz80 := (hsp i (by omega)).2
        refine sw_iaload (v := .int (nI (sp i))) O (xx_dt dd_X7_withRegion 40 rfl) (ly_1010 σ (hB h (2 * sp i - 1) (if c = 0 then b else 1) (gD (σ (1141 + i)) G (sp i)))) (pk_in i _ (by omega)) (by rw [nI_clamp (by omega)]; exact (congrArg Value.int (hsp i (by omega)).1)) ?_
        refine sw_icmp_ge (tgt := 110) O (xx_dt dd_X7_withRegion 41 rfl) (by decide) (fun q2 => ?_) (fun q2 => ?_)
        · refine sw_lload O (xx_dt dd_X7_withRegion 55 rfl) rfl ?_
          exact sw_lret O (xx_dt dd_X7_withRegion 56 rfl) rfl (by rw [hQ]; exact ⟨by unfold f_withRegion; rfl, rfl⟩)
        · exact absurd (Int32.le_refl _) q2
    · exact absurd (Int32.le_refl _) q1
end
section
/-! ===== the class's digest: the whole ===== -/
theorem lyK_in {H : XH} {b i : Nat} {s s' : Nat → Int32} : ∀ c, lyK b i s = some c → ∃ c', lyK b i s' = some c' ∧ c'.2.1 = c.2.1 ∧ ∀ j, xx_in H (c'.2.2 j) → xx_in H (c.2.2 j) := by
  intro c e
  unfold lyK at e ⊢
  by_cases q0 : 100 ≤ i
  · rw [if_pos q0] at e ⊢
    by_cases w0 : i = 100
    · rw [if_pos w0] at e ⊢
      cases e
      exact ⟨_, rfl, rfl, fun j h => h⟩
    rw [if_neg w0] at e ⊢
    by_cases w1 : i ≤ 160
    · rw [if_pos w1] at e ⊢
      cases e
      exact ⟨_, rfl, rfl, fun j _ => trivial⟩
    rw [if_neg w1] at e ⊢
    by_cases w2 : i = 200
    · rw [if_pos w2] at e ⊢
      cases e
      exact ⟨_, rfl, rfl, fun j h => h⟩
    rw [if_neg w2] at e ⊢
    by_cases w3 : 200 < i ∧ i ≤ 260
    · rw [if_pos w3] at e ⊢
      cases e
      exact ⟨_, rfl, rfl, fun j _ => trivial⟩
    rw [if_neg w3] at e ⊢
    by_cases w4 : i = 300
    · rw [if_pos w4] at e ⊢
      cases e
      exact ⟨_, rfl, rfl, fun j h => h⟩
    rw [if_neg w4] at e ⊢
    by_cases w5 : 300 < i ∧ i ≤ 360
    · rw [if_pos w5] at e ⊢
      cases e
      exact ⟨_, rfl, rfl, fun j _ => trivial⟩
    rw [if_neg w5] at e ⊢
    cases e
  · rw [if_neg q0] at e ⊢
    split at e <;> first | (cases e; done) | (cases e; exact ⟨_, rfl, rfl, fun j _ => trivial⟩) | (cases e; refine ⟨_, rfl, rfl, fun j => ?_⟩; (try dsimp only); split <;> first | exact id | exact fun _ => trivial)
theorem lyC_in {H : XH} {r : Nat} {s s' : Nat → Int32} : ∀ c, lyC r s = some c → ∃ c', lyC r s' = some c' ∧ c'.2.1 = c.2.1 ∧ ∀ j, xx_in H (c'.2.2 j) → xx_in H (c.2.2 j) := by
  intro c e
  unfold lyC at e ⊢
  by_cases q1 : 3000 ≤ r
  · rw [if_pos q1] at e ⊢
    exact lyK_in c e
  rw [if_neg q1] at e ⊢
  by_cases q2 : 2000 ≤ r
  · rw [if_pos q2] at e ⊢
    exact lyK_in c e
  rw [if_neg q2] at e ⊢
  by_cases w0 : 1021 < r ∧ r ≤ 1027
  · rw [if_pos w0] at e ⊢
    cases e
    exact ⟨_, rfl, rfl, fun j _ => trivial⟩
  rw [if_neg w0] at e ⊢
  by_cases w1 : 1030 < r ∧ r ≤ 1036
  · rw [if_pos w1] at e ⊢
    cases e
    exact ⟨_, rfl, rfl, fun j _ => trivial⟩
  rw [if_neg w1] at e ⊢
  by_cases w2 : 1050 < r ∧ r ≤ 1114
  · rw [if_pos w2] at e ⊢
    cases e
    exact ⟨_, rfl, rfl, fun j _ => trivial⟩
  rw [if_neg w2] at e ⊢
  by_cases w3 : 1120 < r ∧ r ≤ 1124
  · rw [if_pos w3] at e ⊢
    cases e
    exact ⟨_, rfl, rfl, fun j _ => trivial⟩
  rw [if_neg w3] at e ⊢
  by_cases w4 : 1130 < r ∧ r ≤ 1133
  · rw [if_pos w4] at e ⊢
    cases e
    exact ⟨_, rfl, rfl, fun j _ => trivial⟩
  rw [if_neg w4] at e ⊢
  by_cases w5 : 1140 < r ∧ r ≤ 1145
  · rw [if_pos w5] at e ⊢
    cases e
    exact ⟨_, rfl, rfl, fun j _ => trivial⟩
  rw [if_neg w5] at e ⊢
  split at e <;> first | (cases e; done) | (cases e; exact ⟨_, rfl, rfl, fun j h => h⟩) | (cases e; exact ⟨_, rfl, rfl, fun j _ => trivial⟩) | (cases e; refine ⟨_, rfl, rfl, fun j => ?_⟩; (try dsimp only); split <;> first | exact id | exact fun _ => trivial)
theorem setC_dom {σ σ' : XS9} {h : XH} {r : Nat} (hr : (setC σ h r).isSome = true) : (setC σ' h r).isSome = true := by
  unfold setC at *
  split
  · rename_i e
    rw [if_pos e] at hr
    cases e2 : lyC r (σ r) with
    | none => rw [e2] at hr; cases hr
    | some c =>
      obtain ⟨c', e3, -⟩ := lyC_in (H := fun _ => none) (s' := σ' r) c e2
      rw [e3]
      rfl
  · rename_i e
    rw [if_neg e] at hr
    exact hr
theorem setC_cls {σ σ' : XS9} {h : XH} (hcl : xx_cls (setC σ h)) : xx_cls (setC σ' h) := by
  have mono : ∀ v, xx_in (setC σ h) v → xx_in (setC σ' h) v := fun v hv => xx_in_of (fun a ha => setC_dom ha) hv
  intro r c j hc hj
  by_cases e : 1000 ≤ r ∧ r < 4000
  · unfold setC at hc
    rw [if_pos e] at hc
    obtain ⟨c', e1, e2, e3⟩ := lyC_in (H := setC σ h) (s' := σ r) c hc
    have := hcl r c' j (by unfold setC; rw [if_pos e]; exact e1) (by rw [e2]; exact hj)
    exact mono _ (e3 j this)
  · have : setC σ h r = some c := by
      unfold setC at hc ⊢
      rw [if_neg e] at hc ⊢
      exact hc
    exact mono _ (hcl r c j this hj)
theorem hB_sub {σ : XS9} {h : XH} {c : Nat} {b : Int32} {G : Nat → Value} (h0 : h 4000 = none) (h1 : h 4001 = none) : xx_sub (setC σ h) (setC σ (hB h c b G)) := by
  intro q d hq
  unfold setC at hq ⊢
  split at hq
  · rename_i e
    rw [if_pos e]
    exact hq
  · rename_i e
    rw [if_neg e]
    unfold hB xx_up
    by_cases a1 : q = 4001
    · rw [a1, h1] at hq
      cases hq
    · rw [if_neg a1]
      by_cases a0 : q = 4000
      · rw [a0, h0] at hq
        cases hq
      · rw [if_neg a0]
        exact hq
abbrev hX9 (h : XH) (c : Nat) (b : Int32) (G : Nat → Value) : XH := hB h c b G
abbrev XG9 : Type := Int64 × Nat × Int32 × (Nat → Value)
def s_dgR (σ : XS9) (C : Nat) (sp : Nat → Nat) (i : Nat) (s : XG9) : XG9 := (f_withRegion σ s.1 i C sp, 2 * sp i - 1, (if s.2.1 = 0 then s.2.2.1 else 1), gD (σ (1141 + i)) s.2.2.2 (sp i))
def d_dg0 (σ : XS9) (K B R C w : Nat) (cnt : Nat → Nat) : Int64 := xit (fun i s => f_mixed s (f_saleFact σ K B R C w cnt i).toInt64) 17 0 58282
def d_dgR (σ : XS9) (K B R C w : Nat) (cnt sp : Nat → Nat) : XG9 := xit (s_dgR σ C sp) R 0 (d_dg0 σ K B R C w cnt, 0, 0, fun _ => .int 0)
def d_dgB (σ : XS9) (B w : Nat) (cnt : Nat → Nat) (a : Int64) : Int64 := xit (fun i s => f_withBidder σ s i w cnt) B 0 a
def d_dg1 (σ : XS9) (K B R C w : Nat) (cnt sp : Nat → Nat) : Int64 := f_withLastRound σ (d_dgB σ B w cnt (d_dgR σ K B R C w cnt sp).1) R B K
def g_dgS (σ : XS9) (C : Nat) (rg : Nat → Nat) : XS9 := if 0 < C then g_cheapest (g_cheapest σ 1 C rg) 2 C rg else σ
def d_dgS (σ : XS9) (C : Nat) (rg : Nat → Nat) (a : Int64) : Int64 := if 0 < C then f_mixed (f_mixed a (f_cheapest σ 1 C rg).toInt64) (f_cheapest (g_cheapest σ 1 C rg) 2 C rg).toInt64 else a
def f_digest (σ : XS9) (K B R C w : Nat) (cnt sp rg : Nat → Nat) : Int64 := f_mixed (d_dgS σ C rg (d_dg1 σ K B R C w cnt sp)) (if f_isSound (g_dgS σ C rg) R B w K = 0 then 0 else 1)
def g_digest (σ : XS9) (K B R C w : Nat) (rg : Nat → Nat) : XS9 := g_isSound (g_dgS σ C rg) R B w K
theorem ct_X7_digest {l : Launch} {h : XH} (hl : l.stackTraces = false) {σ : XS9} {K : Nat} (hK : σ 2000 9 = nI K) (hK60 : K ≤ 60) {B : Nat} (hB : σ 1001 9 = nI B) (hB6 : B ≤ 6) {R : Nat} (hR : σ 1001 4 = nI R) (hR5 : R ≤ 5) {C : Nat} (hC : σ 1006 1 = nI C) (hC10 : C ≤ 10) {w : Nat} (hw : σ 1000 9 = nI w) (hw3 : w < 3) {cnt : Nat → Nat} (hct : ∀ i, i < 6 → σ 1020 i = nI (cnt i) ∧ cnt i ≤ 6) (ham : ∀ i k, i < 6 → k < 6 → 0 ≤ σ (1031 + i) k) {sp : Nat → Nat} (hsp : ∀ r, r < 5 → σ 1010 r = nI (sp r) ∧ sp r ≤ 5) (hho : ∀ r, r < R → ∀ k, k < sp r → σ (1141 + r) k = -1 ∨ ∃ x, x < 10 ∧ σ (1141 + r) k = nI x) {rg : Nat → Nat} (hrg : ∀ i, i < C → σ 1151 i = nI (rg i) ∧ rg i < 5) (hdg : xx_dig h) (h0 : h 4000 = none) (h1 : h 4001 = none)  : XEx l m_X7_digest 14 2 20 [.ref 1000] (setC σ h) (some (.long (f_digest σ K B R C w cnt sp rg))) (setC (g_digest σ K B R C w rg) h) := by
  refine XMet.of hl rfl rfl (Nat.le_of_ble_eq_true rfl) (fun Y O hh hQ => ?_)
  refine sw_cls (fun hcl => ?_)
  show SW Y 2 20 (setC σ h) 0 [.ref 1000, xx_d, xx_d, xx_d, xx_d] []
  refine sw_ldc2 O ct_X7_346 (xx_dt dd_X7_digest 0 rfl) ?_
  refine sw_lstore_n (ls2 := [.ref 1000, .long 58282, xx_d, xx_d, xx_d]) O (xx_dt dd_X7_digest 1 rfl) (by decide) rfl ?_
  refine sw_iconst (x := 0) O (xx_dt dd_X7_digest 2 rfl) (by decide) ?_
  refine sw_istore_n (ls2 := [.ref 1000, .long 58282, xx_d, .int 0, xx_d]) O (xx_dt dd_X7_digest 3 rfl) (by decide) rfl ?_
  refine sw_for (fun i s => f_mixed s (f_saleFact σ K B R C w cnt i).toInt64) (fun _ _ => True) (hp := fun _ => setC σ h) (hd := 6) (lc := fun i s => [.ref 1000, .long s, xx_d, .int (nI i), xx_d]) (N := 17) (fun i6 s6 hi6 hP6 => ⟨trivial, fun kk6 => ?_⟩) 17 0 58282 (by omega) trivial (fun hP6 => ?_)
  · refine sw_iload_n O (xx_dt dd_X7_digest 4 rfl) rfl ?_
    refine sw_bipush (x := 17) O (xx_dt dd_X7_digest 5 rfl) (by decide) ?_
    refine sw_icmp_ge (tgt := 29) O (xx_dt dd_X7_digest 6 rfl) (by decide) (fun q => absurd q (nI_ge (b := 17) hi6 (by omega))) (fun q => ?_)
    refine sw_lload_n O (xx_dt dd_X7_digest 7 rfl) rfl ?_
    refine sw_aload_n O (xx_dt dd_X7_digest 8 rfl) rfl ?_
    refine sw_iload_n O (xx_dt dd_X7_digest 9 rfl) rfl ?_
    refine sw_callVx (k := 2) (n := 20) (k' := 0) (n' := 0) (as := [.int (nI i6)]) (st := [.long s6]) (st2 := [.int (f_saleFact σ K B R C w cnt i6), .long s6]) O (ct_X7_saleFact hl hK hK60 hB hB6 hR hR5 hC hC10 hw hw3 hct ham (v := i6) (by omega)) ce_X7_saleFact ml_X7_304 iv_X7_saleFact cl_X7 rfl (ly_1000 σ h) (xx_dt dd_X7_digest 10 rfl) (by decide) rfl rfl (Nat.le_of_ble_eq_true rfl) rfl ?_
    refine sw_i2l O (xx_dt dd_X7_digest 11 rfl) ?_
    refine sw_callSx (k := 2) (n := 20) (k' := 0) (n' := 0) (as := [.long s6, .long (Int32.toInt64 (f_saleFact σ K B R C w cnt i6))]) (st := []) (st2 := [.long (f_mixed s6 (Int32.toInt64 (f_saleFact σ K B R C w cnt i6)))]) O (ct_X7_mixed hl) ce_X7_mixed ml_X7_348 st_X7_mixed (xx_dt dd_X7_digest 12 rfl) (by decide) rfl rfl (Nat.le_of_ble_eq_true rfl) rfl ?_
    refine sw_lstore_n (ls2 := [.ref 1000, .long (f_mixed s6 (Int32.toInt64 (f_saleFact σ K B R C w cnt i6))), xx_d, .int (nI i6), xx_d]) O (xx_dt dd_X7_digest 13 rfl) (by decide) rfl ?_
    refine sw_iinc (y := nI (i6 + 1)) (ls2 := [.ref 1000, .long (f_mixed s6 (Int32.toInt64 (f_saleFact σ K B R C w cnt i6))), xx_d, .int (nI (i6 + 1)), xx_d]) O (xx_dt dd_X7_digest 14 rfl) rfl (nI_1 _) (by decide) rfl ?_
    refine sw_goto (tgt := 6) O (xx_dt dd_X7_digest 15 rfl) (by decide) ?_
    exact kk6
  show SW Y 2 20 (setC σ h) 6 [.ref 1000, .long (d_dg0 σ K B R C w cnt), xx_d, .int (nI 17), xx_d] []
  refine sw_iload_n O (xx_dt dd_X7_digest 4 rfl) rfl ?_
  refine sw_bipush (x := 17) O (xx_dt dd_X7_digest 5 rfl) (by decide) ?_
  refine sw_icmp_ge (tgt := 29) O (xx_dt dd_X7_digest 6 rfl) (by decide) (fun q => ?_) (fun q => absurd (Int32.le_refl _) q)
  refine sw_new (k := 1) (n := 16) (r := 4000) O (xx_dt dd_X7_digest 16 rfl) cl_J4 nw_X7_293 (show setC σ h 4000 = none from (setC_out (by omega)).trans h0) (by omega) ?_
  rw [xx_blk_up]
  refine sw_dup O (xx_dt dd_X7_digest 17 rfl) rfl ?_
  refine sw_callIx (k := 0) (n := 0) (k' := 1) (n' := 16) (as := []) (st := [.ref 4000]) (st2 := [.ref 4000]) O (sb_init hl (h := xx_up (setC σ h) 4000 (1, 4, fun j => defaultValue (tyJ4 j))) (r := 4000) (v := 4001) (xx_up_eq _ _ _) (by omega) ((xx_up_ne (by omega)).trans (show setC σ h 4001 = none from (setC_out (by omega)).trans h1)) (by omega)) ce_J4_init_da8c8 ml_X7_295 ii_J4_init_da8c8 (xx_dt dd_X7_digest 18 rfl) (by decide) rfl rfl (Nat.le_of_ble_eq_true rfl) rfl ?_
  rw [hB_new]
  refine sw_astore_n (ls2 := [.ref 1000, .long (d_dg0 σ K B R C w cnt), xx_d, .ref 4000, xx_d]) O (xx_dt dd_X7_digest 19 rfl) (by decide) rfl ?_
  refine sw_iconst (x := 0) O (xx_dt dd_X7_digest 20 rfl) (by decide) ?_
  refine sw_istore (ls2 := [.ref 1000, .long (d_dg0 σ K B R C w cnt), xx_d, .ref 4000, .int 0]) O (xx_dt dd_X7_digest 21 rfl) (by decide) rfl ?_
  refine sw_for (S := XG9) (s_dgR σ C sp) (fun _ s => s.2.1 ≤ 16) (hp := fun s => setC σ (hX9 h s.2.1 s.2.2.1 s.2.2.2)) (hd := 40) (lc := fun i s => [.ref 1000, .long s.1, xx_d, .ref 4000, .int (nI i)]) (N := R) (fun i6 s6 hi6 hP6 => ⟨?_, fun kk6 => ?_⟩) R 0 (d_dg0 σ K B R C w cnt, 0, 0, fun _ => .int 0) (by omega) (Nat.zero_le _) (fun hP40 => ?_)
  · have := (hsp i6 (by omega)).2
    show 2 * sp i6 - 1 ≤ 16
    omega
  · refine sw_iload O (xx_dt dd_X7_digest 22 rfl) rfl ?_
    refine sw_aload_n O (xx_dt dd_X7_digest 23 rfl) rfl ?_
    refine sw_get (v := .ref 1001) O (xx_dt dd_X7_digest 24 rfl) cl_X7 fl_X7_12 (ly_1000 σ (hX9 h s6.2.1 s6.2.2.1 s6.2.2.2)) (by decide) rfl ?_
    refine sw_get (v := .int (nI R)) O (xx_dt dd_X7_digest 25 rfl) cl_X6 fl_X7_69 (ly_1001 σ (hX9 h s6.2.1 s6.2.2.1 s6.2.2.2)) (by decide) (congrArg Value.int hR) ?_
    refine sw_icmp_ge (tgt := 67) O (xx_dt dd_X7_digest 26 rfl) (by decide) (fun q => absurd q (nI_ge (b := R) hi6 (by omega))) (fun q => ?_)
    refine sw_aload_n O (xx_dt dd_X7_digest 27 rfl) rfl ?_
    refine sw_lload_n O (xx_dt dd_X7_digest 28 rfl) rfl ?_
    refine sw_iload O (xx_dt dd_X7_digest 29 rfl) rfl ?_
    refine sw_aload_n O (xx_dt dd_X7_digest 30 rfl) rfl ?_
    refine sw_callVx (k := 0) (n := 0) (k' := 0) (n' := 0) (as := [.long s6.1, .int (nI i6), .ref 4000]) (st := []) (st2 := [.long (f_withRegion σ s6.1 i6 C sp)]) O (ct_X7_withRegion hl hR hR5 hC hC10 hsp hho hdg hP6 hi6) ce_X7_withRegion ml_X7_352 iv_X7_withRegion cl_X7 rfl (ly_1000 σ _) (xx_dt dd_X7_digest 31 rfl) (by decide) rfl rfl (Nat.le_of_ble_eq_true rfl) rfl ?_
    refine sw_lstore_n (ls2 := [.ref 1000, .long (f_withRegion σ s6.1 i6 C sp), xx_d, .ref 4000, .int (nI i6)]) O (xx_dt dd_X7_digest 32 rfl) (by decide) rfl ?_
    refine sw_iinc (y := nI (i6 + 1)) (ls2 := [.ref 1000, .long (f_withRegion σ s6.1 i6 C sp), xx_d, .ref 4000, .int (nI (i6 + 1))]) O (xx_dt dd_X7_digest 33 rfl) rfl (nI_1 _) (by decide) rfl ?_
    refine sw_goto (tgt := 40) O (xx_dt dd_X7_digest 34 rfl) (by decide) ?_
    exact kk6
  show SW Y 0 0 (setC σ (hX9 h (d_dgR σ K B R C w cnt sp).2.1 (d_dgR σ K B R C w cnt sp).2.2.1 (d_dgR σ K B R C w cnt sp).2.2.2)) 40 [.ref 1000, .long (d_dgR σ K B R C w cnt sp).1, xx_d, .ref 4000, .int (nI R)] []
  refine sw_iload O (xx_dt dd_X7_digest 22 rfl) rfl ?_
  refine sw_aload_n O (xx_dt dd_X7_digest 23 rfl) rfl ?_
  refine sw_get (v := .ref 1001) O (xx_dt dd_X7_digest 24 rfl) cl_X7 fl_X7_12 (ly_1000 σ (hX9 h (d_dgR σ K B R C w cnt sp).2.1 (d_dgR σ K B R C w cnt sp).2.2.1 (d_dgR σ K B R C w cnt sp).2.2.2)) (by decide) rfl ?_
  refine sw_get (v := .int (nI R)) O (xx_dt dd_X7_digest 25 rfl) cl_X6 fl_X7_69 (ly_1001 σ (hX9 h (d_dgR σ K B R C w cnt sp).2.1 (d_dgR σ K B R C w cnt sp).2.2.1 (d_dgR σ K B R C w cnt sp).2.2.2)) (by decide) (congrArg Value.int hR) ?_
  refine sw_icmp_ge (tgt := 67) O (xx_dt dd_X7_digest 26 rfl) (by decide) (fun q => ?_) (fun q => absurd (Int32.le_refl _) q)
  refine sw_iconst (x := 0) O (xx_dt dd_X7_digest 35 rfl) (by decide) ?_
  refine sw_istore (ls2 := [.ref 1000, .long ((d_dgR σ K B R C w cnt sp).1), xx_d, .ref 4000, .int 0]) O (xx_dt dd_X7_digest 36 rfl) (by decide) rfl ?_
  refine sw_for (fun i s => f_withBidder σ s i w cnt) (fun _ _ => True) (hp := fun _ => setC σ (hX9 h (d_dgR σ K B R C w cnt sp).2.1 (d_dgR σ K B R C w cnt sp).2.2.1 (d_dgR σ K B R C w cnt sp).2.2.2)) (hd := 70) (lc := fun i s => [.ref 1000, .long s, xx_d, .ref 4000, .int (nI i)]) (N := B) (fun i6 s6 hi6 hP6 => ⟨trivial, fun kk6 => ?_⟩) B 0 ((d_dgR σ K B R C w cnt sp).1) (by omega) trivial (fun hP6 => ?_)
  · refine sw_iload O (xx_dt dd_X7_digest 37 rfl) rfl ?_
    refine sw_aload_n O (xx_dt dd_X7_digest 38 rfl) rfl ?_
    refine sw_get (v := .ref 1001) O (xx_dt dd_X7_digest 39 rfl) cl_X7 fl_X7_12 (ly_1000 σ (hX9 h (d_dgR σ K B R C w cnt sp).2.1 (d_dgR σ K B R C w cnt sp).2.2.1 (d_dgR σ K B R C w cnt sp).2.2.2)) (by decide) rfl ?_
    refine sw_get (v := .int (nI B)) O (xx_dt dd_X7_digest 40 rfl) cl_X6 fl_X7_100 (ly_1001 σ (hX9 h (d_dgR σ K B R C w cnt sp).2.1 (d_dgR σ K B R C w cnt sp).2.2.1 (d_dgR σ K B R C w cnt sp).2.2.2)) (by decide) (congrArg Value.int hB) ?_
    refine sw_icmp_ge (tgt := 96) O (xx_dt dd_X7_digest 41 rfl) (by decide) (fun q => absurd q (nI_ge (b := B) hi6 (by omega))) (fun q => ?_)
    refine sw_aload_n O (xx_dt dd_X7_digest 42 rfl) rfl ?_
    refine sw_lload_n O (xx_dt dd_X7_digest 43 rfl) rfl ?_
    refine sw_iload O (xx_dt dd_X7_digest 44 rfl) rfl ?_
    refine sw_callVx (k := 0) (n := 0) (k' := 0) (n' := 0) (as := [.long s6, .int (nI i6)]) (st := []) (st2 := [.long (f_withBidder σ s6 i6 w cnt)]) O (ct_X7_withBidder hl hw hw3 hct (by omega)) ce_X7_withBidder ml_X7_356 iv_X7_withBidder cl_X7 rfl (ly_1000 σ _) (xx_dt dd_X7_digest 45 rfl) (by decide) rfl rfl (Nat.le_of_ble_eq_true rfl) rfl ?_
    refine sw_lstore_n (ls2 := [.ref 1000, .long (f_withBidder σ s6 i6 w cnt), xx_d, .ref 4000, .int (nI i6)]) O (xx_dt dd_X7_digest 46 rfl) (by decide) rfl ?_
    refine sw_iinc (y := nI (i6 + 1)) (ls2 := [.ref 1000, .long (f_withBidder σ s6 i6 w cnt), xx_d, .ref 4000, .int (nI (i6 + 1))]) O (xx_dt dd_X7_digest 47 rfl) rfl (nI_1 _) (by decide) rfl ?_
    refine sw_goto (tgt := 70) O (xx_dt dd_X7_digest 48 rfl) (by decide) ?_
    exact kk6
  show SW Y 0 0 (setC σ (hX9 h (d_dgR σ K B R C w cnt sp).2.1 (d_dgR σ K B R C w cnt sp).2.2.1 (d_dgR σ K B R C w cnt sp).2.2.2)) 70 [.ref 1000, .long (d_dgB σ B w cnt (d_dgR σ K B R C w cnt sp).1), xx_d, .ref 4000, .int (nI B)] []
  refine sw_iload O (xx_dt dd_X7_digest 37 rfl) rfl ?_
  refine sw_aload_n O (xx_dt dd_X7_digest 38 rfl) rfl ?_
  refine sw_get (v := .ref 1001) O (xx_dt dd_X7_digest 39 rfl) cl_X7 fl_X7_12 (ly_1000 σ (hX9 h (d_dgR σ K B R C w cnt sp).2.1 (d_dgR σ K B R C w cnt sp).2.2.1 (d_dgR σ K B R C w cnt sp).2.2.2)) (by decide) rfl ?_
  refine sw_get (v := .int (nI B)) O (xx_dt dd_X7_digest 40 rfl) cl_X6 fl_X7_100 (ly_1001 σ (hX9 h (d_dgR σ K B R C w cnt sp).2.1 (d_dgR σ K B R C w cnt sp).2.2.1 (d_dgR σ K B R C w cnt sp).2.2.2)) (by decide) (congrArg Value.int hB) ?_
  refine sw_icmp_ge (tgt := 96) O (xx_dt dd_X7_digest 41 rfl) (by decide) (fun q => ?_) (fun q => absurd (Int32.le_refl _) q)
  refine sw_aload_n O (xx_dt dd_X7_digest 49 rfl) rfl ?_
  refine sw_lload_n O (xx_dt dd_X7_digest 50 rfl) rfl ?_
  refine sw_callVx (k := 0) (n := 0) (k' := 0) (n' := 0) (as := [.long (d_dgB σ B w cnt (d_dgR σ K B R C w cnt sp).1)]) (st := []) (st2 := [.long (d_dg1 σ K B R C w cnt sp)]) O (ct_X7_withLastRound hl hR hR5 hB hB6 hK hK60) ce_X7_withLastRound ml_X7_360 iv_X7_withLastRound cl_X7 rfl (ly_1000 σ _) (xx_dt dd_X7_digest 51 rfl) (by decide) rfl rfl (Nat.le_of_ble_eq_true rfl) rfl ?_
  refine sw_lstore_n (ls2 := [.ref 1000, .long (d_dg1 σ K B R C w cnt sp), xx_d, .ref 4000, .int (nI B)]) O (xx_dt dd_X7_digest 52 rfl) (by decide) rfl ?_
  refine sw_aload_n O (xx_dt dd_X7_digest 53 rfl) rfl ?_
  refine sw_get (v := .ref 1006) O (xx_dt dd_X7_digest 54 rfl) cl_X7 fl_X7_50 (ly_1000 σ (hX9 h (d_dgR σ K B R C w cnt sp).2.1 (d_dgR σ K B R C w cnt sp).2.2.1 (d_dgR σ K B R C w cnt sp).2.2.2)) (by decide) rfl ?_
  refine sw_get (v := .int (nI C)) O (xx_dt dd_X7_digest 55 rfl) cl_X5 fl_X7_215 (ly_1006 σ (hX9 h (d_dgR σ K B R C w cnt sp).2.1 (d_dgR σ K B R C w cnt sp).2.2.1 (d_dgR σ K B R C w cnt sp).2.2.2)) (by decide) (congrArg Value.int hC) ?_
  refine sw_if_le (tgt := 148) O (xx_dt dd_X7_digest 56 rfl) (by decide) (fun q => ?_) (fun q => ?_)
  · have h9 : ¬ 0 < C := fun e => by
      obtain ⟨c, rfl⟩ : ∃ c, C = c + 1 := ⟨C - 1, by omega⟩
      exact absurd ((nI_leI (a := c + 1) (b := 0) (by omega) (by omega)).mp q) (by omega)
    have eg : (0 < C) = False := eq_false h9
    have eg := eg
    refine sw_lload_n O (xx_dt dd_X7_digest 77 rfl) rfl ?_
    refine sw_aload_n O (xx_dt dd_X7_digest 78 rfl) rfl ?_
    refine sw_callVx (k := 0) (n := 0) (k' := 0) (n' := 0) (as := []) (st := [.long (d_dg1 σ K B R C w cnt sp)]) (st2 := [.int (f_isSound σ R B w K), .long (d_dg1 σ K B R C w cnt sp)]) O (ct_X7_isSound hl hR hR5 hB hB6 hw hw3 hK hK60) ce_X7_isSound ml_X7_364 iv_X7_isSound cl_X7 rfl (ly_1000 _ _) (xx_dt dd_X7_digest 79 rfl) (by decide) rfl rfl (Nat.le_of_ble_eq_true rfl) rfl ?_
    refine sw_if_eq (tgt := 160) O (xx_dt dd_X7_digest 80 rfl) (by decide) (fun q2 => ?_) (fun q2 => ?_)
    · refine sw_lconst O (xx_dt dd_X7_digest 83 rfl) ?_
      refine sw_callSx (k := 0) (n := 0) (k' := 0) (n' := 0) (as := [.long (d_dg1 σ K B R C w cnt sp), .long 0]) (st := []) (st2 := [.long (f_mixed (d_dg1 σ K B R C w cnt sp) 0)]) O (ct_X7_mixed hl) ce_X7_mixed ml_X7_348 st_X7_mixed (xx_dt dd_X7_digest 84 rfl) (by decide) rfl rfl (Nat.le_of_ble_eq_true rfl) rfl ?_
      exact sw_lretD (h' := setC (g_digest σ K B R C w rg) h) O (xx_dt dd_X7_digest 85 rfl) rfl (by unfold g_digest; simp only [g_dgS, if_neg h9]; exact hB_sub h0 h1) (setC_cls hcl) (by rw [hh]; exact fun r hr => setC_dom hr) (by rw [hQ]; exact ⟨by unfold f_digest; simp only [d_dgS, g_dgS, if_neg h9, if_pos q2], rfl⟩)
    · refine sw_lconst O (xx_dt dd_X7_digest 81 rfl) ?_
      refine sw_goto (tgt := 161) O (xx_dt dd_X7_digest 82 rfl) (by decide) ?_
      refine sw_callSx (k := 0) (n := 0) (k' := 0) (n' := 0) (as := [.long (d_dg1 σ K B R C w cnt sp), .long 1]) (st := []) (st2 := [.long (f_mixed (d_dg1 σ K B R C w cnt sp) 1)]) O (ct_X7_mixed hl) ce_X7_mixed ml_X7_348 st_X7_mixed (xx_dt dd_X7_digest 84 rfl) (by decide) rfl rfl (Nat.le_of_ble_eq_true rfl) rfl ?_
      exact sw_lretD (h' := setC (g_digest σ K B R C w rg) h) O (xx_dt dd_X7_digest 85 rfl) rfl (by unfold g_digest; simp only [g_dgS, if_neg h9]; exact hB_sub h0 h1) (setC_cls hcl) (by rw [hh]; exact fun r hr => setC_dom hr) (by rw [hQ]; exact ⟨by unfold f_digest; simp only [d_dgS, g_dgS, if_neg h9, if_neg q2], rfl⟩)
  · have h9 : 0 < C := by
      rcases Nat.eq_zero_or_pos C with e | e
      · rw [e] at q
        exact absurd (Int32.le_refl _) q
      · exact e
    have F1 : ∀ {q : Nat}, q ≠ 1152 ∧ q ≠ 1153 → g_cheapest σ 1 C rg q = σ q := fun h => fr_cheapest h
    refine sw_lload_n O (xx_dt dd_X7_digest 57 rfl) rfl ?_
    refine sw_aload_n O (xx_dt dd_X7_digest 58 rfl) rfl ?_
    refine sw_get (v := .ref 1006) O (xx_dt dd_X7_digest 59 rfl) cl_X7 fl_X7_50 (ly_1000 σ (hX9 h (d_dgR σ K B R C w cnt sp).2.1 (d_dgR σ K B R C w cnt sp).2.2.1 (d_dgR σ K B R C w cnt sp).2.2.2)) (by decide) rfl ?_
    refine sw_aload_n O (xx_dt dd_X7_digest 60 rfl) rfl ?_
    refine sw_get (v := .ref 1001) O (xx_dt dd_X7_digest 61 rfl) cl_X7 fl_X7_12 (ly_1000 σ (hX9 h (d_dgR σ K B R C w cnt sp).2.1 (d_dgR σ K B R C w cnt sp).2.2.1 (d_dgR σ K B R C w cnt sp).2.2.2)) (by decide) rfl ?_
    refine sw_iconst (x := 1) O (xx_dt dd_X7_digest 62 rfl) (by decide) ?_
    refine sw_callVx (k := 0) (n := 0) (k' := 0) (n' := 0) (as := [.ref 1001, .int (nI 1)]) (st := [.long (d_dg1 σ K B R C w cnt sp)]) (st2 := [.int (f_cheapest σ 1 C rg), .long (d_dg1 σ K B R C w cnt sp)]) O (ct_X5_cheapest hl hC hC10 hrg (ch := 1) (by omega)) ce_X5_cheapest ml_X7_239 iv_X5_cheapest cl_X5 rfl (ly_1006 _ _) (xx_dt dd_X7_digest 63 rfl) (by decide) rfl rfl (Nat.le_of_ble_eq_true rfl) rfl ?_
    refine sw_i2l O (xx_dt dd_X7_digest 64 rfl) ?_
    refine sw_callSx (k := 0) (n := 0) (k' := 0) (n' := 0) (as := [.long (d_dg1 σ K B R C w cnt sp), .long (Int32.toInt64 (f_cheapest σ 1 C rg))]) (st := []) (st2 := [.long (f_mixed (d_dg1 σ K B R C w cnt sp) (Int32.toInt64 (f_cheapest σ 1 C rg)))]) O (ct_X7_mixed hl) ce_X7_mixed ml_X7_348 st_X7_mixed (xx_dt dd_X7_digest 65 rfl) (by decide) rfl rfl (Nat.le_of_ble_eq_true rfl) rfl ?_
    refine sw_lstore_n (ls2 := [.ref 1000, .long (f_mixed (d_dg1 σ K B R C w cnt sp) (Int32.toInt64 (f_cheapest σ 1 C rg))), xx_d, .ref 4000, .int (nI B)]) O (xx_dt dd_X7_digest 66 rfl) (by decide) rfl ?_
    refine sw_lload_n O (xx_dt dd_X7_digest 67 rfl) rfl ?_
    refine sw_aload_n O (xx_dt dd_X7_digest 68 rfl) rfl ?_
    refine sw_get (v := .ref 1006) O (xx_dt dd_X7_digest 69 rfl) cl_X7 fl_X7_50 (ly_1000 (g_cheapest σ 1 C rg) (hX9 h (d_dgR σ K B R C w cnt sp).2.1 (d_dgR σ K B R C w cnt sp).2.2.1 (d_dgR σ K B R C w cnt sp).2.2.2)) (by decide) rfl ?_
    refine sw_aload_n O (xx_dt dd_X7_digest 70 rfl) rfl ?_
    refine sw_get (v := .ref 1001) O (xx_dt dd_X7_digest 71 rfl) cl_X7 fl_X7_12 (ly_1000 (g_cheapest σ 1 C rg) (hX9 h (d_dgR σ K B R C w cnt sp).2.1 (d_dgR σ K B R C w cnt sp).2.2.1 (d_dgR σ K B R C w cnt sp).2.2.2)) (by decide) rfl ?_
    refine sw_iconst (x := 2) O (xx_dt dd_X7_digest 72 rfl) (by decide) ?_
    refine sw_callVx (k := 0) (n := 0) (k' := 0) (n' := 0) (as := [.ref 1001, .int (nI 2)]) (st := [.long (f_mixed (d_dg1 σ K B R C w cnt sp) (Int32.toInt64 (f_cheapest σ 1 C rg)))]) (st2 := [.int (f_cheapest (g_cheapest σ 1 C rg) 2 C rg), .long (f_mixed (d_dg1 σ K B R C w cnt sp) (Int32.toInt64 (f_cheapest σ 1 C rg)))]) O (ct_X5_cheapest hl ((congrFun (F1 (by omega)) 1).trans hC) hC10 (fun i hi => by rw [F1 (by omega)]; exact hrg i hi) (ch := 2) (by omega)) ce_X5_cheapest ml_X7_239 iv_X5_cheapest cl_X5 rfl (ly_1006 _ _) (xx_dt dd_X7_digest 73 rfl) (by decide) rfl rfl (Nat.le_of_ble_eq_true rfl) rfl ?_
    refine sw_i2l O (xx_dt dd_X7_digest 74 rfl) ?_
    refine sw_callSx (k := 0) (n := 0) (k' := 0) (n' := 0) (as := [.long (f_mixed (d_dg1 σ K B R C w cnt sp) (Int32.toInt64 (f_cheapest σ 1 C rg))), .long (Int32.toInt64 (f_cheapest (g_cheapest σ 1 C rg) 2 C rg))]) (st := []) (st2 := [.long (f_mixed (f_mixed (d_dg1 σ K B R C w cnt sp) (Int32.toInt64 (f_cheapest σ 1 C rg))) (Int32.toInt64 (f_cheapest (g_cheapest σ 1 C rg) 2 C rg)))]) O (ct_X7_mixed hl) ce_X7_mixed ml_X7_348 st_X7_mixed (xx_dt dd_X7_digest 75 rfl) (by decide) rfl rfl (Nat.le_of_ble_eq_true rfl) rfl ?_
    refine sw_lstore_n (ls2 := [.ref 1000, .long (f_mixed (f_mixed (d_dg1 σ K B R C w cnt sp) (Int32.toInt64 (f_cheapest σ 1 C rg))) (Int32.toInt64 (f_cheapest (g_cheapest σ 1 C rg) 2 C rg))), xx_d, .ref 4000, .int (nI B)]) O (xx_dt dd_X7_digest 76 rfl) (by decide) rfl ?_
    have F2 : ∀ {q : Nat}, q ≠ 1152 ∧ q ≠ 1153 → (g_cheapest (g_cheapest σ 1 C rg) 2 C rg) q = σ q := fun {q : Nat} (h : q ≠ 1152 ∧ q ≠ 1153) => (fr_cheapest h).trans (fr_cheapest h)
    refine sw_lload_n O (xx_dt dd_X7_digest 77 rfl) rfl ?_
    refine sw_aload_n O (xx_dt dd_X7_digest 78 rfl) rfl ?_
    refine sw_callVx (k := 0) (n := 0) (k' := 0) (n' := 0) (as := []) (st := [.long (f_mixed (f_mixed (d_dg1 σ K B R C w cnt sp) (Int32.toInt64 (f_cheapest σ 1 C rg))) (Int32.toInt64 (f_cheapest (g_cheapest σ 1 C rg) 2 C rg)))]) (st2 := [.int (f_isSound (g_cheapest (g_cheapest σ 1 C rg) 2 C rg) R B w K), .long (f_mixed (f_mixed (d_dg1 σ K B R C w cnt sp) (Int32.toInt64 (f_cheapest σ 1 C rg))) (Int32.toInt64 (f_cheapest (g_cheapest σ 1 C rg) 2 C rg)))]) O (ct_X7_isSound hl ((congrFun (F2 (q := 1001) (by omega)) 4).trans hR) hR5 ((congrFun (F2 (q := 1001) (by omega)) 9).trans hB) hB6 ((congrFun (F2 (q := 1000) (by omega)) 9).trans hw) hw3 ((congrFun (F2 (q := 2000) (by omega)) 9).trans hK) hK60) ce_X7_isSound ml_X7_364 iv_X7_isSound cl_X7 rfl (ly_1000 _ _) (xx_dt dd_X7_digest 79 rfl) (by decide) rfl rfl (Nat.le_of_ble_eq_true rfl) rfl ?_
    refine sw_if_eq (tgt := 160) O (xx_dt dd_X7_digest 80 rfl) (by decide) (fun q2 => ?_) (fun q2 => ?_)
    · refine sw_lconst O (xx_dt dd_X7_digest 83 rfl) ?_
      refine sw_callSx (k := 0) (n := 0) (k' := 0) (n' := 0) (as := [.long (f_mixed (f_mixed (d_dg1 σ K B R C w cnt sp) (Int32.toInt64 (f_cheapest σ 1 C rg))) (Int32.toInt64 (f_cheapest (g_cheapest σ 1 C rg) 2 C rg))), .long 0]) (st := []) (st2 := [.long (f_mixed (f_mixed (f_mixed (d_dg1 σ K B R C w cnt sp) (Int32.toInt64 (f_cheapest σ 1 C rg))) (Int32.toInt64 (f_cheapest (g_cheapest σ 1 C rg) 2 C rg))) 0)]) O (ct_X7_mixed hl) ce_X7_mixed ml_X7_348 st_X7_mixed (xx_dt dd_X7_digest 84 rfl) (by decide) rfl rfl (Nat.le_of_ble_eq_true rfl) rfl ?_
      exact sw_lretD (h' := setC (g_digest σ K B R C w rg) h) O (xx_dt dd_X7_digest 85 rfl) rfl (by unfold g_digest; simp only [g_dgS, if_pos h9]; exact hB_sub h0 h1) (setC_cls hcl) (by rw [hh]; exact fun r hr => setC_dom hr) (by rw [hQ]; exact ⟨by unfold f_digest; simp only [d_dgS, g_dgS, if_pos h9, if_pos q2], rfl⟩)
    · refine sw_lconst O (xx_dt dd_X7_digest 81 rfl) ?_
      refine sw_goto (tgt := 161) O (xx_dt dd_X7_digest 82 rfl) (by decide) ?_
      refine sw_callSx (k := 0) (n := 0) (k' := 0) (n' := 0) (as := [.long (f_mixed (f_mixed (d_dg1 σ K B R C w cnt sp) (Int32.toInt64 (f_cheapest σ 1 C rg))) (Int32.toInt64 (f_cheapest (g_cheapest σ 1 C rg) 2 C rg))), .long 1]) (st := []) (st2 := [.long (f_mixed (f_mixed (f_mixed (d_dg1 σ K B R C w cnt sp) (Int32.toInt64 (f_cheapest σ 1 C rg))) (Int32.toInt64 (f_cheapest (g_cheapest σ 1 C rg) 2 C rg))) 1)]) O (ct_X7_mixed hl) ce_X7_mixed ml_X7_348 st_X7_mixed (xx_dt dd_X7_digest 84 rfl) (by decide) rfl rfl (Nat.le_of_ble_eq_true rfl) rfl ?_
      exact sw_lretD (h' := setC (g_digest σ K B R C w rg) h) O (xx_dt dd_X7_digest 85 rfl) rfl (by unfold g_digest; simp only [g_dgS, if_pos h9]; exact hB_sub h0 h1) (setC_cls hcl) (by rw [hh]; exact fun r hr => setC_dom hr) (by rw [hQ]; exact ⟨by unfold f_digest; simp only [d_dgS, g_dgS, if_pos h9, if_neg q2], rfl⟩)
end
