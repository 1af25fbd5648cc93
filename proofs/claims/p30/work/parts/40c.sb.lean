/-! ===== StringBuilder and the strings it makes ===== -/
def xx_sb0 (v : Nat) : Nat → Value := updV (updV (fun j => defaultValue (tyJ4 j)) 0 (.ref v)) 1 (.int 0)
def xx_sb (v c : Nat) (b : Int32) : Nat → Value := updV (updV (xx_sb0 v) 2 (.int b)) 3 (.int (nI c))
theorem xx_sb_c {v c c2 : Nat} {b : Int32} : updV (xx_sb v c b) 3 (.int (nI c2)) = xx_sb v c2 b := by
  funext k
  unfold xx_sb updV
  by_cases e : k = 3
  · rw [if_pos e, if_pos e]
  · rw [if_neg e, if_neg e, if_neg e]
theorem xx_sb_b {v c : Nat} {b z : Int32} : updV (xx_sb v c b) 2 (.int z) = xx_sb v c z := by
  funext k
  unfold xx_sb updV
  by_cases e : k = 2
  · subst e; rfl
  · rw [if_neg e]
    by_cases e3 : k = 3
    · rw [if_pos e3, if_pos e3]
    · rw [if_neg e3, if_neg e3, if_neg e, if_neg e]
theorem xx_sb_0 {v : Nat} : xx_sb0 v = xx_sb v 0 0 := by
  funext k
  unfold xx_sb updV
  by_cases e3 : k = 3
  · subst e3; rfl
  · rw [if_neg e3]
    by_cases e : k = 2
    · subst e; rfl
    · rw [if_neg e]
theorem xx_ens {a : Nat} (ha : a ≤ 16) : nI a - (nI 16) >>> ((0 : Int32) &&& 31) ≤ 0 := by
  have : ∀ a : Fin 17, nI a.1 - (nI 16) >>> ((0 : Int32) &&& 31) ≤ 0 := by decide +kernel
  exact this ⟨a, by omega⟩
theorem xx_dg1 {x : Nat} (hx : x < 10) : ¬ -(nI x) ≤ (-10 : Int32) := by
  have : ∀ a : Fin 10, ¬ -(nI a.1) ≤ (-10 : Int32) := by decide +kernel
  exact this ⟨x, hx⟩
theorem xx_dg2 {x : Nat} (hx : x < 10) : (-100 : Int32) < -(nI x) := by
  have : ∀ a : Fin 10, (-100 : Int32) < -(nI a.1) := by decide +kernel
  exact this ⟨x, hx⟩
theorem xx_dg3 {x : Nat} (hx : x < 10) : (-9 : Int32) ≤ -(nI x) := by
  have : ∀ a : Fin 10, (-9 : Int32) ≤ -(nI a.1) := by decide +kernel
  exact this ⟨x, hx⟩
theorem xx_negneg {x : Nat} (hx : x < 10) : -(-(nI x)) = nI x := by
  have : ∀ a : Fin 10, -(-(nI a.1)) = nI a.1 := by decide +kernel
  exact this ⟨x, hx⟩
theorem xx_sub0 (x : Int32) : x - 0 = x := by simp
theorem xx_ge0 (x : Nat) (hx : x < 2147483648) : (0 : Int32) ≤ nI x := (nI_leI (a := 0) (b := x) (by omega) hx).mpr (Nat.zero_le _)
theorem xx_nlt0 (x : Nat) (hx : x < 2147483648) : ¬ nI x < (0 : Int32) := Int32.not_lt.mpr (xx_ge0 x hx)
theorem sb_isLatin1 {l : Launch} {h : XH} (hl : l.stackTraces = false) {r v c : Nat} {b : Int32} (hr : h r = some (1, 4, xx_sb v c b))  : XEx l m_J5_isLatin1_aae02 0 0 0 [.ref r] (h) (some (.int 1)) (h) := by
  refine XMet.of hl rfl rfl (Nat.le_of_ble_eq_true rfl) (fun Y O hh hQ => ?_)
  show SW Y 0 0 (h) 0 [.ref r] []
  refine sw_gets (i := 0) (z := 1) O (xx_dt dd_J5_isLatin1_aae02 0 rfl) rfl gs_J5_18 ?_
  refine sw_if_eq (tgt := 17) O (xx_dt dd_J5_isLatin1_aae02 1 rfl) (by decide) (fun q => absurd q (by decide)) (fun _ => ?_)
  refine sw_aload_n O (xx_dt dd_J5_isLatin1_aae02 2 rfl) rfl ?_
  refine sw_get2 (v := .int 0) O (xx_dt dd_J5_isLatin1_aae02 3 rfl) cl_J4 f2_J5_22 hr (by decide) rfl ?_
  refine sw_if_ne (tgt := 17) O (xx_dt dd_J5_isLatin1_aae02 4 rfl) (by decide) (fun q => absurd rfl q) (fun _ => ?_)
  refine sw_iconst (x := 1) O (xx_dt dd_J5_isLatin1_aae02 5 rfl) (by decide) ?_
  refine sw_goto (tgt := 18) O (xx_dt dd_J5_isLatin1_aae02 6 rfl) (by decide) ?_
  exact sw_iret O (xx_dt dd_J5_isLatin1_aae02 8 rfl) rfl rfl (by rw [hQ]; exact ⟨rfl, rfl⟩)
theorem sb_getValue {l : Launch} {h : XH} (hl : l.stackTraces = false) {r v c : Nat} {b : Int32} (hr : h r = some (1, 4, xx_sb v c b))  : XEx l m_J5_getValue_6d5f1 0 0 0 [.ref r] (h) (some (.ref v)) (h) := by
  refine XMet.of hl rfl rfl (Nat.le_of_ble_eq_true rfl) (fun Y O hh hQ => ?_)
  show SW Y 0 0 (h) 0 [.ref r] []
  refine sw_aload_n O (xx_dt dd_J5_getValue_6d5f1 0 rfl) rfl ?_
  refine sw_get2 (v := .ref v) O (xx_dt dd_J5_getValue_6d5f1 1 rfl) cl_J4 f2_J5_15 hr (by decide) rfl ?_
  exact sw_aret O (xx_dt dd_J5_getValue_6d5f1 2 rfl) rfl (.inr ⟨_, rfl⟩) (by rw [hQ]; exact ⟨rfl, rfl⟩)
theorem sb_length5 {l : Launch} {h : XH} (hl : l.stackTraces = false) {r v c : Nat} {b : Int32} (hr : h r = some (1, 4, xx_sb v c b))  : XEx l m_J5_length_8abf5 0 0 0 [.ref r] (h) (some (.int (nI c))) (h) := by
  refine XMet.of hl rfl rfl (Nat.le_of_ble_eq_true rfl) (fun Y O hh hQ => ?_)
  show SW Y 0 0 (h) 0 [.ref r] []
  refine sw_aload_n O (xx_dt dd_J5_length_8abf5 0 rfl) rfl ?_
  refine sw_get2 (v := .int (nI c)) O (xx_dt dd_J5_length_8abf5 1 rfl) cl_J4 f2_J5_79 hr (by decide) rfl ?_
  exact sw_iret O (xx_dt dd_J5_length_8abf5 2 rfl) rfl rfl (by rw [hQ]; exact ⟨rfl, rfl⟩)
theorem sb_length {l : Launch} {h : XH} (hl : l.stackTraces = false) {r v c : Nat} {b : Int32} (hr : h r = some (1, 4, xx_sb v c b))  : XEx l m_J4_length_8abf5 1 0 0 [.ref r] (h) (some (.int (nI c))) (h) := by
  refine XMet.of hl rfl rfl (Nat.le_of_ble_eq_true rfl) (fun Y O hh hQ => ?_)
  show SW Y 0 0 (h) 0 [.ref r] []
  refine sw_aload_n O (xx_dt dd_J4_length_8abf5 0 rfl) rfl ?_
  refine sw_callSUx (as := []) (st := []) (st2 := [.int (nI c)]) O (sb_length5 hl hr) ce_J5_length_8abf5 su_J4_343 cl_J4 (hr) (xx_dt dd_J4_length_8abf5 1 rfl) (by decide) rfl rfl (Nat.le_of_ble_eq_true rfl) rfl ?_
  exact sw_iret O (xx_dt dd_J4_length_8abf5 2 rfl) rfl rfl (by rw [hQ]; exact ⟨rfl, rfl⟩)
theorem sb_ens {l : Launch} {h : XH} (hl : l.stackTraces = false) {a : Nat} {r v c : Nat} {b : Int32} {G : Nat → Value} (hr : h r = some (1, 4, xx_sb v c b)) (hv : h v = some (102, 16, G)) (ha : a ≤ 16)  : XEx l m_J5_ensureCapacityInternal_d00df 0 0 0 [.ref r, .int (nI a)] (h) (none) (h) := by
  refine XMet.of hl rfl rfl (Nat.le_of_ble_eq_true rfl) (fun Y O hh hQ => ?_)
  show SW Y 0 0 (h) 0 [.ref r, .int (nI a), xx_d] []
  refine sw_aload_n O (xx_dt dd_J5_ensureCapacityInternal_d00df 0 rfl) rfl ?_
  refine sw_get2 (v := .ref v) O (xx_dt dd_J5_ensureCapacityInternal_d00df 1 rfl) cl_J4 f2_J5_15 hr (by decide) rfl ?_
  refine sw_alen (t := 102) O (xx_dt dd_J5_ensureCapacityInternal_d00df 2 rfl) (by omega) (by omega) hv ?_
  refine sw_aload_n O (xx_dt dd_J5_ensureCapacityInternal_d00df 3 rfl) rfl ?_
  refine sw_get2 (v := .int 0) O (xx_dt dd_J5_ensureCapacityInternal_d00df 4 rfl) cl_J4 f2_J5_22 hr (by decide) rfl ?_
  refine sw_ishr O (xx_dt dd_J5_ensureCapacityInternal_d00df 5 rfl) ?_
  refine sw_istore_n (ls2 := [.ref r, .int (nI a), .int ((nI 16) >>> (0 &&& 31))]) O (xx_dt dd_J5_ensureCapacityInternal_d00df 6 rfl) (by decide) rfl ?_
  refine sw_iload_n O (xx_dt dd_J5_ensureCapacityInternal_d00df 7 rfl) rfl ?_
  refine sw_iload_n O (xx_dt dd_J5_ensureCapacityInternal_d00df 8 rfl) rfl ?_
  refine sw_isub O (xx_dt dd_J5_ensureCapacityInternal_d00df 9 rfl) ?_
  refine sw_if_le (tgt := 38) O (xx_dt dd_J5_ensureCapacityInternal_d00df 10 rfl) (by decide) (fun _ => ?_) (fun q => absurd (xx_ens ha) q)
  exact sw_ret O (xx_dt dd_J5_ensureCapacityInternal_d00df 22 rfl) rfl (by rw [hQ]; exact ⟨rfl, rfl⟩)
theorem sb_canEnc {l : Launch} {h : XH} (hl : l.stackTraces = false) {x : Int32} (hx : ¬ (255 : Int32) < x)  : XEx l m_J1_canEncode_fc78d 0 0 0 [.int x] (h) (some (.int 1)) (h) := by
  refine XMet.of hl rfl rfl (Nat.le_of_ble_eq_true rfl) (fun Y O hh hQ => ?_)
  show SW Y 0 0 (h) 0 [.int x] []
  refine sw_iload_n O (xx_dt dd_J1_canEncode_fc78d 0 rfl) rfl ?_
  refine sw_sipush (x := 255) O (xx_dt dd_J1_canEncode_fc78d 1 rfl) (by decide) ?_
  refine sw_icmp_gt (tgt := 11) O (xx_dt dd_J1_canEncode_fc78d 2 rfl) (by decide) (fun q => absurd q (hx)) (fun _ => ?_)
  refine sw_iconst (x := 1) O (xx_dt dd_J1_canEncode_fc78d 3 rfl) (by decide) ?_
  refine sw_goto (tgt := 12) O (xx_dt dd_J1_canEncode_fc78d 4 rfl) (by decide) ?_
  exact sw_iret O (xx_dt dd_J1_canEncode_fc78d 6 rfl) rfl rfl (by rw [hQ]; exact ⟨rfl, rfl⟩)
theorem sb_appendC5 {l : Launch} {h : XH} (hl : l.stackTraces = false) {r v c : Nat} {b : Int32} {G : Nat → Value} (hr : h r = some (1, 4, xx_sb v c b)) (hv : h v = some (102, 16, G)) (h1 : 1000 ≤ r) (h9 : 1000 ≤ v) (hrv : r ≠ v) {x : Int32} (hc : c < 16) (hx : ¬ (255 : Int32) < x) (hx2 : x.toInt8.toInt32 = x) (hx3 : narrow .byte (.int x) = .int x)  : XEx l m_J5_append_3fe6f 1 0 0 [.ref r, .int x] (h) (some (.ref r)) (xx_up (xx_up h r (1, 4, xx_sb v (c + 1) b)) v (102, 16, updV G c (.int x))) := by
  refine XMet.of hl rfl rfl (Nat.le_of_ble_eq_true rfl) (fun Y O hh hQ => ?_)
  show SW Y 0 0 (h) 0 [.ref r, .int x] []
  refine sw_aload_n O (xx_dt dd_J5_append_3fe6f 0 rfl) rfl ?_
  refine sw_aload_n O (xx_dt dd_J5_append_3fe6f 1 rfl) rfl ?_
  refine sw_get2 (v := .int (nI c)) O (xx_dt dd_J5_append_3fe6f 2 rfl) cl_J4 f2_J5_79 hr (by decide) rfl ?_
  refine sw_iconst (x := 1) O (xx_dt dd_J5_append_3fe6f 3 rfl) (by decide) ?_
  refine sw_iadd O (xx_dt dd_J5_append_3fe6f 4 rfl) ?_
  rw [nI_a1]
  refine sw_callWx (as := [.int (nI (c + 1))]) (st := []) (st2 := []) O (sb_ens hl hr hv (a := c + 1) (by omega)) ce_J5_ensureCapacityInternal_d00df mk_J5_100 slc_J5_ensureCapacityInternal_d00df cl_J4 (hr) (xx_dt dd_J5_append_3fe6f 5 rfl) (by decide) rfl rfl (Nat.le_of_ble_eq_true rfl) rfl ?_
  refine sw_aload_n O (xx_dt dd_J5_append_3fe6f 6 rfl) rfl ?_
  refine sw_callWx (as := []) (st := []) (st2 := [.int 1]) O (sb_isLatin1 hl hr) ce_J5_isLatin1_aae02 mk_J5_83 slc_J5_isLatin1_aae02 cl_J4 (hr) (xx_dt dd_J5_append_3fe6f 7 rfl) (by decide) rfl rfl (Nat.le_of_ble_eq_true rfl) rfl ?_
  refine sw_if_eq (tgt := 45) O (xx_dt dd_J5_append_3fe6f 8 rfl) (by decide) (fun q => absurd q (by decide)) (fun _ => ?_)
  refine sw_iload_n O (xx_dt dd_J5_append_3fe6f 9 rfl) rfl ?_
  refine sw_callSx (as := [.int x]) (st := []) (st2 := [.int 1]) O (sb_canEnc hl hx) ce_J1_canEncode_fc78d ml_J5_191 st_J1_canEncode_fc78d (xx_dt dd_J5_append_3fe6f 10 rfl) (by decide) rfl rfl (Nat.le_of_ble_eq_true rfl) rfl ?_
  refine sw_if_eq (tgt := 45) O (xx_dt dd_J5_append_3fe6f 11 rfl) (by decide) (fun q => absurd q (by decide)) (fun _ => ?_)
  refine sw_aload_n O (xx_dt dd_J5_append_3fe6f 12 rfl) rfl ?_
  refine sw_get2 (v := .ref v) O (xx_dt dd_J5_append_3fe6f 13 rfl) cl_J4 f2_J5_15 hr (by decide) rfl ?_
  refine sw_aload_n O (xx_dt dd_J5_append_3fe6f 14 rfl) rfl ?_
  refine sw_dup O (xx_dt dd_J5_append_3fe6f 15 rfl) rfl ?_
  refine sw_get2 (v := .int (nI c)) O (xx_dt dd_J5_append_3fe6f 16 rfl) cl_J4 f2_J5_79 hr (by decide) rfl ?_
  refine sw_dup_x1 O (xx_dt dd_J5_append_3fe6f 17 rfl) rfl rfl ?_
  refine sw_iconst (x := 1) O (xx_dt dd_J5_append_3fe6f 18 rfl) (by decide) ?_
  refine sw_iadd O (xx_dt dd_J5_append_3fe6f 19 rfl) ?_
  rw [nI_a1]
  refine sw_put2 (h2 := xx_up h r (1, 4, xx_sb v (c + 1) b)) O (xx_dt dd_J5_append_3fe6f 20 rfl) cl_J4 f2_J5_79 hr (by decide) h1 rfl (fun _ => ⟨rfl, rfl⟩) (by rw [xx_sb_c]) ?_
  refine sw_iload_n O (xx_dt dd_J5_append_3fe6f 21 rfl) rfl ?_
  refine sw_i2b O (xx_dt dd_J5_append_3fe6f 22 rfl) ?_
  rw [hx2]
  refine sw_bastore (h2 := xx_up (xx_up h r (1, 4, xx_sb v (c + 1) b)) v (102, 16, updV G c (.int x))) O (xx_dt dd_J5_append_3fe6f 23 rfl) (by rw [xx_up_ne (Ne.symm hrv)]; exact hv) (pk_in c _ (by omega)) h9 hx3 (by rw [nI_clamp (by omega)]) ?_
  refine sw_goto (tgt := 75) O (xx_dt dd_J5_append_3fe6f 24 rfl) (by decide) ?_
  refine sw_aload_n O (xx_dt dd_J5_append_3fe6f 41 rfl) rfl ?_
  exact sw_aret O (xx_dt dd_J5_append_3fe6f 42 rfl) rfl (.inl ⟨_, rfl⟩) (by rw [hQ]; exact ⟨rfl, rfl⟩)
theorem sb_appendC {l : Launch} {h : XH} (hl : l.stackTraces = false) {r v c : Nat} {b : Int32} {G : Nat → Value} (hr : h r = some (1, 4, xx_sb v c b)) (hv : h v = some (102, 16, G)) (h1 : 1000 ≤ r) (h9 : 1000 ≤ v) (hrv : r ≠ v) {x : Int32} (hc : c < 16) (hx : ¬ (255 : Int32) < x) (hx2 : x.toInt8.toInt32 = x) (hx3 : narrow .byte (.int x) = .int x)  : XEx l m_J4_append_cf468 2 0 0 [.ref r, .int x] (h) (some (.ref r)) (xx_up (xx_up h r (1, 4, xx_sb v (c + 1) b)) v (102, 16, updV G c (.int x))) := by
  refine XMet.of hl rfl rfl (Nat.le_of_ble_eq_true rfl) (fun Y O hh hQ => ?_)
  show SW Y 0 0 (h) 0 [.ref r, .int x] []
  refine sw_aload_n O (xx_dt dd_J4_append_cf468 0 rfl) rfl ?_
  refine sw_iload_n O (xx_dt dd_J4_append_cf468 1 rfl) rfl ?_
  refine sw_callSUx (as := [.int x]) (st := []) (st2 := [.ref r]) O (sb_appendC5 hl hr hv h1 h9 hrv hc hx hx2 hx3) ce_J5_append_3fe6f su_J4_50 cl_J4 (hr) (xx_dt dd_J4_append_cf468 2 rfl) (by decide) rfl rfl (Nat.le_of_ble_eq_true rfl) rfl ?_
  refine sw_pop O (xx_dt dd_J4_append_cf468 3 rfl) rfl ?_
  refine sw_aload_n O (xx_dt dd_J4_append_cf468 4 rfl) rfl ?_
  exact sw_aret O (xx_dt dd_J4_append_cf468 5 rfl) rfl (.inl ⟨_, rfl⟩) (by rw [hQ]; exact ⟨rfl, rfl⟩)
theorem sb_size {l : Launch} {h : XH} (hl : l.stackTraces = false) {x : Nat} (hx : x < 10)  : XEx l m_J6_stringSize_0f7a4 0 0 0 [.int (nI x)] (h) (some (.int 1)) (h) := by
  refine XMet.of hl rfl rfl (Nat.le_of_ble_eq_true rfl) (fun Y O hh hQ => ?_)
  show SW Y 0 0 (h) 0 [.int (nI x), xx_d, xx_d, xx_d] []
  refine sw_iconst (x := 1) O (xx_dt dd_J6_stringSize_0f7a4 0 rfl) (by decide) ?_
  refine sw_istore_n (ls2 := [.int (nI x), .int 1, xx_d, xx_d]) O (xx_dt dd_J6_stringSize_0f7a4 1 rfl) (by decide) rfl ?_
  refine sw_iload_n O (xx_dt dd_J6_stringSize_0f7a4 2 rfl) rfl ?_
  refine sw_if_lt (tgt := 11) O (xx_dt dd_J6_stringSize_0f7a4 3 rfl) (by decide) (fun q => absurd q (xx_nlt0 x (by omega))) (fun _ => ?_)
  refine sw_iconst (x := 0) O (xx_dt dd_J6_stringSize_0f7a4 4 rfl) (by decide) ?_
  refine sw_istore_n (ls2 := [.int (nI x), .int 0, xx_d, xx_d]) O (xx_dt dd_J6_stringSize_0f7a4 5 rfl) (by decide) rfl ?_
  refine sw_iload_n O (xx_dt dd_J6_stringSize_0f7a4 6 rfl) rfl ?_
  refine sw_ineg O (xx_dt dd_J6_stringSize_0f7a4 7 rfl) ?_
  refine sw_istore_n (ls2 := [.int (-(nI x)), .int 0, xx_d, xx_d]) O (xx_dt dd_J6_stringSize_0f7a4 8 rfl) (by decide) rfl ?_
  refine sw_bipush (x := (-10)) O (xx_dt dd_J6_stringSize_0f7a4 9 rfl) (by decide) ?_
  refine sw_istore_n (ls2 := [.int (-(nI x)), .int 0, .int (-10), xx_d]) O (xx_dt dd_J6_stringSize_0f7a4 10 rfl) (by decide) rfl ?_
  refine sw_iconst (x := 1) O (xx_dt dd_J6_stringSize_0f7a4 11 rfl) (by decide) ?_
  refine sw_istore_n (ls2 := [.int (-(nI x)), .int 0, .int (-10), .int 1]) O (xx_dt dd_J6_stringSize_0f7a4 12 rfl) (by decide) rfl ?_
  refine sw_iload_n O (xx_dt dd_J6_stringSize_0f7a4 13 rfl) rfl ?_
  refine sw_bipush (x := 10) O (xx_dt dd_J6_stringSize_0f7a4 14 rfl) (by decide) ?_
  refine sw_icmp_ge (tgt := 42) O (xx_dt dd_J6_stringSize_0f7a4 15 rfl) (by decide) (fun q => absurd q (by decide)) (fun _ => ?_)
  refine sw_iload_n O (xx_dt dd_J6_stringSize_0f7a4 16 rfl) rfl ?_
  refine sw_iload_n O (xx_dt dd_J6_stringSize_0f7a4 17 rfl) rfl ?_
  refine sw_icmp_le (tgt := 31) O (xx_dt dd_J6_stringSize_0f7a4 18 rfl) (by decide) (fun q => absurd q (xx_dg1 hx)) (fun _ => ?_)
  refine sw_iload_n O (xx_dt dd_J6_stringSize_0f7a4 19 rfl) rfl ?_
  refine sw_iload_n O (xx_dt dd_J6_stringSize_0f7a4 20 rfl) rfl ?_
  refine sw_iadd O (xx_dt dd_J6_stringSize_0f7a4 21 rfl) ?_
  rw [show (1 : Int32) + 0 = 1 by decide]
  exact sw_iret O (xx_dt dd_J6_stringSize_0f7a4 22 rfl) rfl rfl (by rw [hQ]; exact ⟨rfl, rfl⟩)
theorem sb_chars {l : Launch} {h : XH} (hl : l.stackTraces = false) {v c : Nat} {G : Nat → Value} (hv : h v = some (102, 16, G)) (h9 : 1000 ≤ v) (hc : c < 16) {x : Nat} {w : Int32} {F : Nat → Value} (hx : x < 10) (h4 : h 4 = some (102, 100, F)) (hw : F x = .int w) (hw3 : narrow .byte (.int w) = .int w)  : XEx l m_J6_getChars_ba4f3 0 0 0 [.int (nI x), .int (nI (c + 1)), .ref v] (h) (some (.int (nI c))) (xx_up h v (102, 16, updV G c (.int w))) := by
  refine XMet.of hl rfl rfl (Nat.le_of_ble_eq_true rfl) (fun Y O hh hQ => ?_)
  show SW Y 0 0 (h) 0 [.int (nI x), .int (nI (c + 1)), .ref v, xx_d, xx_d, xx_d, xx_d] []
  refine sw_iload_n O (xx_dt dd_J6_getChars_ba4f3 0 rfl) rfl ?_
  refine sw_istore (ls2 := [.int (nI x), .int (nI (c + 1)), .ref v, xx_d, xx_d, .int (nI (c + 1)), xx_d]) O (xx_dt dd_J6_getChars_ba4f3 1 rfl) (by decide) rfl ?_
  refine sw_iload_n O (xx_dt dd_J6_getChars_ba4f3 2 rfl) rfl ?_
  refine sw_if_ge (tgt := 11) O (xx_dt dd_J6_getChars_ba4f3 3 rfl) (by decide) (fun _ => ?_) (fun q => absurd (xx_ge0 x (by omega)) q)
  refine sw_iconst (x := 0) O (xx_dt dd_J6_getChars_ba4f3 6 rfl) (by decide) ?_
  refine sw_istore (ls2 := [.int (nI x), .int (nI (c + 1)), .ref v, xx_d, xx_d, .int (nI (c + 1)), .int 0]) O (xx_dt dd_J6_getChars_ba4f3 7 rfl) (by decide) rfl ?_
  refine sw_iload O (xx_dt dd_J6_getChars_ba4f3 8 rfl) rfl ?_
  refine sw_if_ne (tgt := 22) O (xx_dt dd_J6_getChars_ba4f3 9 rfl) (by decide) (fun q => absurd rfl q) (fun _ => ?_)
  refine sw_iload_n O (xx_dt dd_J6_getChars_ba4f3 10 rfl) rfl ?_
  refine sw_ineg O (xx_dt dd_J6_getChars_ba4f3 11 rfl) ?_
  refine sw_istore_n (ls2 := [.int (-(nI x)), .int (nI (c + 1)), .ref v, xx_d, xx_d, .int (nI (c + 1)), .int 0]) O (xx_dt dd_J6_getChars_ba4f3 12 rfl) (by decide) rfl ?_
  refine sw_iload_n O (xx_dt dd_J6_getChars_ba4f3 13 rfl) rfl ?_
  refine sw_bipush (x := (-100)) O (xx_dt dd_J6_getChars_ba4f3 14 rfl) (by decide) ?_
  refine sw_icmp_gt (tgt := 72) O (xx_dt dd_J6_getChars_ba4f3 15 rfl) (by decide) (fun _ => ?_) (fun q => absurd (xx_dg2 hx) q)
  refine sw_aload_n O (xx_dt dd_J6_getChars_ba4f3 43 rfl) rfl ?_
  refine sw_iinc (y := nI c) (ls2 := [.int (-(nI x)), .int (nI (c + 1)), .ref v, xx_d, xx_d, .int (nI c), .int 0]) O (xx_dt dd_J6_getChars_ba4f3 44 rfl) rfl (pk_m1 _) (by decide) rfl ?_
  refine sw_iload O (xx_dt dd_J6_getChars_ba4f3 45 rfl) rfl ?_
  refine sw_getsR (i := 4) (r := 4) O (xx_dt dd_J6_getChars_ba4f3 46 rfl) rfl gs_J6_83 h4 (by omega) ?_
  refine sw_iload_n O (xx_dt dd_J6_getChars_ba4f3 47 rfl) rfl ?_
  refine sw_ineg O (xx_dt dd_J6_getChars_ba4f3 48 rfl) ?_
  rw [xx_negneg hx]
  refine sw_baload (v := .int w) O (xx_dt dd_J6_getChars_ba4f3 49 rfl) h4 (pk_in x _ (by omega)) (by rw [nI_clamp (by omega)]; exact hw) ?_
  refine sw_bastore (h2 := xx_up h v (102, 16, updV G c (.int w))) O (xx_dt dd_J6_getChars_ba4f3 50 rfl) hv (pk_in c _ (by omega)) h9 hw3 (by rw [nI_clamp (by omega)]) ?_
  refine sw_iload_n O (xx_dt dd_J6_getChars_ba4f3 51 rfl) rfl ?_
  refine sw_bipush (x := (-9)) O (xx_dt dd_J6_getChars_ba4f3 52 rfl) (by decide) ?_
  refine sw_icmp_ge (tgt := 104) O (xx_dt dd_J6_getChars_ba4f3 53 rfl) (by decide) (fun _ => ?_) (fun q => absurd (xx_dg3 hx) q)
  refine sw_iload O (xx_dt dd_J6_getChars_ba4f3 62 rfl) rfl ?_
  refine sw_if_eq (tgt := 118) O (xx_dt dd_J6_getChars_ba4f3 63 rfl) (by decide) (fun _ => ?_) (fun q => absurd rfl q)
  refine sw_iload O (xx_dt dd_J6_getChars_ba4f3 69 rfl) rfl ?_
  exact sw_iret O (xx_dt dd_J6_getChars_ba4f3 70 rfl) rfl rfl (by rw [hQ]; exact ⟨rfl, rfl⟩)
theorem sb_appendI5 {l : Launch} {h : XH} (hl : l.stackTraces = false) {r v c : Nat} {b : Int32} {G : Nat → Value} (hr : h r = some (1, 4, xx_sb v c b)) (hv : h v = some (102, 16, G)) (h1 : 1000 ≤ r) (h9 : 1000 ≤ v) (hrv : r ≠ v) (hc : c < 16) {x : Nat} {w : Int32} {F : Nat → Value} (hx : x < 10) (h4 : h 4 = some (102, 100, F)) (hw : F x = .int w) (hw3 : narrow .byte (.int w) = .int w)  : XEx l m_J5_append_c97b9 1 0 0 [.ref r, .int (nI x)] (h) (some (.ref r)) (xx_up (xx_up h r (1, 4, xx_sb v (c + 1) b)) v (102, 16, updV G c (.int w))) := by
  refine XMet.of hl rfl rfl (Nat.le_of_ble_eq_true rfl) (fun Y O hh hQ => ?_)
  show SW Y 0 0 (h) 0 [.ref r, .int (nI x), xx_d, xx_d] []
  refine sw_aload_n O (xx_dt dd_J5_append_c97b9 0 rfl) rfl ?_
  refine sw_get2 (v := .int (nI c)) O (xx_dt dd_J5_append_c97b9 1 rfl) cl_J4 f2_J5_79 hr (by decide) rfl ?_
  refine sw_istore_n (ls2 := [.ref r, .int (nI x), .int (nI c), xx_d]) O (xx_dt dd_J5_append_c97b9 2 rfl) (by decide) rfl ?_
  refine sw_iload_n O (xx_dt dd_J5_append_c97b9 3 rfl) rfl ?_
  refine sw_iload_n O (xx_dt dd_J5_append_c97b9 4 rfl) rfl ?_
  refine sw_callSx (as := [.int (nI x)]) (st := [.int (nI c)]) (st2 := [.int 1, .int (nI c)]) O (sb_size hl hx) ce_J6_stringSize_0f7a4 ml_J5_245 st_J6_stringSize_0f7a4 (xx_dt dd_J5_append_c97b9 5 rfl) (by decide) rfl rfl (Nat.le_of_ble_eq_true rfl) rfl ?_
  refine sw_iadd O (xx_dt dd_J5_append_c97b9 6 rfl) ?_
  rw [nI_a1]
  refine sw_istore_n (ls2 := [.ref r, .int (nI x), .int (nI c), .int (nI (c + 1))]) O (xx_dt dd_J5_append_c97b9 7 rfl) (by decide) rfl ?_
  refine sw_aload_n O (xx_dt dd_J5_append_c97b9 8 rfl) rfl ?_
  refine sw_iload_n O (xx_dt dd_J5_append_c97b9 9 rfl) rfl ?_
  refine sw_callWx (as := [.int (nI (c + 1))]) (st := []) (st2 := []) O (sb_ens hl hr hv (a := c + 1) (by omega)) ce_J5_ensureCapacityInternal_d00df mk_J5_100 slc_J5_ensureCapacityInternal_d00df cl_J4 (hr) (xx_dt dd_J5_append_c97b9 10 rfl) (by decide) rfl rfl (Nat.le_of_ble_eq_true rfl) rfl ?_
  refine sw_aload_n O (xx_dt dd_J5_append_c97b9 11 rfl) rfl ?_
  refine sw_callWx (as := []) (st := []) (st2 := [.int 1]) O (sb_isLatin1 hl hr) ce_J5_isLatin1_aae02 mk_J5_83 slc_J5_isLatin1_aae02 cl_J4 (hr) (xx_dt dd_J5_append_c97b9 12 rfl) (by decide) rfl rfl (Nat.le_of_ble_eq_true rfl) rfl ?_
  refine sw_if_eq (tgt := 37) O (xx_dt dd_J5_append_c97b9 13 rfl) (by decide) (fun q => absurd q (by decide)) (fun _ => ?_)
  refine sw_iload_n O (xx_dt dd_J5_append_c97b9 14 rfl) rfl ?_
  refine sw_iload_n O (xx_dt dd_J5_append_c97b9 15 rfl) rfl ?_
  refine sw_aload_n O (xx_dt dd_J5_append_c97b9 16 rfl) rfl ?_
  refine sw_get2 (v := .ref v) O (xx_dt dd_J5_append_c97b9 17 rfl) cl_J4 f2_J5_15 hr (by decide) rfl ?_
  refine sw_callSx (as := [.int (nI x), .int (nI (c + 1)), .ref v]) (st := []) (st2 := [.int (nI c)]) O (sb_chars hl hv h9 hc hx h4 hw hw3) ce_J6_getChars_ba4f3 ml_J5_248 st_J6_getChars_ba4f3 (xx_dt dd_J5_append_c97b9 18 rfl) (by decide) rfl rfl (Nat.le_of_ble_eq_true rfl) rfl ?_
  refine sw_pop O (xx_dt dd_J5_append_c97b9 19 rfl) rfl ?_
  refine sw_goto (tgt := 48) O (xx_dt dd_J5_append_c97b9 20 rfl) (by decide) ?_
  refine sw_aload_n O (xx_dt dd_J5_append_c97b9 28 rfl) rfl ?_
  refine sw_iload_n O (xx_dt dd_J5_append_c97b9 29 rfl) rfl ?_
  refine sw_put2 (h2 := xx_up (xx_up h r (1, 4, xx_sb v (c + 1) b)) v (102, 16, updV G c (.int w))) O (xx_dt dd_J5_append_c97b9 30 rfl) cl_J4 f2_J5_79 (by rw [xx_up_ne hrv]; exact hr) (by decide) h1 rfl (fun _ => ⟨rfl, rfl⟩) (by rw [xx_sb_c]; exact (xx_up_sw hrv).symm) ?_
  refine sw_aload_n O (xx_dt dd_J5_append_c97b9 31 rfl) rfl ?_
  exact sw_aret O (xx_dt dd_J5_append_c97b9 32 rfl) rfl (.inl ⟨_, rfl⟩) (by rw [hQ]; exact ⟨rfl, rfl⟩)
theorem sb_appendI {l : Launch} {h : XH} (hl : l.stackTraces = false) {r v c : Nat} {b : Int32} {G : Nat → Value} (hr : h r = some (1, 4, xx_sb v c b)) (hv : h v = some (102, 16, G)) (h1 : 1000 ≤ r) (h9 : 1000 ≤ v) (hrv : r ≠ v) (hc : c < 16) {x : Nat} {w : Int32} {F : Nat → Value} (hx : x < 10) (h4 : h 4 = some (102, 100, F)) (hw : F x = .int w) (hw3 : narrow .byte (.int w) = .int w)  : XEx l m_J4_append_bf812 2 0 0 [.ref r, .int (nI x)] (h) (some (.ref r)) (xx_up (xx_up h r (1, 4, xx_sb v (c + 1) b)) v (102, 16, updV G c (.int w))) := by
  refine XMet.of hl rfl rfl (Nat.le_of_ble_eq_true rfl) (fun Y O hh hQ => ?_)
  show SW Y 0 0 (h) 0 [.ref r, .int (nI x)] []
  refine sw_aload_n O (xx_dt dd_J4_append_bf812 0 rfl) rfl ?_
  refine sw_iload_n O (xx_dt dd_J4_append_bf812 1 rfl) rfl ?_
  refine sw_callSUx (as := [.int (nI x)]) (st := []) (st2 := [.ref r]) O (sb_appendI5 hl hr hv h1 h9 hrv hc hx h4 hw hw3) ce_J5_append_c97b9 su_J4_53 cl_J4 (hr) (xx_dt dd_J4_append_bf812 2 rfl) (by decide) rfl rfl (Nat.le_of_ble_eq_true rfl) rfl ?_
  refine sw_pop O (xx_dt dd_J4_append_bf812 3 rfl) rfl ?_
  refine sw_aload_n O (xx_dt dd_J4_append_bf812 4 rfl) rfl ?_
  exact sw_aret O (xx_dt dd_J4_append_bf812 5 rfl) rfl (.inl ⟨_, rfl⟩) (by rw [hQ]; exact ⟨rfl, rfl⟩)
theorem sb_setLength5 {l : Launch} {h : XH} (hl : l.stackTraces = false) {r v c : Nat} {b : Int32} {G : Nat → Value} (hr : h r = some (1, 4, xx_sb v c b)) (hv : h v = some (102, 16, G)) (h1 : 1000 ≤ r) (h9 : 1000 ≤ v) (hrv : r ≠ v) (hc : c ≤ 16)  : XEx l m_J5_setLength_d00df 1 0 0 [.ref r, .int (nI 0)] (h) (none) (xx_up h r (1, 4, xx_sb v 0 (if c = 0 then b else 1))) := by
  refine XMet.of hl rfl rfl (Nat.le_of_ble_eq_true rfl) (fun Y O hh hQ => ?_)
  show SW Y 0 0 (h) 0 [.ref r, .int (nI 0)] []
  refine sw_iload_n O (xx_dt dd_J5_setLength_d00df 0 rfl) rfl ?_
  refine sw_if_ge (tgt := 13) O (xx_dt dd_J5_setLength_d00df 1 rfl) (by decide) (fun _ => ?_) (fun q => absurd (xx_ge0 0 (by omega)) q)
  refine sw_aload_n O (xx_dt dd_J5_setLength_d00df 7 rfl) rfl ?_
  refine sw_iload_n O (xx_dt dd_J5_setLength_d00df 8 rfl) rfl ?_
  refine sw_callWx (as := [.int (nI 0)]) (st := []) (st2 := []) O (sb_ens hl hr hv (a := 0) (by omega)) ce_J5_ensureCapacityInternal_d00df mk_J5_100 slc_J5_ensureCapacityInternal_d00df cl_J4 (hr) (xx_dt dd_J5_setLength_d00df 9 rfl) (by decide) rfl rfl (Nat.le_of_ble_eq_true rfl) rfl ?_
  refine sw_aload_n O (xx_dt dd_J5_setLength_d00df 10 rfl) rfl ?_
  refine sw_get2 (v := .int (nI c)) O (xx_dt dd_J5_setLength_d00df 11 rfl) cl_J4 f2_J5_79 hr (by decide) rfl ?_
  refine sw_iload_n O (xx_dt dd_J5_setLength_d00df 12 rfl) rfl ?_
  refine sw_icmp_ge (tgt := 63) O (xx_dt dd_J5_setLength_d00df 13 rfl) (by decide) (fun _ => ?_) (fun q => absurd (xx_ge0 c (by omega)) q)
  refine sw_aload_n O (xx_dt dd_J5_setLength_d00df 31 rfl) rfl ?_
  refine sw_get2 (v := .int (nI c)) O (xx_dt dd_J5_setLength_d00df 32 rfl) cl_J4 f2_J5_79 hr (by decide) rfl ?_
  refine sw_iload_n O (xx_dt dd_J5_setLength_d00df 33 rfl) rfl ?_
  refine sw_icmp_le (tgt := 76) O (xx_dt dd_J5_setLength_d00df 34 rfl) (by decide) (fun q => ?_) (fun q => ?_)
  · have hc0 : c = 0 := by have := (nI_leI (a := c) (b := 0) (by omega) (by omega)).mp q; omega
    refine sw_aload_n O (xx_dt dd_J5_setLength_d00df 38 rfl) rfl ?_
    refine sw_iload_n O (xx_dt dd_J5_setLength_d00df 39 rfl) rfl ?_
    refine sw_put2 (h2 := xx_up h r (1, 4, xx_sb v 0 b)) O (xx_dt dd_J5_setLength_d00df 40 rfl) cl_J4 f2_J5_79 hr (by decide) h1 rfl (fun _ => ⟨rfl, rfl⟩) (by rw [xx_sb_c]) ?_
    exact sw_ret O (xx_dt dd_J5_setLength_d00df 41 rfl) rfl (by rw [hQ]; exact ⟨rfl, by rw [if_pos hc0]⟩)
  · have hc0 : ¬ c = 0 := fun e => q (by rw [e]; exact Int32.le_refl _)
    refine sw_aload_n O (xx_dt dd_J5_setLength_d00df 35 rfl) rfl ?_
    refine sw_iconst (x := 1) O (xx_dt dd_J5_setLength_d00df 36 rfl) (by decide) ?_
    refine sw_put2 (h2 := xx_up h r (1, 4, xx_sb v c 1)) O (xx_dt dd_J5_setLength_d00df 37 rfl) cl_J4 f2_J5_73 hr (by decide) h1 rfl (fun _ => ⟨rfl, rfl⟩) (by rw [xx_sb_b]) ?_
    refine sw_aload_n O (xx_dt dd_J5_setLength_d00df 38 rfl) rfl ?_
    refine sw_iload_n O (xx_dt dd_J5_setLength_d00df 39 rfl) rfl ?_
    refine sw_put2 (h2 := xx_up h r (1, 4, xx_sb v 0 1)) O (xx_dt dd_J5_setLength_d00df 40 rfl) cl_J4 f2_J5_79 (xx_up_eq _ _ _) (by decide) h1 rfl (fun _ => ⟨rfl, rfl⟩) (by rw [xx_sb_c, xx_up_up]) ?_
    exact sw_ret O (xx_dt dd_J5_setLength_d00df 41 rfl) rfl (by rw [hQ]; exact ⟨rfl, by rw [if_neg hc0]⟩)
theorem sb_setLength {l : Launch} {h : XH} (hl : l.stackTraces = false) {r v c : Nat} {b : Int32} {G : Nat → Value} (hr : h r = some (1, 4, xx_sb v c b)) (hv : h v = some (102, 16, G)) (h1 : 1000 ≤ r) (h9 : 1000 ≤ v) (hrv : r ≠ v) (hc : c ≤ 16)  : XEx l m_J4_setLength_d00df 2 0 0 [.ref r, .int (nI 0)] (h) (none) (xx_up h r (1, 4, xx_sb v 0 (if c = 0 then b else 1))) := by
  refine XMet.of hl rfl rfl (Nat.le_of_ble_eq_true rfl) (fun Y O hh hQ => ?_)
  show SW Y 0 0 (h) 0 [.ref r, .int (nI 0)] []
  refine sw_aload_n O (xx_dt dd_J4_setLength_d00df 0 rfl) rfl ?_
  refine sw_iload_n O (xx_dt dd_J4_setLength_d00df 1 rfl) rfl ?_
  refine sw_callSUx (as := [.int (nI 0)]) (st := []) (st2 := []) O (sb_setLength5 hl hr hv h1 h9 hrv hc) ce_J5_setLength_d00df su_J4_333 cl_J4 (hr) (xx_dt dd_J4_setLength_d00df 2 rfl) (by decide) rfl rfl (Nat.le_of_ble_eq_true rfl) rfl ?_
  exact sw_ret O (xx_dt dd_J4_setLength_d00df 3 rfl) rfl (by rw [hQ]; exact ⟨rfl, rfl⟩)
theorem sb_init5 {l : Launch} {h : XH} (hl : l.stackTraces = false) {r v : Nat} (hr : h r = some (1, 4, fun j => defaultValue (tyJ4 j))) (h1 : 1000 ≤ r) (hv : h v = none) (h9 : 1000 ≤ v)  : XEx l m_J5_init_d00df 1 1 16 [.ref r, .int (nI 16)] (h) (none) (xx_up (xx_up h r (1, 4, xx_sb v 0 0)) v (102, 16, fun _ => .int 0)) := by
  refine XMet.of hl rfl rfl (Nat.le_of_ble_eq_true rfl) (fun Y O hh hQ => ?_)
  have hrv : r ≠ v := fun q => by rw [q, hv] at hr; cases hr
  show SW Y 1 16 (h) 0 [.ref r, .int (nI 16)] []
  refine sw_aload_n O (xx_dt dd_J5_init_d00df 0 rfl) rfl ?_
  refine sw_objInit O oi_J5_3 (xx_dt dd_J5_init_d00df 1 rfl) (by omega) (Nat.le_of_ble_eq_true rfl) ?_
  refine sw_gets (i := 0) (z := 1) O (xx_dt dd_J5_init_d00df 2 rfl) rfl gs_J5_18 ?_
  refine sw_if_eq (tgt := 25) O (xx_dt dd_J5_init_d00df 3 rfl) (by decide) (fun q => absurd q (by decide)) (fun _ => ?_)
  refine sw_aload_n O (xx_dt dd_J5_init_d00df 4 rfl) rfl ?_
  refine sw_iload_n O (xx_dt dd_J5_init_d00df 5 rfl) rfl ?_
  refine sw_newarray (k := 0) (n := 0) (t := 102) (N := 16) (r := v) O (xx_dt dd_J5_init_d00df 6 rfl) ⟨⟨by omega, by omega⟩, rfl⟩ ac_byte (by decide) (by decide) (by decide) hv h9 ?_
  rw [xx_blk_up, show (fun _ => defaultValue (newarray.typeOf .byte)) = (fun _ => Value.int 0 : Nat → Value) from rfl]
  refine sw_put2 (h2 := xx_up (xx_up h v (102, 16, fun _ => .int 0)) r (1, 4, updV (fun j => defaultValue (tyJ4 j)) 0 (.ref v))) O (xx_dt dd_J5_init_d00df 7 rfl) cl_J4 f2_J5_15 (by rw [xx_up_ne hrv]; exact hr) (by decide) h1 rfl (fun _ => ⟨rfl, rfl⟩) rfl ?_
  refine sw_aload_n O (xx_dt dd_J5_init_d00df 8 rfl) rfl ?_
  refine sw_iconst (x := 0) O (xx_dt dd_J5_init_d00df 9 rfl) (by decide) ?_
  refine sw_put2 (h2 := xx_up (xx_up h r (1, 4, xx_sb v 0 0)) v (102, 16, fun _ => .int 0)) O (xx_dt dd_J5_init_d00df 10 rfl) cl_J4 f2_J5_22 (xx_up_eq _ _ _) (by decide) h1 rfl (fun _ => ⟨rfl, rfl⟩) (by rw [xx_up_up, ← xx_sb_0]; exact (xx_up_sw hrv).symm) ?_
  refine sw_goto (tgt := 38) O (xx_dt dd_J5_init_d00df 11 rfl) (by decide) ?_
  exact sw_ret O (xx_dt dd_J5_init_d00df 19 rfl) rfl (by rw [hQ]; exact ⟨rfl, rfl⟩)
theorem sb_init {l : Launch} {h : XH} (hl : l.stackTraces = false) {r v : Nat} (hr : h r = some (1, 4, fun j => defaultValue (tyJ4 j))) (h1 : 1000 ≤ r) (hv : h v = none) (h9 : 1000 ≤ v)  : XEx l m_J4_init_da8c8 2 1 16 [.ref r] (h) (none) (xx_up (xx_up h r (1, 4, xx_sb v 0 0)) v (102, 16, fun _ => .int 0)) := by
  refine XMet.of hl rfl rfl (Nat.le_of_ble_eq_true rfl) (fun Y O hh hQ => ?_)
  show SW Y 1 16 (h) 0 [.ref r] []
  refine sw_aload_n O (xx_dt dd_J4_init_da8c8 0 rfl) rfl ?_
  refine sw_bipush (x := nI 16) O (xx_dt dd_J4_init_da8c8 1 rfl) (by decide) ?_
  refine sw_callIx (k := 0) (n := 0) (k' := 1) (n' := 16) (as := [.int (nI 16)]) (st := []) (st2 := []) O (sb_init5 hl hr h1 hv h9) ce_J5_init_d00df ml_J4_1 ii_J5_init_d00df (xx_dt dd_J4_init_da8c8 2 rfl) (by decide) rfl rfl (Nat.le_of_ble_eq_true rfl) rfl ?_
  exact sw_ret O (xx_dt dd_J4_init_da8c8 3 rfl) rfl (by rw [hQ]; exact ⟨rfl, rfl⟩)
theorem sb_checkLength {l : Launch} {h : XH} (hl : l.stackTraces = false) {c : Nat} (hc : c < 16)  : XEx l m_J7_checkLength_df160 0 0 0 [.int (nI 0), .int (nI c)] (h) (none) (h) := by
  refine XMet.of hl rfl rfl (Nat.le_of_ble_eq_true rfl) (fun Y O hh hQ => ?_)
  show SW Y 0 0 (h) 0 [.int (nI 0), .int (nI c)] []
  refine sw_iload_n O (xx_dt dd_J7_checkLength_df160 0 rfl) rfl ?_
  refine sw_iload_n O (xx_dt dd_J7_checkLength_df160 1 rfl) rfl ?_
  refine sw_icmp_ge (tgt := 37) O (xx_dt dd_J7_checkLength_df160 2 rfl) (by decide) (fun _ => ?_) (fun q => absurd (xx_ge0 c (by omega)) q)
  exact sw_ret O (xx_dt dd_J7_checkLength_df160 17 rfl) rfl (by rw [hQ]; exact ⟨rfl, rfl⟩)
theorem sb_copyRB {l : Launch} {h : XH} (hl : l.stackTraces = false) {v u c : Nat} {G : Nat → Value} (hv : h v = some (102, 16, G)) (hu : h u = none) (h9 : 1000 ≤ u) (hc : c < 16) (hG : ∀ j, j < c → ∃ z : Int32, G j = .int z ∧ fits .byte (.int z) = true)  : XEx l m_J7_copyOfRangeByte_39247 1 1 c [.ref v, .int (nI 0), .int (nI c)] (h) (some (.ref u)) (xx_up h u (102, c, fun j => if j < c then G j else .int 0)) := by
  refine XMet.of hl rfl rfl (Nat.le_of_ble_eq_true rfl) (fun Y O hh hQ => ?_)
  have hvu : v ≠ u := fun q => by rw [q, hu] at hv; cases hv
  show SW Y 1 c (h) 0 [.ref v, .int (nI 0), .int (nI c), xx_d, xx_d] []
  refine sw_iload_n O (xx_dt dd_J7_copyOfRangeByte_39247 0 rfl) rfl ?_
  refine sw_iload_n O (xx_dt dd_J7_copyOfRangeByte_39247 1 rfl) rfl ?_
  refine sw_callSx (k := 1) (n := c) (k' := 0) (n' := 0) (as := [.int (nI 0), .int (nI c)]) (st := []) (st2 := []) O (sb_checkLength hl hc) ce_J7_checkLength_df160 ml_J7_343 st_J7_checkLength_df160 (xx_dt dd_J7_copyOfRangeByte_39247 2 rfl) (by decide) rfl rfl (Nat.le_of_ble_eq_true rfl) rfl ?_
  refine sw_iload_n O (xx_dt dd_J7_copyOfRangeByte_39247 3 rfl) rfl ?_
  refine sw_iload_n O (xx_dt dd_J7_copyOfRangeByte_39247 4 rfl) rfl ?_
  refine sw_isub O (xx_dt dd_J7_copyOfRangeByte_39247 5 rfl) ?_
  rw [show nI c - nI 0 = nI c from xx_sub0 _]
  refine sw_istore_n (ls2 := [.ref v, .int (nI 0), .int (nI c), .int (nI c), xx_d]) O (xx_dt dd_J7_copyOfRangeByte_39247 6 rfl) (by decide) rfl ?_
  refine sw_iload_n O (xx_dt dd_J7_copyOfRangeByte_39247 7 rfl) rfl ?_
  refine xx_wid (k' := 0 + 1) (n' := 0 + c) (by omega) (by omega) (sw_newarray (t := 102) (N := c) (r := u) O (xx_dt dd_J7_copyOfRangeByte_39247 8 rfl) ⟨⟨by omega, by omega⟩, rfl⟩ ac_byte (xx_nlt0 c (by omega)) (nI_clamp (by omega)) (by show c * 1 ≤ _; omega) hu h9 ?_)
  rw [xx_blk_up, show (fun _ => defaultValue (newarray.typeOf .byte)) = (fun _ => Value.int 0 : Nat → Value) from rfl]
  refine sw_astore (ls2 := [.ref v, .int (nI 0), .int (nI c), .int (nI c), .ref u]) O (xx_dt dd_J7_copyOfRangeByte_39247 9 rfl) (by decide) rfl ?_
  refine sw_aload_n O (xx_dt dd_J7_copyOfRangeByte_39247 10 rfl) rfl ?_
  refine sw_iload_n O (xx_dt dd_J7_copyOfRangeByte_39247 11 rfl) rfl ?_
  refine sw_aload O (xx_dt dd_J7_copyOfRangeByte_39247 12 rfl) rfl ?_
  refine sw_iconst (x := 0) O (xx_dt dd_J7_copyOfRangeByte_39247 13 rfl) (by decide) ?_
  refine sw_aload_n O (xx_dt dd_J7_copyOfRangeByte_39247 14 rfl) rfl ?_
  refine sw_alen (t := 102) O (xx_dt dd_J7_copyOfRangeByte_39247 15 rfl) (by omega) (by omega) (by rw [xx_up_ne hvu]; exact hv) ?_
  refine sw_iload_n O (xx_dt dd_J7_copyOfRangeByte_39247 16 rfl) rfl ?_
  refine sw_isub O (xx_dt dd_J7_copyOfRangeByte_39247 17 rfl) ?_
  rw [show nI 16 - nI 0 = nI 16 from xx_sub0 _]
  refine sw_iload_n O (xx_dt dd_J7_copyOfRangeByte_39247 18 rfl) rfl ?_
  refine sw_min (x := nI 16) (y := nI c) O mm_J7_304 (xx_dt dd_J7_copyOfRangeByte_39247 19 rfl) (by omega) (Nat.le_of_ble_eq_true rfl) ?_
  rw [if_pos ((nI_ltI (a := c) (b := 16) (by omega) (by omega)).mpr (by omega))]
  refine sw_copyB (h2' := xx_up h u (102, c, fun j => if j < c then G j else .int 0)) O ay_J7_150 (xx_dt dd_J7_copyOfRangeByte_39247 20 rfl) (by rw [xx_up_ne hvu]; exact hv) (xx_up_eq _ _ _) h9 (xx_nlt0 c (by omega)) (by rw [nI_clamp (by omega)]; omega) (by rw [nI_clamp (by omega)]; exact Nat.le_refl _) (fun j hj => ?_) (by omega) (by decide +kernel) ?_ ?_
  · rw [nI_clamp (by omega)] at hj
    exact hG j hj
  · rw [xx_up_up, nI_clamp (by omega)]
  refine sw_aload O (xx_dt dd_J7_copyOfRangeByte_39247 21 rfl) rfl ?_
  exact sw_aret O (xx_dt dd_J7_copyOfRangeByte_39247 22 rfl) rfl (.inr ⟨_, rfl⟩) (by rw [hQ]; exact ⟨rfl, rfl⟩)
theorem sb_copyR {l : Launch} {h : XH} (hl : l.stackTraces = false) {v u c : Nat} {G : Nat → Value} (hv : h v = some (102, 16, G)) (hu : h u = none) (h9 : 1000 ≤ u) (hc : c < 16) (hG : ∀ j, j < c → ∃ z : Int32, G j = .int z ∧ fits .byte (.int z) = true)  : XEx l m_J7_copyOfRange_39247 2 1 c [.ref v, .int (nI 0), .int (nI c)] (h) (some (.ref u)) (xx_up h u (102, c, fun j => if j < c then G j else .int 0)) := by
  refine XMet.of hl rfl rfl (Nat.le_of_ble_eq_true rfl) (fun Y O hh hQ => ?_)
  show SW Y 1 c (h) 0 [.ref v, .int (nI 0), .int (nI c)] []
  refine sw_iload_n O (xx_dt dd_J7_copyOfRange_39247 0 rfl) rfl ?_
  refine sw_if_ne (tgt := 10) O (xx_dt dd_J7_copyOfRange_39247 1 rfl) (by decide) (fun q => absurd rfl q) (fun _ => ?_)
  refine sw_iload_n O (xx_dt dd_J7_copyOfRange_39247 2 rfl) rfl ?_
  refine sw_aload_n O (xx_dt dd_J7_copyOfRange_39247 3 rfl) rfl ?_
  refine sw_alen (t := 102) O (xx_dt dd_J7_copyOfRange_39247 4 rfl) (by omega) (by omega) hv ?_
  refine sw_icmp_eq (tgt := 17) O (xx_dt dd_J7_copyOfRange_39247 5 rfl) (by decide) (fun q => absurd q (fun q => absurd (congrArg cn q) (by rw [cn_nI (by omega), cn_nI (by omega)]; omega))) (fun _ => ?_)
  refine sw_aload_n O (xx_dt dd_J7_copyOfRange_39247 6 rfl) rfl ?_
  refine sw_iload_n O (xx_dt dd_J7_copyOfRange_39247 7 rfl) rfl ?_
  refine sw_iload_n O (xx_dt dd_J7_copyOfRange_39247 8 rfl) rfl ?_
  refine xx_wid (k' := 0 + 1) (n' := 0 + c) (by omega) (by omega) (sw_callSx (k := 0) (n := 0) (k' := 1) (n' := c) (as := [.ref v, .int (nI 0), .int (nI c)]) (st := []) (st2 := [.ref u]) O (sb_copyRB hl hv hu h9 hc hG) ce_J7_copyOfRangeByte_39247 ml_J7_339 st_J7_copyOfRangeByte_39247 (xx_dt dd_J7_copyOfRange_39247 9 rfl) (by decide) rfl rfl (Nat.le_of_ble_eq_true rfl) rfl ?_)
  exact sw_aret O (xx_dt dd_J7_copyOfRange_39247 10 rfl) rfl (.inr ⟨_, rfl⟩) (by rw [hQ]; exact ⟨rfl, rfl⟩)
def xx_so (u : Nat) : Nat → Value := updV (updV (fun j => defaultValue (tyJ0 j)) 1 (.int 0)) 0 (.ref u)
theorem sb_sinit2 {l : Launch} {h : XH} (hl : l.stackTraces = false) {r v c t u : Nat} {b : Int32} {G : Nat → Value} (hr : h r = some (1, 4, xx_sb v c b)) (hv : h v = some (102, 16, G)) (ht : h t = some (0, 4, fun j => defaultValue (tyJ0 j))) (hu : h u = none) (h1 : 1000 ≤ t) (h9 : 1000 ≤ u) (hc : c < 16) (hG : ∀ j, j < c → ∃ z : Int32, G j = .int z ∧ fits .byte (.int z) = true)  : XEx l m_J0_init_db425 3 1 c [.ref t, .ref r, .null] (h) (none) (xx_up (xx_up h t (0, 4, xx_so u)) u (102, c, fun j => if j < c then G j else .int 0)) := by
  refine XMet.of hl rfl rfl (Nat.le_of_ble_eq_true rfl) (fun Y O hh hQ => ?_)
  have hrt : r ≠ t := fun q => by rw [q, ht] at hr; cases hr
  have hvt : v ≠ t := fun q => by rw [q, ht] at hv; cases hv
  have htu : t ≠ u := fun q => by rw [q, hu] at ht; cases ht
  show SW Y 1 c (h) 0 [.ref t, .ref r, .null, xx_d, xx_d] []
  refine sw_aload_n O (xx_dt dd_J0_init_db425 0 rfl) rfl ?_
  refine sw_objInit O oi_J0_1 (xx_dt dd_J0_init_db425 1 rfl) (by omega) (Nat.le_of_ble_eq_true rfl) ?_
  refine sw_aload_n O (xx_dt dd_J0_init_db425 2 rfl) rfl ?_
  refine sw_callWx (k := 1) (n := c) (k' := 0) (n' := 0) (as := []) (st := []) (st2 := [.ref v]) O (sb_getValue hl hr) ce_J5_getValue_6d5f1 mk_J0_552 slc_J5_getValue_6d5f1 cl_J4 (hr) (xx_dt dd_J0_init_db425 3 rfl) (by decide) rfl rfl (Nat.le_of_ble_eq_true rfl) rfl ?_
  refine sw_astore_n (ls2 := [.ref t, .ref r, .null, .ref v, xx_d]) O (xx_dt dd_J0_init_db425 4 rfl) (by decide) rfl ?_
  refine sw_aload_n O (xx_dt dd_J0_init_db425 5 rfl) rfl ?_
  refine sw_callUx (k := 1) (n := c) (k' := 0) (n' := 0) (as := []) (st := []) (st2 := [.int (nI c)]) O (sb_length hl hr) ce_J4_length_8abf5 ov_J0_549 cl_J4 hr (xx_dt dd_J0_init_db425 6 rfl) (by decide) rfl rfl (Nat.le_of_ble_eq_true rfl) rfl ?_
  refine sw_istore (ls2 := [.ref t, .ref r, .null, .ref v, .int (nI c)]) O (xx_dt dd_J0_init_db425 7 rfl) (by decide) rfl ?_
  refine sw_aload_n O (xx_dt dd_J0_init_db425 8 rfl) rfl ?_
  refine sw_callWx (k := 1) (n := c) (k' := 0) (n' := 0) (as := []) (st := []) (st2 := [.int 1]) O (sb_isLatin1 hl hr) ce_J5_isLatin1_aae02 mk_J0_1047 slc_J5_isLatin1_aae02 cl_J4 (hr) (xx_dt dd_J0_init_db425 9 rfl) (by decide) rfl rfl (Nat.le_of_ble_eq_true rfl) rfl ?_
  refine sw_if_eq (tgt := 41) O (xx_dt dd_J0_init_db425 10 rfl) (by decide) (fun q => absurd q (by decide)) (fun _ => ?_)
  refine sw_aload_n O (xx_dt dd_J0_init_db425 11 rfl) rfl ?_
  refine sw_iconst (x := 0) O (xx_dt dd_J0_init_db425 12 rfl) (by decide) ?_
  refine sw_putF (h2 := xx_up h t (0, 4, updV (fun j => defaultValue (tyJ0 j)) 1 (.int 0))) O (xx_dt dd_J0_init_db425 13 rfl) cl_J0 fz_J0_15 ht (by decide) h1 rfl rfl (fun _ => ⟨rfl, rfl⟩) rfl ?_
  refine sw_aload_n O (xx_dt dd_J0_init_db425 14 rfl) rfl ?_
  refine sw_aload_n O (xx_dt dd_J0_init_db425 15 rfl) rfl ?_
  refine sw_iconst (x := 0) O (xx_dt dd_J0_init_db425 16 rfl) (by decide) ?_
  refine sw_iload O (xx_dt dd_J0_init_db425 17 rfl) rfl ?_
  refine xx_wid (k' := 0 + 1) (n' := 0 + c) (by omega) (by omega) (sw_callSx (k := 0) (n := 0) (k' := 1) (n' := c) (as := [.ref v, .int (nI 0), .int (nI c)]) (st := [.ref t]) (st2 := [.ref u, .ref t]) O (sb_copyR hl (v := v) (u := u) (c := c) (G := G) (by rw [xx_up_ne hvt]; exact hv) (by rw [xx_up_ne (Ne.symm htu)]; exact hu) h9 hc hG) ce_J7_copyOfRange_39247 ml_J0_54 st_J7_copyOfRange_39247 (xx_dt dd_J0_init_db425 18 rfl) (by decide) rfl rfl (Nat.le_of_ble_eq_true rfl) rfl ?_)
  refine sw_putF (h2 := xx_up (xx_up h t (0, 4, xx_so u)) u (102, c, fun j => if j < c then G j else .int 0)) O (xx_dt dd_J0_init_db425 19 rfl) cl_J0 fz_J0_9 (by rw [xx_up_ne htu]; exact xx_up_eq _ _ _) (by decide) h1 rfl rfl (fun _ => ⟨rfl, rfl⟩) (by rw [← xx_up_sw htu, xx_up_up]; rfl) ?_
  refine sw_goto (tgt := 97) O (xx_dt dd_J0_init_db425 20 rfl) (by decide) ?_
  exact sw_ret O (xx_dt dd_J0_init_db425 50 rfl) rfl (by rw [hQ]; exact ⟨rfl, rfl⟩)
theorem sb_sinit {l : Launch} {h : XH} (hl : l.stackTraces = false) {r v c t u : Nat} {b : Int32} {G : Nat → Value} (hr : h r = some (1, 4, xx_sb v c b)) (hv : h v = some (102, 16, G)) (ht : h t = some (0, 4, fun j => defaultValue (tyJ0 j))) (hu : h u = none) (h1 : 1000 ≤ t) (h9 : 1000 ≤ u) (hc : c < 16) (hG : ∀ j, j < c → ∃ z : Int32, G j = .int z ∧ fits .byte (.int z) = true)  : XEx l m_J0_init_81219 4 1 c [.ref t, .ref r] (h) (none) (xx_up (xx_up h t (0, 4, xx_so u)) u (102, c, fun j => if j < c then G j else .int 0)) := by
  refine XMet.of hl rfl rfl (Nat.le_of_ble_eq_true rfl) (fun Y O hh hQ => ?_)
  show SW Y 1 c (h) 0 [.ref t, .ref r] []
  refine sw_aload_n O (xx_dt dd_J0_init_81219 0 rfl) rfl ?_
  refine sw_aload_n O (xx_dt dd_J0_init_81219 1 rfl) rfl ?_
  refine sw_null O (xx_dt dd_J0_init_81219 2 rfl) ?_
  refine xx_wid (k' := 0 + 1) (n' := 0 + c) (by omega) (by omega) (sw_callIx (k := 0) (n := 0) (k' := 1) (n' := c) (as := [.ref r, .null]) (st := []) (st2 := []) O (sb_sinit2 hl hr hv ht hu h1 h9 hc hG) ce_J0_init_db425 ml_J0_489 ii_J0_init_db425 (xx_dt dd_J0_init_81219 3 rfl) (by decide) rfl rfl (Nat.le_of_ble_eq_true rfl) rfl ?_)
  exact sw_ret O (xx_dt dd_J0_init_81219 4 rfl) rfl (by rw [hQ]; exact ⟨rfl, rfl⟩)
theorem sb_toString {l : Launch} {h : XH} (hl : l.stackTraces = false) {r v c t u : Nat} {b : Int32} {G : Nat → Value} (hr : h r = some (1, 4, xx_sb v c b)) (hv : h v = some (102, 16, G)) (ht : h t = none) (hu : h u = none) (h1 : 1000 ≤ t) (h9 : 1000 ≤ u) (hc : c < 16) (hG : ∀ j, j < c → ∃ z : Int32, G j = .int z ∧ fits .byte (.int z) = true) (htu : t ≠ u)  : XEx l m_J4_toString_0e30d 5 2 (c + 4) [.ref r] (h) (some (.ref t)) (xx_up (xx_up h t (0, 4, xx_so u)) u (102, c, fun j => if j < c then G j else .int 0)) := by
  refine XMet.of hl rfl rfl (Nat.le_of_ble_eq_true rfl) (fun Y O hh hQ => ?_)
  have hrt : r ≠ t := fun q => by rw [q, ht] at hr; cases hr
  have hvt : v ≠ t := fun q => by rw [q, ht] at hv; cases hv
  show SW Y 2 (c + 4) (h) 0 [.ref r] []
  refine sw_new (k := 1) (n := c) (r := t) O (xx_dt dd_J4_toString_0e30d 0 rfl) cl_J0 nw_J4_18 ht h1 ?_
  rw [xx_blk_up]
  refine sw_dup O (xx_dt dd_J4_toString_0e30d 1 rfl) rfl ?_
  refine sw_aload_n O (xx_dt dd_J4_toString_0e30d 2 rfl) rfl ?_
  refine xx_wid (k' := 0 + 1) (n' := 0 + c) (by omega) (by omega) (sw_callIx (k := 0) (n := 0) (k' := 1) (n' := c) (as := [.ref r]) (st := [.ref t]) (st2 := [.ref t]) O (sb_sinit hl (r := r) (v := v) (c := c) (t := t) (u := u) (b := b) (G := G) (by rw [xx_up_ne hrt]; exact hr) (by rw [xx_up_ne hvt]; exact hv) (xx_up_eq _ _ _) (by rw [xx_up_ne (Ne.symm htu)]; exact hu) h1 h9 hc hG) ce_J0_init_81219 ml_J4_137 ii_J0_init_81219 (xx_dt dd_J4_toString_0e30d 3 rfl) (by decide) rfl rfl (Nat.le_of_ble_eq_true rfl) rfl ?_)
  rw [xx_up_up]
  exact sw_aret O (xx_dt dd_J4_toString_0e30d 4 rfl) rfl (.inl ⟨_, rfl⟩) (by rw [hQ]; exact ⟨rfl, rfl⟩)
