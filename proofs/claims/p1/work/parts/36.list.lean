section
/-! ===== lists ===== -/
theorem ct_AL_size {l : Launch} {h : XH} (hl : l.stackTraces = false) {r n : Nat} {f : Nat → Value} (hc : h r = some (206, n, f))  : XEx l m_Jx4a65c_size_8abf5 0 0 0 [.ref r] (h) (some (.int (nI n))) (h) := by
  refine XMet.of hl rfl rfl (Nat.le_of_ble_eq_true rfl) (fun Y O hh hQ => ?_)
  show SW Y 0 0 (h) 0 [.ref r] []
  refine sw_aload_n O (xx_dt dd_Jx4a65c_size_8abf5 0 rfl) rfl ?_
  refine sw_getL (ci := 6) O (xx_dt dd_Jx4a65c_size_8abf5 1 rfl) cl_Jx4a65c ⟨fl_Jx4a65c_48.1, .inl fl_Jx4a65c_48.2⟩ hc (.inr rfl) ?_
  exact sw_iret O (xx_dt dd_Jx4a65c_size_8abf5 2 rfl) rfl rfl (by rw [hQ]; exact ⟨rfl, rfl⟩)
theorem nI_zero {n : Nat} (hn : n < 2147483648) (e : nI n = 0) : n = 0 := by
  have := congrArg cn e
  rw [cn_nI hn] at this
  exact this
theorem ct_AL_isEmpty {l : Launch} {h : XH} (hl : l.stackTraces = false) {r n : Nat} {f : Nat → Value} (hc : h r = some (206, n, f)) (hn : n < 2147483648)  : XEx l m_Jx4a65c_isEmpty_aae02 0 0 0 [.ref r] (h) (some (.int (if n = 0 then 1 else 0))) (h) := by
  refine XMet.of hl rfl rfl (Nat.le_of_ble_eq_true rfl) (fun Y O hh hQ => ?_)
  show SW Y 0 0 (h) 0 [.ref r] []
  refine sw_aload_n O (xx_dt dd_Jx4a65c_isEmpty_aae02 0 rfl) rfl ?_
  refine sw_getL (ci := 6) O (xx_dt dd_Jx4a65c_isEmpty_aae02 1 rfl) cl_Jx4a65c ⟨fl_Jx4a65c_48.1, .inl fl_Jx4a65c_48.2⟩ hc (.inr rfl) ?_
  refine sw_if_ne (tgt := 11) O (xx_dt dd_Jx4a65c_isEmpty_aae02 2 rfl) (by decide) (fun q => ?_) (fun q => ?_)
  · refine sw_iconst (x := 0) O (xx_dt dd_Jx4a65c_isEmpty_aae02 5 rfl) (by decide) ?_
    exact sw_iret O (xx_dt dd_Jx4a65c_isEmpty_aae02 6 rfl) rfl rfl (by rw [hQ]; exact ⟨by rw [if_neg (fun e => q (by rw [e]; rfl))], rfl⟩)
  · refine sw_iconst (x := 1) O (xx_dt dd_Jx4a65c_isEmpty_aae02 3 rfl) (by decide) ?_
    refine sw_goto (tgt := 12) O (xx_dt dd_Jx4a65c_isEmpty_aae02 4 rfl) (by decide) ?_
    exact sw_iret O (xx_dt dd_Jx4a65c_isEmpty_aae02 6 rfl) rfl rfl (by rw [hQ]; exact ⟨by rw [if_pos (nI_zero hn q)], rfl⟩)
theorem ct_checkIndex3 {l : Launch} {h : XH} (hl : l.stackTraces = false) {i n : Nat} (hi : i < n) (hn : n < 2147483648) : XEx l m_J3_checkIndex_8e157 0 0 0 [.int (nI i), .int (nI n), .null] (h) (some (.int (nI i))) (h) := by
  refine XMet.of hl rfl rfl (Nat.le_of_ble_eq_true rfl) (fun Y O hh hQ => ?_)
  show SW Y 0 0 (h) 0 [.int (nI i), .int (nI n), .null] []
  refine sw_iload_n O (xx_dt dd_J3_checkIndex_8e157 0 rfl) rfl ?_
  refine sw_if_lt (tgt := 9) O (xx_dt dd_J3_checkIndex_8e157 1 rfl) (by decide) (fun q => absurd q (Int32.not_lt.mpr ((nI_leI (a := 0) (b := i) (by omega) (by omega)).mpr (Nat.zero_le _)))) (fun q => ?_)
  refine sw_iload_n O (xx_dt dd_J3_checkIndex_8e157 2 rfl) rfl ?_
  refine sw_iload_n O (xx_dt dd_J3_checkIndex_8e157 3 rfl) rfl ?_
  refine sw_icmp_lt (tgt := 16) O (xx_dt dd_J3_checkIndex_8e157 4 rfl) (by decide) (fun q => ?_) (fun q => absurd ((nI_ltI (a := i) (b := n) (by omega) (by omega)).mpr hi) q)
  refine sw_iload_n O (xx_dt dd_J3_checkIndex_8e157 10 rfl) rfl ?_
  exact sw_iret O (xx_dt dd_J3_checkIndex_8e157 11 rfl) rfl rfl (by rw [hQ]; exact ⟨rfl, rfl⟩)
theorem ct_checkIndex2 {l : Launch} {h : XH} (hl : l.stackTraces = false) {i n : Nat} (hi : i < n) (hn : n < 2147483648) : XEx l m_J15_checkIndex_7cf53 1 0 0 [.int (nI i), .int (nI n)] (h) (some (.int (nI i))) (h) := by
  refine XMet.of hl rfl rfl (Nat.le_of_ble_eq_true rfl) (fun Y O hh hQ => ?_)
  show SW Y 0 0 (h) 0 [.int (nI i), .int (nI n)] []
  refine sw_iload_n O (xx_dt dd_J15_checkIndex_7cf53 0 rfl) rfl ?_
  refine sw_iload_n O (xx_dt dd_J15_checkIndex_7cf53 1 rfl) rfl ?_
  refine sw_null O (xx_dt dd_J15_checkIndex_7cf53 2 rfl) ?_
  refine sw_callSx (as := [.int (nI i), .int (nI n), .null]) (st := []) (st2 := [.int (nI i)]) O (ct_checkIndex3 hl hi hn) ce_J3_checkIndex_8e157 ml_J15_105 st_J3_checkIndex_8e157 (xx_dt dd_J15_checkIndex_7cf53 3 rfl) (by decide) rfl rfl (Nat.le_of_ble_eq_true rfl) rfl ?_
  exact sw_iret O (xx_dt dd_J15_checkIndex_7cf53 4 rfl) rfl rfl (by rw [hQ]; exact ⟨rfl, rfl⟩)
theorem xx_up_self {h : XH} {r : Nat} {c : XC} (e : h r = some c) : xx_up h r c = h := by
  funext q
  unfold xx_up
  split
  · rename_i z; rw [z, e]
  · rfl
theorem xx_up_up {h : XH} {r : Nat} {c c2 : XC} : xx_up (xx_up h r c) r c2 = xx_up h r c2 := by
  funext q
  unfold xx_up
  split <;> rfl
theorem xx_obO.up {h : XH} {r x : Nat} {c : XC} (hx : xx_obO h x) (e : x ≠ r) : xx_obO (xx_up h r c) x := by
  unfold xx_obO
  rw [xx_up_ne e]
  exact hx
theorem xx_obO.nl {h : XH} {r x ci n : Nat} {f : Nat → Value} (hx : xx_obO h x) (hr : h r = some (200 + ci, n, f)) : x ≠ r := by
  intro e
  subst e
  rcases hx with ⟨ci2, N, f2, C, T, ty, K, hc, -⟩ | ⟨N, f2, hc, -⟩
  · rw [hr] at hc
    cases hc
    have := K.1
    omega
  · rw [hr] at hc
    injection hc with hc
    injection hc with hc _
    omega
theorem xx_obO.nn {h : XH} {r x : Nat} (hx : xx_obO h x) (hr : h r = none) : x ≠ r := by
  intro e
  subst e
  rcases hx with ⟨ci2, N, f2, C, T, ty, K, hc, -⟩ | ⟨N, f2, hc, -⟩ <;> rw [hr] at hc <;> cases hc
theorem xx_obO.is {h : XH} {x : Nat} (hx : xx_obO h x) : (h x).isSome = true := by
  rcases hx with ⟨ci2, N, f2, C, T, ty, K, hc, -⟩ | ⟨N, f2, hc, -⟩ <;> rw [hc] <;> rfl
theorem ct_AL_elementData {l : Launch} {h : XH} (hl : l.stackTraces = false) {r n : Nat} {f : Nat → Value} (hc : h r = some (206, n, f)) {e : Nat} (he : h e = none) (h9 : 1000 ≤ e) (h1 : 1000 ≤ r) {f0 : Nat → Value} (h0 : h 0 = some (104, 0, f0)) {i x : Nat} (hi : i < n) (hx : f i = .ref x) : XEx l m_Jx4a65c_elementData_915e3 0 0 0 [.ref r, .int (nI i)] (h) (some (.ref x)) (h) := by
  refine XMet.of hl rfl rfl (Nat.le_of_ble_eq_true rfl) (fun Y O hh hQ => ?_)
  have hre : r ≠ e := fun q => by rw [q, he] at hc; cases hc
  refine sw_cls (fun hcl => ?_)
  have hxi : (h x).isSome = true := by have := hcl r _ i hc hi; rw [show (206, n, f).2.2 i = f i from rfl, hx] at this; exact this
  show SW Y 0 0 (h) 0 [.ref r, .int (nI i)] []
  refine sw_explode (ci := 6) (by decide) hc h1 he h9 h0 (fun cap hcap => ?_) (fun e0 => absurd hi (by omega))
  refine sw_aload_n O (xx_dt dd_Jx4a65c_elementData_915e3 0 rfl) rfl ?_
  refine sw_get2 (v := .ref e) O (xx_dt dd_Jx4a65c_elementData_915e3 1 rfl) cl_Jx4a65c ⟨fl_Jx4a65c_9.1, .inl fl_Jx4a65c_9.2⟩ (by rw [xx_up_ne hre, xx_up_eq]) (by decide) rfl ?_
  refine sw_iload_n O (xx_dt dd_Jx4a65c_elementData_915e3 2 rfl) rfl ?_
  refine sw_aaload (v := .ref x) O (xx_dt dd_Jx4a65c_elementData_915e3 3 rfl) (by omega) (by omega) (xx_up_eq _ _ _) (pk_in i cap (by omega)) (by rw [nI_clamp (by omega), if_pos hi]; exact hx) ?_
  refine sw_implode (hb := h) (r := r) (e := e) (n9 := n) (cap := cap) (ci := 6) (f := f) (g := fun j => if j < n then f j else .null) (by decide) hcl he h1 h9 hre (by rw [hc]; rfl) (fun j hj => ?_) (fun j hj => ?_) hcap (by rw [hh, he]; rfl) (List.forall_mem_cons.mpr ⟨(show (h r).isSome = true from (by rw [hc]; rfl)), (List.forall_mem_cons.mpr ⟨trivial, (fun _ h => absurd h List.not_mem_nil)⟩)⟩) (List.forall_mem_cons.mpr ⟨(show (h x).isSome = true from hxi), (fun _ h => absurd h List.not_mem_nil)⟩) ?_
  · rfl
  · exact hcl r _ j hc hj
  rw [xx_up_self hc]
  exact sw_aret O (xx_dt dd_Jx4a65c_elementData_915e3 4 rfl) rfl (.inl ⟨_, rfl⟩) (by rw [hQ]; exact ⟨rfl, rfl⟩)
theorem ct_AL_get {l : Launch} {h : XH} (hl : l.stackTraces = false) {r n : Nat} {f : Nat → Value} (hc : h r = some (206, n, f)) {e : Nat} (he : h e = none) (h9 : 1000 ≤ e) (h1 : 1000 ≤ r) {f0 : Nat → Value} (h0 : h 0 = some (104, 0, f0)) {i x : Nat} (hi : i < n) (hn : n < 2147483648) (hx : f i = .ref x) : XEx l m_Jx4a65c_get_915e3 2 0 0 [.ref r, .int (nI i)] (h) (some (.ref x)) (h) := by
  refine XMet.of hl rfl rfl (Nat.le_of_ble_eq_true rfl) (fun Y O hh hQ => ?_)
  show SW Y 0 0 (h) 0 [.ref r, .int (nI i)] []
  refine sw_iload_n O (xx_dt dd_Jx4a65c_get_915e3 0 rfl) rfl ?_
  refine sw_aload_n O (xx_dt dd_Jx4a65c_get_915e3 1 rfl) rfl ?_
  refine sw_getL (ci := 6) O (xx_dt dd_Jx4a65c_get_915e3 2 rfl) cl_Jx4a65c ⟨fl_Jx4a65c_48.1, .inl fl_Jx4a65c_48.2⟩ hc (.inr rfl) ?_
  refine sw_callSx (as := [.int (nI i), .int (nI n)]) (st := []) (st2 := [.int (nI i)]) O (ct_checkIndex2 hl hi hn) ce_J15_checkIndex_7cf53 ml_Jx4a65c_118 st_J15_checkIndex_7cf53 (xx_dt dd_Jx4a65c_get_915e3 3 rfl) (by decide) rfl rfl (Nat.le_of_ble_eq_true rfl) rfl ?_
  refine sw_pop O (xx_dt dd_Jx4a65c_get_915e3 4 rfl) rfl ?_
  refine sw_aload_n O (xx_dt dd_Jx4a65c_get_915e3 5 rfl) rfl ?_
  refine sw_iload_n O (xx_dt dd_Jx4a65c_get_915e3 6 rfl) rfl ?_
  refine sw_callVL (ci := 6) (as := [.int (nI i)]) (st := []) (st2 := [.ref x]) O (ct_AL_elementData hl hc he h9 h1 h0 hi hx) ce_Jx4a65c_elementData_915e3 ml_Jx4a65c_123 iv_Jx4a65c_elementData_915e3 cl_Jx4a65c rfl (hc) (xx_dt dd_Jx4a65c_get_915e3 7 rfl) (by decide) rfl rfl (Nat.le_of_ble_eq_true rfl) rfl ?_
  exact sw_aret O (xx_dt dd_Jx4a65c_get_915e3 8 rfl) rfl (.inl ⟨_, rfl⟩) (by rw [hQ]; exact ⟨rfl, rfl⟩)
theorem ct_AL_set {l : Launch} {h : XH} (hl : l.stackTraces = false) {r n : Nat} {f : Nat → Value} (hc : h r = some (206, n, f)) {e : Nat} (he : h e = none) (h9 : 1000 ≤ e) (h1 : 1000 ≤ r) {f0 : Nat → Value} (h0 : h 0 = some (104, 0, f0)) {i x y : Nat} (hi : i < n) (hn : n < 2147483648) (hx : f i = .ref x) (hy : xx_obO h y) : XEx l m_Jx4a65c_set_bcc79 2 0 0 [.ref r, .int (nI i), .ref y] (h) (some (.ref x)) (xx_up h r (206, n, updV f i (.ref y))) := by
  refine XMet.of hl rfl rfl (Nat.le_of_ble_eq_true rfl) (fun Y O hh hQ => ?_)
  have hre : r ≠ e := fun q => by rw [q, he] at hc; cases hc
  refine sw_cls (fun hcl => ?_)
  have hxi : (h x).isSome = true := by have := hcl r _ i hc hi; rw [show (206, n, f).2.2 i = f i from rfl, hx] at this; exact this
  show SW Y 0 0 (h) 0 [.ref r, .int (nI i), .ref y, xx_d] []
  refine sw_iload_n O (xx_dt dd_Jx4a65c_set_bcc79 0 rfl) rfl ?_
  refine sw_aload_n O (xx_dt dd_Jx4a65c_set_bcc79 1 rfl) rfl ?_
  refine sw_getL (ci := 6) O (xx_dt dd_Jx4a65c_set_bcc79 2 rfl) cl_Jx4a65c ⟨fl_Jx4a65c_48.1, .inl fl_Jx4a65c_48.2⟩ hc (.inr rfl) ?_
  refine sw_callSx (as := [.int (nI i), .int (nI n)]) (st := []) (st2 := [.int (nI i)]) O (ct_checkIndex2 hl hi hn) ce_J15_checkIndex_7cf53 ml_Jx4a65c_118 st_J15_checkIndex_7cf53 (xx_dt dd_Jx4a65c_set_bcc79 3 rfl) (by decide) rfl rfl (Nat.le_of_ble_eq_true rfl) rfl ?_
  refine sw_pop O (xx_dt dd_Jx4a65c_set_bcc79 4 rfl) rfl ?_
  refine sw_aload_n O (xx_dt dd_Jx4a65c_set_bcc79 5 rfl) rfl ?_
  refine sw_iload_n O (xx_dt dd_Jx4a65c_set_bcc79 6 rfl) rfl ?_
  refine sw_callVL (ci := 6) (as := [.int (nI i)]) (st := []) (st2 := [.ref x]) O (ct_AL_elementData hl hc he h9 h1 h0 hi hx) ce_Jx4a65c_elementData_915e3 ml_Jx4a65c_123 iv_Jx4a65c_elementData_915e3 cl_Jx4a65c rfl (hc) (xx_dt dd_Jx4a65c_set_bcc79 7 rfl) (by decide) rfl rfl (Nat.le_of_ble_eq_true rfl) rfl ?_
  refine sw_astore_n (ls2 := [.ref r, .int (nI i), .ref y, .ref x]) O (xx_dt dd_Jx4a65c_set_bcc79 8 rfl) (by decide) rfl ?_
  refine sw_explode (ci := 6) (by decide) hc h1 he h9 h0 (fun cap hcap => ?_) (fun e0 => absurd hi (by omega))
  refine sw_aload_n O (xx_dt dd_Jx4a65c_set_bcc79 9 rfl) rfl ?_
  refine sw_get2 (v := .ref e) O (xx_dt dd_Jx4a65c_set_bcc79 10 rfl) cl_Jx4a65c ⟨fl_Jx4a65c_9.1, .inl fl_Jx4a65c_9.2⟩ (by rw [xx_up_ne hre, xx_up_eq]) (by decide) rfl ?_
  refine sw_iload_n O (xx_dt dd_Jx4a65c_set_bcc79 11 rfl) rfl ?_
  refine sw_aload_n O (xx_dt dd_Jx4a65c_set_bcc79 12 rfl) rfl ?_
  refine sw_aastore O (xx_dt dd_Jx4a65c_set_bcc79 13 rfl) (xx_up_eq _ _ _) (pk_in i cap (by omega)) h9 ((hy.up (hy.nl (ci := 6) hc)).up (hy.nn he)) rfl ?_
  rw [nI_clamp (by omega), xx_up_up]
  refine sw_implode (hb := h) (r := r) (e := e) (n9 := n) (cap := cap) (ci := 6) (f := updV f i (.ref y)) (g := updV (fun j => if j < n then f j else .null) i (.ref y)) (by decide) hcl he h1 h9 hre (by rw [hc]; rfl) (fun j hj => ?_) (fun j hj => ?_) hcap (by rw [hh, he]; rfl) (List.forall_mem_cons.mpr ⟨(show (h r).isSome = true from (by rw [hc]; rfl)), (List.forall_mem_cons.mpr ⟨trivial, (List.forall_mem_cons.mpr ⟨(show (h y).isSome = true from hy.is), (List.forall_mem_cons.mpr ⟨(show (h x).isSome = true from hxi), (fun _ h => absurd h List.not_mem_nil)⟩)⟩)⟩)⟩) (fun _ h => absurd h List.not_mem_nil) ?_
  · unfold updV
    by_cases q : j = i
    · rw [if_pos q, if_pos q, if_pos (by omega)]
    · rw [if_neg q, if_neg q]
  · unfold updV
    split
    · exact hy.is
    · exact hcl r _ j hc hj
  refine sw_aload_n O (xx_dt dd_Jx4a65c_set_bcc79 14 rfl) rfl ?_
  exact sw_aret O (xx_dt dd_Jx4a65c_set_bcc79 15 rfl) rfl (.inl ⟨_, rfl⟩) (by rw [hQ]; exact ⟨rfl, rfl⟩)
end
section
/-! ===== lists that grow ===== -/
theorem xx_blk_up {h : XH} {r : Nat} {c : Nat → XC} : xx_blk h r 1 c = xx_up h r (c 0) := by
  funext q
  unfold xx_blk xx_up
  by_cases e : q = r
  · rw [if_pos (by omega), if_pos e, show q - r = 0 by omega]
  · rw [if_neg (by omega), if_neg e]
theorem xx_up_sw {h : XH} {r e : Nat} {c c2 : XC} (q : r ≠ e) : xx_up (xx_up h r c) e c2 = xx_up (xx_up h e c2) r c := by
  funext z
  unfold xx_up
  by_cases e1 : z = e
  · rw [if_pos e1, if_neg (fun e2 => q (by rw [← e2, e1])), if_pos e1]
  · rw [if_neg e1]
    split <;> rfl
theorem half_nat {n : Nat} (hn : n < 1048576) : nI n >>> ((1 : Int32) &&& 31) = nI (n / 2) := (pk_shrN (by omega) ((1 : Int32) &&& 31) 1 (by decide)).trans (by rw [Nat.pow_one])
theorem ct_newLength0 {l : Launch} {h : XH} (hl : l.stackTraces = false) {n : Nat} (hn : n < 1048576)  : XEx l m_J8_newLength_cabcc 1 0 0 [.int (nI n), .int (nI 1), .int (nI (n / 2))] (h) (some (.int (nI (n + max 1 (n / 2))))) (h) := by
  refine XMet.of hl rfl rfl (Nat.le_of_ble_eq_true rfl) (fun Y O hh hQ => ?_)
  show SW Y 0 0 (h) 0 [.int (nI n), .int (nI 1), .int (nI (n / 2)), xx_d] []
  refine sw_iload_n O (xx_dt dd_J8_newLength_cabcc 0 rfl) rfl ?_
  refine sw_iload_n O (xx_dt dd_J8_newLength_cabcc 1 rfl) rfl ?_
  refine sw_iload_n O (xx_dt dd_J8_newLength_cabcc 2 rfl) rfl ?_
  refine sw_max (x := nI 1) (y := nI (n / 2)) O mm_J8_194 (xx_dt dd_J8_newLength_cabcc 3 rfl) (by omega) (Nat.le_of_ble_eq_true rfl) ?_
  rw [max_nat (a := 1) (b := n / 2) (by omega) (by omega)]
  refine sw_iadd O (xx_dt dd_J8_newLength_cabcc 4 rfl) ?_
  rw [nI_plus]
  refine sw_istore_n (ls2 := [.int (nI n), .int (nI 1), .int (nI (n / 2)), .int (nI (n + max 1 (n / 2)))]) O (xx_dt dd_J8_newLength_cabcc 5 rfl) (by decide) rfl ?_
  refine sw_iconst (x := 0) O (xx_dt dd_J8_newLength_cabcc 6 rfl) (by decide) ?_
  refine sw_iload_n O (xx_dt dd_J8_newLength_cabcc 7 rfl) rfl ?_
  refine sw_icmp_ge (tgt := 21) O (xx_dt dd_J8_newLength_cabcc 8 rfl) (by decide) (fun q => absurd ((nI_leI (a := n + max 1 (n / 2)) (b := 0) (by omega) (by omega)).mp q) (by omega)) (fun q => ?_)
  refine sw_iload_n O (xx_dt dd_J8_newLength_cabcc 9 rfl) rfl ?_
  refine sw_ldc O ct_J8_200 (xx_dt dd_J8_newLength_cabcc 10 rfl) ?_
  refine sw_icmp_gt (tgt := 21) O (xx_dt dd_J8_newLength_cabcc 11 rfl) (by decide) (fun q => absurd ((nI_ltI (a := 2147483639) (b := n + max 1 (n / 2)) (by omega) (by omega)).mp q) (by omega)) (fun q => ?_)
  refine sw_iload_n O (xx_dt dd_J8_newLength_cabcc 12 rfl) rfl ?_
  exact sw_iret O (xx_dt dd_J8_newLength_cabcc 13 rfl) rfl rfl (by rw [hQ]; exact ⟨rfl, rfl⟩)
theorem ct_copyOf6 {l : Launch} {h : XH} (hl : l.stackTraces = false) {a e2 N m : Nat} {g : Nat → Value} {c3 : XC} (ha : h a = some (104, N, g)) (hN : N ≤ m) (hm : m < 2097152) (he2 : h e2 = none) (h92 : 1000 ≤ e2) (h3 : h 3 = some c3) (hel : ∀ j, j < N → g j = .null ∨ ∃ x, g j = .ref x ∧ xx_obO h x) (hs0 : 1000 ≤ a := by omega) : XEx l m_J7_copyOf_6403c 1 1 m [.ref a, .int (nI m), .ref 3] (h) (some (.ref e2)) (xx_up h e2 (104, m, fun j => if j < N then g j else .null)) := by
  refine XMet.of hl rfl rfl (Nat.le_of_ble_eq_true rfl) (fun Y O hh hQ => ?_)
  have hae : a ≠ e2 := fun q => by rw [q, he2] at ha; cases ha
  show SW Y 1 m (h) 0 [.ref a, .int (nI m), .ref 3, xx_d] []
  refine sw_aload_n O (xx_dt dd_J7_copyOf_6403c 0 rfl) rfl ?_
  refine sw_ldcM O (xx_dt dd_J7_copyOf_6403c 1 rfl) cw_J7_110 h3 ?_
  refine sw_acmp_neS (tgt := 13) O (xx_dt dd_J7_copyOf_6403c 2 rfl) (by decide) ?_
  refine sw_iload_n O (xx_dt dd_J7_copyOf_6403c 3 rfl) rfl ?_
  refine xx_wid (k' := 0 + 1) (n' := 0 + m) (by omega) (by omega) (sw_anew (N := m) (r := e2) O (xx_dt dd_J7_copyOf_6403c 4 rfl) cw_J7_2 (fun q => absurd q (Int32.not_lt.mpr ((nI_leI (a := 0) (b := m) (by omega) (by omega)).mpr (Nat.zero_le _)))) (nI_clamp (by omega)) (by omega) he2 h92 ?_)
  rw [xx_blk_up]
  refine sw_goto (tgt := 24) O (xx_dt dd_J7_copyOf_6403c 5 rfl) (by decide) ?_
  refine sw_astore_n (ls2 := [.ref a, .int (nI m), .ref 3, .ref e2]) O (xx_dt dd_J7_copyOf_6403c 11 rfl) (by decide) rfl ?_
  refine sw_aload_n O (xx_dt dd_J7_copyOf_6403c 12 rfl) rfl ?_
  refine sw_iconst (x := 0) O (xx_dt dd_J7_copyOf_6403c 13 rfl) (by decide) ?_
  refine sw_aload_n O (xx_dt dd_J7_copyOf_6403c 14 rfl) rfl ?_
  refine sw_iconst (x := 0) O (xx_dt dd_J7_copyOf_6403c 15 rfl) (by decide) ?_
  refine sw_aload_n O (xx_dt dd_J7_copyOf_6403c 16 rfl) rfl ?_
  refine sw_alen (t := 104) O (xx_dt dd_J7_copyOf_6403c 17 rfl) (by omega) (by omega) (by rw [xx_up_ne hae]; exact ha) ?_
  refine sw_iload_n O (xx_dt dd_J7_copyOf_6403c 18 rfl) rfl ?_
  refine sw_min (st := [.int 0, .ref e2, .int 0, .ref a]) (x := nI N) (y := nI m) O mm_J7_304 (xx_dt dd_J7_copyOf_6403c 19 rfl) (by omega) (Nat.le_of_ble_eq_true rfl) ?_
  rw [if_neg (fun e => absurd ((nI_ltI (a := m) (b := N) (by omega) (by omega)).mp e) (by omega))]
  refine sw_copyR (h2' := xx_up h e2 (104, m, fun j => if j < N then g j else .null)) O ay_J7_150 (xx_dt dd_J7_copyOf_6403c 20 rfl) (by rw [xx_up_ne hae]; exact ha) (xx_up_eq _ _ _) h92 (fun q => absurd q (Int32.not_lt.mpr ((nI_leI (a := 0) (b := N) (by omega) (by omega)).mpr (Nat.zero_le _)))) (by rw [nI_clamp (by omega)]; omega) (by rw [nI_clamp (by omega)]; omega) (fun j hj => ?_) (by omega) (by decide +kernel) ?_ ?_
  · rw [nI_clamp (by omega)] at hj
    rcases hel j hj with e | ⟨x, e, hx⟩
    · exact .inl e
    · exact .inr ⟨x, e, hx.up (hx.nn he2)⟩
  · rw [xx_up_up, nI_clamp (by omega)]
  refine sw_aload_n O (xx_dt dd_J7_copyOf_6403c 21 rfl) rfl ?_
  exact sw_aret O (xx_dt dd_J7_copyOf_6403c 22 rfl) rfl (.inr ⟨_, rfl⟩) (by rw [hQ]; exact ⟨rfl, rfl⟩)
theorem ct_copyOf2 {l : Launch} {h : XH} (hl : l.stackTraces = false) {a e2 N m : Nat} {g : Nat → Value} {c3 : XC} (ha : h a = some (104, N, g)) (hN : N ≤ m) (hm : m < 2097152) (he2 : h e2 = none) (h92 : 1000 ≤ e2) (h3 : h 3 = some c3) (hel : ∀ j, j < N → g j = .null ∨ ∃ x, g j = .ref x ∧ xx_obO h x) (hs0 : 1000 ≤ a := by omega) : XEx l m_J7_copyOf_1904c 2 1 m [.ref a, .int (nI m)] (h) (some (.ref e2)) (xx_up h e2 (104, m, fun j => if j < N then g j else .null)) := by
  refine XMet.of hl rfl rfl (Nat.le_of_ble_eq_true rfl) (fun Y O hh hQ => ?_)
  show SW Y 1 m (h) 0 [.ref a, .int (nI m)] []
  refine sw_aload_n O (xx_dt dd_J7_copyOf_1904c 0 rfl) rfl ?_
  refine sw_iload_n O (xx_dt dd_J7_copyOf_1904c 1 rfl) rfl ?_
  refine sw_aload_n O (xx_dt dd_J7_copyOf_1904c 2 rfl) rfl ?_
  refine sw_getC O (xx_dt dd_J7_copyOf_1904c 3 rfl) gc_J7_86 ⟨gcw_dec, gcw_sel, gcw_ins, gcw_nat⟩ ha h3 (by omega) (Nat.le_of_ble_eq_true rfl) ?_
  refine xx_wid (k' := 0 + 1) (n' := 0 + m) (by omega) (by omega) (sw_callSx (as := [.ref a, .int (nI m), .ref 3]) (st := []) (st2 := [.ref e2]) O (ct_copyOf6 hl ha hN hm he2 h92 h3 hel) ce_J7_copyOf_6403c ml_J7_300 st_J7_copyOf_6403c (xx_dt dd_J7_copyOf_1904c 4 rfl) (by decide) rfl rfl (Nat.le_of_ble_eq_true rfl) rfl ?_)
  exact sw_aret O (xx_dt dd_J7_copyOf_1904c 5 rfl) rfl (.inr ⟨_, rfl⟩) (by rw [hQ]; exact ⟨rfl, rfl⟩)
theorem ct_growF {l : Launch} {h : XH} (hl : l.stackTraces = false) {r e e2 n : Nat} {F g : Nat → Value} {c3 : XC} (hr : h r = some (6, 3, F)) (hF : F 1 = .ref e) (h1 : 1000 ≤ r) (he : h e = some (104, n, g)) (hn : n < 1048576) (he2 : h e2 = none) (h92 : 1000 ≤ e2) (h3 : h 3 = some c3) (hel : ∀ j, j < n → g j = .null ∨ ∃ x, g j = .ref x ∧ xx_obO h x) (h0n : 0 < n) (hs0 : 1000 ≤ e := by omega) : XEx l m_Jx4a65c_grow_92f84 3 1 (n + max 1 (n / 2)) [.ref r, .int (nI (n + 1))] (h) (some (.ref e2)) (xx_up (xx_up h e2 (104, (n + max 1 (n / 2)), fun j => if j < n then g j else .null)) r (6, 3, updV F 1 (.ref e2))) := by
  refine XMet.of hl rfl rfl (Nat.le_of_ble_eq_true rfl) (fun Y O hh hQ => ?_)
  show SW Y 1 (n + max 1 (n / 2)) (h) 0 [.ref r, .int (nI (n + 1)), xx_d, xx_d] []
  refine sw_aload_n O (xx_dt dd_Jx4a65c_grow_92f84 0 rfl) rfl ?_
  refine sw_get2 (v := .ref e) O (xx_dt dd_Jx4a65c_grow_92f84 1 rfl) cl_Jx4a65c ⟨fl_Jx4a65c_9.1, .inl fl_Jx4a65c_9.2⟩ hr (by decide) hF ?_
  refine sw_alen (t := 104) O (xx_dt dd_Jx4a65c_grow_92f84 2 rfl) (by omega) (by omega) he ?_
  refine sw_istore_n (ls2 := [.ref r, .int (nI (n + 1)), .int (nI n), xx_d]) O (xx_dt dd_Jx4a65c_grow_92f84 3 rfl) (by decide) rfl ?_
  refine sw_iload_n O (xx_dt dd_Jx4a65c_grow_92f84 4 rfl) rfl ?_
  refine sw_if_gt (tgt := 20) O (xx_dt dd_Jx4a65c_grow_92f84 5 rfl) (by decide) (fun q => ?_) (fun q => absurd ((nI_ltI (a := 0) (b := n) (by omega) (by omega)).mpr h0n) q)
  refine sw_iload_n O (xx_dt dd_Jx4a65c_grow_92f84 10 rfl) rfl ?_
  refine sw_iload_n O (xx_dt dd_Jx4a65c_grow_92f84 11 rfl) rfl ?_
  refine sw_iload_n O (xx_dt dd_Jx4a65c_grow_92f84 12 rfl) rfl ?_
  refine sw_isub O (xx_dt dd_Jx4a65c_grow_92f84 13 rfl) ?_
  refine sw_iload_n O (xx_dt dd_Jx4a65c_grow_92f84 14 rfl) rfl ?_
  refine sw_iconst (x := 1) O (xx_dt dd_Jx4a65c_grow_92f84 15 rfl) (by decide) ?_
  refine sw_ishr O (xx_dt dd_Jx4a65c_grow_92f84 16 rfl) ?_
  rw [show nI (n + 1) - nI n = nI 1 from (nI_minus (by omega)).trans (by congr 1; omega), half_nat hn]
  refine sw_callSx (as := [.int (nI n), .int (nI 1), .int (nI (n / 2))]) (st := []) (st2 := [.int (nI (n + max 1 (n / 2)))]) O (ct_newLength0 hl hn) ce_J8_newLength_cabcc ml_Jx4a65c_73 st_J8_newLength_cabcc (xx_dt dd_Jx4a65c_grow_92f84 17 rfl) (by decide) rfl rfl (Nat.le_of_ble_eq_true rfl) rfl ?_
  refine sw_istore_n (ls2 := [.ref r, .int (nI (n + 1)), .int (nI n), .int (nI (n + max 1 (n / 2)))]) O (xx_dt dd_Jx4a65c_grow_92f84 18 rfl) (by decide) rfl ?_
  refine sw_aload_n O (xx_dt dd_Jx4a65c_grow_92f84 19 rfl) rfl ?_
  refine sw_aload_n O (xx_dt dd_Jx4a65c_grow_92f84 20 rfl) rfl ?_
  refine sw_get2 (v := .ref e) O (xx_dt dd_Jx4a65c_grow_92f84 21 rfl) cl_Jx4a65c ⟨fl_Jx4a65c_9.1, .inl fl_Jx4a65c_9.2⟩ hr (by decide) hF ?_
  refine sw_iload_n O (xx_dt dd_Jx4a65c_grow_92f84 22 rfl) rfl ?_
  refine xx_wid (k' := 0 + 1) (n' := 0 + (n + max 1 (n / 2))) (Nat.le_of_eq (Nat.zero_add _)) (Nat.le_of_eq (Nat.zero_add _)) (sw_callSx (k := 0) (n := 0) (k' := 1) (n' := (n + max 1 (n / 2))) (as := [.ref e, .int (nI (n + max 1 (n / 2)))]) (st := [.ref r]) (st2 := [.ref e2, .ref r]) O (ct_copyOf2 hl he (m := (n + max 1 (n / 2))) (Nat.le_add_right _ _) (show (n + max 1 (n / 2)) < 2097152 by omega) he2 h92 h3 hel) ce_J7_copyOf_1904c ml_Jx4a65c_66 st_J7_copyOf_1904c (xx_dt dd_Jx4a65c_grow_92f84 23 rfl) (by decide) rfl rfl (Nat.le_of_ble_eq_true rfl) rfl ?_)
  refine sw_dup_x1 O (xx_dt dd_Jx4a65c_grow_92f84 24 rfl) rfl rfl ?_
  refine sw_put (h2 := xx_up (xx_up h e2 (104, (n + max 1 (n / 2)), fun j => if j < n then g j else .null)) r (6, 3, updV F 1 (.ref e2))) O (xx_dt dd_Jx4a65c_grow_92f84 25 rfl) cl_Jx4a65c fl_Jx4a65c_9 (by rw [xx_up_ne (fun q => by rw [q, he2] at hr; cases hr)]; exact hr) (by decide) h1 rfl (fun _ => ⟨rfl, rfl⟩) rfl ?_
  exact sw_aret O (xx_dt dd_Jx4a65c_grow_92f84 26 rfl) rfl (.inr ⟨_, rfl⟩) (by rw [hQ]; exact ⟨rfl, rfl⟩)
theorem ct_grow0 {l : Launch} {h : XH} (hl : l.stackTraces = false) {r e2 : Nat} {F f0 : Nat → Value} (hr : h r = some (6, 3, F)) (hF : F 1 = .ref 0) (h1 : 1000 ≤ r) (he : h 0 = some (104, 0, f0)) (he2 : h e2 = none) (h92 : 1000 ≤ e2)  : XEx l m_Jx4a65c_grow_92f84 1 1 10 [.ref r, .int (nI 1)] (h) (some (.ref e2)) (xx_up (xx_up h e2 (104, 10, fun _ => .null)) r (6, 3, updV F 1 (.ref e2))) := by
  refine XMet.of hl rfl rfl (Nat.le_of_ble_eq_true rfl) (fun Y O hh hQ => ?_)
  show SW Y 1 10 (h) 0 [.ref r, .int (nI 1), xx_d, xx_d] []
  refine sw_aload_n O (xx_dt dd_Jx4a65c_grow_92f84 0 rfl) rfl ?_
  refine sw_get2 (v := .ref 0) O (xx_dt dd_Jx4a65c_grow_92f84 1 rfl) cl_Jx4a65c ⟨fl_Jx4a65c_9.1, .inl fl_Jx4a65c_9.2⟩ hr (by decide) hF ?_
  refine sw_alen (t := 104) O (xx_dt dd_Jx4a65c_grow_92f84 2 rfl) (by omega) (by omega) he ?_
  refine sw_istore_n (ls2 := [.ref r, .int (nI 1), .int (nI 0), xx_d]) O (xx_dt dd_Jx4a65c_grow_92f84 3 rfl) (by decide) rfl ?_
  refine sw_iload_n O (xx_dt dd_Jx4a65c_grow_92f84 4 rfl) rfl ?_
  refine sw_if_gt (tgt := 20) O (xx_dt dd_Jx4a65c_grow_92f84 5 rfl) (by decide) (fun q => absurd q (by decide)) (fun q => ?_)
  refine sw_aload_n O (xx_dt dd_Jx4a65c_grow_92f84 6 rfl) rfl ?_
  refine sw_get2 (v := .ref 0) O (xx_dt dd_Jx4a65c_grow_92f84 7 rfl) cl_Jx4a65c ⟨fl_Jx4a65c_9.1, .inl fl_Jx4a65c_9.2⟩ hr (by decide) hF ?_
  refine sw_getsR (i := 3) (r := 0) O (xx_dt dd_Jx4a65c_grow_92f84 8 rfl) rfl gs_Jx4a65c_39 he (by omega) ?_
  refine sw_acmp_eqS (tgt := 45) O (xx_dt dd_Jx4a65c_grow_92f84 9 rfl) (by decide) ?_
  refine sw_aload_n O (xx_dt dd_Jx4a65c_grow_92f84 27 rfl) rfl ?_
  refine sw_bipush (x := 10) O (xx_dt dd_Jx4a65c_grow_92f84 28 rfl) (by decide) ?_
  refine sw_iload_n O (xx_dt dd_Jx4a65c_grow_92f84 29 rfl) rfl ?_
  refine sw_max (st := [.ref r]) (x := nI 10) (y := nI 1) O mm_Jx4a65c_79 (xx_dt dd_Jx4a65c_grow_92f84 30 rfl) (by omega) (Nat.le_of_ble_eq_true rfl) ?_
  refine sw_anew (i := nI 10) (k := 0) (n := 0) (N := 10) (r := e2) O (xx_dt dd_Jx4a65c_grow_92f84 31 rfl) cw_Jx4a65c_7 (by decide) (by decide) (by decide) he2 h92 ?_
  rw [xx_blk_up]
  refine sw_dup_x1 O (xx_dt dd_Jx4a65c_grow_92f84 32 rfl) rfl rfl ?_
  refine sw_put (h2 := xx_up (xx_up h e2 (104, 10, fun _ => .null)) r (6, 3, updV F 1 (.ref e2))) O (xx_dt dd_Jx4a65c_grow_92f84 33 rfl) cl_Jx4a65c fl_Jx4a65c_9 (by rw [xx_up_ne (fun q => by rw [q, he2] at hr; cases hr)]; exact hr) (by decide) h1 rfl (fun _ => ⟨rfl, rfl⟩) rfl ?_
  exact sw_aret O (xx_dt dd_Jx4a65c_grow_92f84 34 rfl) rfl (.inr ⟨_, rfl⟩) (by rw [hQ]; exact ⟨rfl, rfl⟩)
theorem ct_growSF {l : Launch} {h : XH} (hl : l.stackTraces = false) {r e e2 n : Nat} {F g : Nat → Value} {c3 : XC} (hr : h r = some (6, 3, F)) (hF : F 1 = .ref e) (h1 : 1000 ≤ r) (he : h e = some (104, n, g)) (hn : n < 1048576) (he2 : h e2 = none) (h92 : 1000 ≤ e2) (h3 : h 3 = some c3) (hel : ∀ j, j < n → g j = .null ∨ ∃ x, g j = .ref x ∧ xx_obO h x) (h0n : 0 < n) (hS : F 2 = .int (nI n)) (hs0 : 1000 ≤ e := by omega) : XEx l m_Jx4a65c_grow_d5877 4 1 (n + max 1 (n / 2)) [.ref r] (h) (some (.ref e2)) (xx_up (xx_up h e2 (104, (n + max 1 (n / 2)), fun j => if j < n then g j else .null)) r (6, 3, updV F 1 (.ref e2))) := by
  refine XMet.of hl rfl rfl (Nat.le_of_ble_eq_true rfl) (fun Y O hh hQ => ?_)
  show SW Y 1 (n + max 1 (n / 2)) (h) 0 [.ref r] []
  refine sw_aload_n O (xx_dt dd_Jx4a65c_grow_d5877 0 rfl) rfl ?_
  refine sw_aload_n O (xx_dt dd_Jx4a65c_grow_d5877 1 rfl) rfl ?_
  refine sw_get2 (v := .int (nI n)) O (xx_dt dd_Jx4a65c_grow_d5877 2 rfl) cl_Jx4a65c ⟨fl_Jx4a65c_48.1, .inl fl_Jx4a65c_48.2⟩ hr (by decide) hS ?_
  refine sw_iconst (x := 1) O (xx_dt dd_Jx4a65c_grow_d5877 3 rfl) (by decide) ?_
  refine sw_iadd O (xx_dt dd_Jx4a65c_grow_d5877 4 rfl) ?_
  rw [nI_a1 n]
  refine xx_wid (k' := 0 + 1) (n' := 0 + (n + max 1 (n / 2))) (Nat.le_of_eq (Nat.zero_add _)) (Nat.le_of_eq (Nat.zero_add _)) (sw_callVx (k := 0) (n := 0) (k' := 1) (n' := (n + max 1 (n / 2))) (as := [.int (nI (n + 1))]) (st := []) (st2 := [.ref e2]) O (ct_growF hl hr hF h1 he hn he2 h92 h3 hel h0n) ce_Jx4a65c_grow_92f84 ml_Jx4a65c_69 iv_Jx4a65c_grow_92f84 cl_Jx4a65c rfl (hr) (xx_dt dd_Jx4a65c_grow_d5877 5 rfl) (by decide) rfl rfl (Nat.le_of_ble_eq_true rfl) rfl ?_)
  exact sw_aret O (xx_dt dd_Jx4a65c_grow_d5877 6 rfl) rfl (.inr ⟨_, rfl⟩) (by rw [hQ]; exact ⟨rfl, rfl⟩)
theorem ct_growS0 {l : Launch} {h : XH} (hl : l.stackTraces = false) {r e2 : Nat} {F f0 : Nat → Value} (hr : h r = some (6, 3, F)) (hF : F 1 = .ref 0) (h1 : 1000 ≤ r) (he : h 0 = some (104, 0, f0)) (he2 : h e2 = none) (h92 : 1000 ≤ e2) (hS : F 2 = .int (nI 0))  : XEx l m_Jx4a65c_grow_d5877 2 1 10 [.ref r] (h) (some (.ref e2)) (xx_up (xx_up h e2 (104, 10, fun _ => .null)) r (6, 3, updV F 1 (.ref e2))) := by
  refine XMet.of hl rfl rfl (Nat.le_of_ble_eq_true rfl) (fun Y O hh hQ => ?_)
  show SW Y 1 10 (h) 0 [.ref r] []
  refine sw_aload_n O (xx_dt dd_Jx4a65c_grow_d5877 0 rfl) rfl ?_
  refine sw_aload_n O (xx_dt dd_Jx4a65c_grow_d5877 1 rfl) rfl ?_
  refine sw_get2 (v := .int (nI 0)) O (xx_dt dd_Jx4a65c_grow_d5877 2 rfl) cl_Jx4a65c ⟨fl_Jx4a65c_48.1, .inl fl_Jx4a65c_48.2⟩ hr (by decide) hS ?_
  refine sw_iconst (x := 1) O (xx_dt dd_Jx4a65c_grow_d5877 3 rfl) (by decide) ?_
  refine sw_iadd O (xx_dt dd_Jx4a65c_grow_d5877 4 rfl) ?_
  refine xx_wid (k' := 0 + 1) (n' := 0 + 10) (Nat.le_of_eq (Nat.zero_add _)) (Nat.le_of_eq (Nat.zero_add _)) (sw_callVx (k := 0) (n := 0) (k' := 1) (n' := 10) (as := [.int (nI 1)]) (st := []) (st2 := [.ref e2]) O (ct_grow0 hl hr hF h1 he he2 h92) ce_Jx4a65c_grow_92f84 ml_Jx4a65c_69 iv_Jx4a65c_grow_92f84 cl_Jx4a65c rfl (hr) (xx_dt dd_Jx4a65c_grow_d5877 5 rfl) (by decide) rfl rfl (Nat.le_of_ble_eq_true rfl) rfl ?_)
  exact sw_aret O (xx_dt dd_Jx4a65c_grow_d5877 6 rfl) rfl (.inr ⟨_, rfl⟩) (by rw [hQ]; exact ⟨rfl, rfl⟩)
theorem ct_addA {l : Launch} {h : XH} (hl : l.stackTraces = false) {r e n cap x : Nat} {F g : Nat → Value} (hr : h r = some (6, 3, F)) (h1 : 1000 ≤ r) (he : h e = some (104, cap, g)) (h9 : 1000 ≤ e) (hre : r ≠ e) (hx : xx_obO h x) (hn : n < 1048576) (hc : n < cap) (hcap : cap < 2147483648)  : XEx l m_Jx4a65c_add_72be8 0 0 0 [.ref r, .ref x, .ref e, .int (nI n)] (h) (none) (xx_up (xx_up h e (104, cap, updV g n (.ref x))) r (6, 3, updV F 2 (.int (nI (n + 1))))) := by
  refine XMet.of hl rfl rfl (Nat.le_of_ble_eq_true rfl) (fun Y O hh hQ => ?_)
  show SW Y 0 0 (h) 0 [.ref r, .ref x, .ref e, .int (nI n)] []
  refine sw_iload_n O (xx_dt dd_Jx4a65c_add_72be8 0 rfl) rfl ?_
  refine sw_aload_n O (xx_dt dd_Jx4a65c_add_72be8 1 rfl) rfl ?_
  refine sw_alen (t := 104) O (xx_dt dd_Jx4a65c_add_72be8 2 rfl) (by omega) (by omega) he ?_
  refine sw_icmp_ne (tgt := 11) O (xx_dt dd_Jx4a65c_add_72be8 3 rfl) (by decide) (fun q => ?_) (fun q => absurd ((cn_nI (k := n) (by omega)).symm.trans ((congrArg cn q).trans (cn_nI (k := cap) (by omega)))) (by omega))
  refine sw_aload_n O (xx_dt dd_Jx4a65c_add_72be8 7 rfl) rfl ?_
  refine sw_iload_n O (xx_dt dd_Jx4a65c_add_72be8 8 rfl) rfl ?_
  refine sw_aload_n O (xx_dt dd_Jx4a65c_add_72be8 9 rfl) rfl ?_
  refine sw_aastore (h2 := xx_up h e (104, cap, updV g n (.ref x))) O (xx_dt dd_Jx4a65c_add_72be8 10 rfl) he (pk_in n cap (by omega)) h9 hx (by rw [nI_clamp (by omega)]) ?_
  refine sw_aload_n O (xx_dt dd_Jx4a65c_add_72be8 11 rfl) rfl ?_
  refine sw_iload_n O (xx_dt dd_Jx4a65c_add_72be8 12 rfl) rfl ?_
  refine sw_iconst (x := 1) O (xx_dt dd_Jx4a65c_add_72be8 13 rfl) (by decide) ?_
  refine sw_iadd O (xx_dt dd_Jx4a65c_add_72be8 14 rfl) ?_
  rw [nI_a1 n]
  refine sw_put (h2 := xx_up (xx_up h e (104, cap, updV g n (.ref x))) r (6, 3, updV F 2 (.int (nI (n + 1))))) O (xx_dt dd_Jx4a65c_add_72be8 15 rfl) cl_Jx4a65c fl_Jx4a65c_48 (by rw [xx_up_ne hre]; exact hr) (by decide) h1 rfl (fun _ => ⟨rfl, rfl⟩) rfl ?_
  exact sw_ret O (xx_dt dd_Jx4a65c_add_72be8 16 rfl) rfl (by rw [hQ]; exact ⟨rfl, rfl⟩)
theorem ct_addB {l : Launch} {h : XH} (hl : l.stackTraces = false) {r e e2 n : Nat} {F g : Nat → Value} {c3 : XC} (hr : h r = some (6, 3, F)) (hF : F 1 = .ref e) (h1 : 1000 ≤ r) (he : h e = some (104, n, g)) (hn : n < 1048576) (he2 : h e2 = none) (h92 : 1000 ≤ e2) (h3 : h 3 = some c3) (hel : ∀ j, j < n → g j = .null ∨ ∃ x, g j = .ref x ∧ xx_obO h x) (h0n : 0 < n) (hS : F 2 = .int (nI n)) {x : Nat} (hx : xx_obO h x)  (hxr : x ≠ r) (hs0 : 1000 ≤ e := by omega) : XEx l m_Jx4a65c_add_72be8 5 1 (n + max 1 (n / 2)) [.ref r, .ref x, .ref e, .int (nI n)] (h) (none) (xx_up (xx_up (xx_up (xx_up h e2 (104, (n + max 1 (n / 2)), fun j => if j < n then g j else .null)) r (6, 3, updV F 1 (.ref e2))) e2 (104, (n + max 1 (n / 2)), updV (fun j => if j < n then g j else .null) n (.ref x))) r (6, 3, updV (updV F 1 (.ref e2)) 2 (.int (nI (n + 1))))) := by
  refine XMet.of hl rfl rfl (Nat.le_of_ble_eq_true rfl) (fun Y O hh hQ => ?_)
  have hre2 : r ≠ e2 := fun q => by rw [q, he2] at hr; cases hr
  show SW Y 1 (n + max 1 (n / 2)) (h) 0 [.ref r, .ref x, .ref e, .int (nI n)] []
  refine sw_iload_n O (xx_dt dd_Jx4a65c_add_72be8 0 rfl) rfl ?_
  refine sw_aload_n O (xx_dt dd_Jx4a65c_add_72be8 1 rfl) rfl ?_
  refine sw_alen (t := 104) O (xx_dt dd_Jx4a65c_add_72be8 2 rfl) (by omega) (by omega) he ?_
  refine sw_icmp_ne (tgt := 11) O (xx_dt dd_Jx4a65c_add_72be8 3 rfl) (by decide) (fun q => absurd rfl q) (fun q => ?_)
  refine sw_aload_n O (xx_dt dd_Jx4a65c_add_72be8 4 rfl) rfl ?_
  refine xx_wid (k' := 0 + 1) (n' := 0 + (n + max 1 (n / 2))) (Nat.le_of_eq (Nat.zero_add _)) (Nat.le_of_eq (Nat.zero_add _)) (sw_callVx (k := 0) (n := 0) (k' := 1) (n' := (n + max 1 (n / 2))) (as := []) (st := []) (st2 := [.ref e2]) O (ct_growSF hl hr hF h1 he hn he2 h92 h3 hel h0n hS) ce_Jx4a65c_grow_d5877 ml_Jx4a65c_129 iv_Jx4a65c_grow_d5877 cl_Jx4a65c rfl (hr) (xx_dt dd_Jx4a65c_add_72be8 5 rfl) (by decide) rfl rfl (Nat.le_of_ble_eq_true rfl) rfl ?_)
  refine sw_astore_n (ls2 := [.ref r, .ref x, .ref e2, .int (nI n)]) O (xx_dt dd_Jx4a65c_add_72be8 6 rfl) (by decide) rfl ?_
  refine sw_aload_n O (xx_dt dd_Jx4a65c_add_72be8 7 rfl) rfl ?_
  refine sw_iload_n O (xx_dt dd_Jx4a65c_add_72be8 8 rfl) rfl ?_
  refine sw_aload_n O (xx_dt dd_Jx4a65c_add_72be8 9 rfl) rfl ?_
  refine sw_aastore (h2 := xx_up (xx_up (xx_up h e2 (104, (n + max 1 (n / 2)), fun j => if j < n then g j else .null)) r (6, 3, updV F 1 (.ref e2))) e2 (104, (n + max 1 (n / 2)), updV (fun j => if j < n then g j else .null) n (.ref x))) O (xx_dt dd_Jx4a65c_add_72be8 10 rfl) (by rw [xx_up_ne (Ne.symm hre2), xx_up_eq]) (pk_in n _ (by omega)) h92 ((hx.up (hx.nn he2)).up hxr) (by rw [nI_clamp (by omega)]) ?_
  refine sw_aload_n O (xx_dt dd_Jx4a65c_add_72be8 11 rfl) rfl ?_
  refine sw_iload_n O (xx_dt dd_Jx4a65c_add_72be8 12 rfl) rfl ?_
  refine sw_iconst (x := 1) O (xx_dt dd_Jx4a65c_add_72be8 13 rfl) (by decide) ?_
  refine sw_iadd O (xx_dt dd_Jx4a65c_add_72be8 14 rfl) ?_
  rw [nI_a1 n]
  refine sw_put (h2 := xx_up (xx_up (xx_up (xx_up h e2 (104, (n + max 1 (n / 2)), fun j => if j < n then g j else .null)) r (6, 3, updV F 1 (.ref e2))) e2 (104, (n + max 1 (n / 2)), updV (fun j => if j < n then g j else .null) n (.ref x))) r (6, 3, updV (updV F 1 (.ref e2)) 2 (.int (nI (n + 1))))) O (xx_dt dd_Jx4a65c_add_72be8 15 rfl) cl_Jx4a65c fl_Jx4a65c_48 (by rw [xx_up_ne hre2, xx_up_eq]) (by decide) h1 rfl (fun _ => ⟨rfl, rfl⟩) rfl ?_
  exact sw_ret O (xx_dt dd_Jx4a65c_add_72be8 16 rfl) rfl (by rw [hQ]; exact ⟨rfl, rfl⟩)
theorem ct_addC {l : Launch} {h : XH} (hl : l.stackTraces = false) {r e2 : Nat} {F f0 : Nat → Value} (hr : h r = some (6, 3, F)) (hF : F 1 = .ref 0) (h1 : 1000 ≤ r) (he : h 0 = some (104, 0, f0)) (he2 : h e2 = none) (h92 : 1000 ≤ e2) (hS : F 2 = .int (nI 0)) {x : Nat} (hx : xx_obO h x)  (hxr : x ≠ r) : XEx l m_Jx4a65c_add_72be8 3 1 10 [.ref r, .ref x, .ref 0, .int (nI 0)] (h) (none) (xx_up (xx_up (xx_up (xx_up h e2 (104, 10, fun _ => .null)) r (6, 3, updV F 1 (.ref e2))) e2 (104, 10, updV (fun _ => .null) 0 (.ref x))) r (6, 3, updV (updV F 1 (.ref e2)) 2 (.int (nI (0 + 1))))) := by
  refine XMet.of hl rfl rfl (Nat.le_of_ble_eq_true rfl) (fun Y O hh hQ => ?_)
  have hre2 : r ≠ e2 := fun q => by rw [q, he2] at hr; cases hr
  show SW Y 1 10 (h) 0 [.ref r, .ref x, .ref 0, .int (nI 0)] []
  refine sw_iload_n O (xx_dt dd_Jx4a65c_add_72be8 0 rfl) rfl ?_
  refine sw_aload_n O (xx_dt dd_Jx4a65c_add_72be8 1 rfl) rfl ?_
  refine sw_alen (t := 104) O (xx_dt dd_Jx4a65c_add_72be8 2 rfl) (by omega) (by omega) he ?_
  refine sw_icmp_ne (tgt := 11) O (xx_dt dd_Jx4a65c_add_72be8 3 rfl) (by decide) (fun q => absurd rfl q) (fun q => ?_)
  refine sw_aload_n O (xx_dt dd_Jx4a65c_add_72be8 4 rfl) rfl ?_
  refine xx_wid (k' := 0 + 1) (n' := 0 + 10) (Nat.le_of_eq (Nat.zero_add _)) (Nat.le_of_eq (Nat.zero_add _)) (sw_callVx (k := 0) (n := 0) (k' := 1) (n' := 10) (as := []) (st := []) (st2 := [.ref e2]) O (ct_growS0 hl hr hF h1 he he2 h92 hS) ce_Jx4a65c_grow_d5877 ml_Jx4a65c_129 iv_Jx4a65c_grow_d5877 cl_Jx4a65c rfl (hr) (xx_dt dd_Jx4a65c_add_72be8 5 rfl) (by decide) rfl rfl (Nat.le_of_ble_eq_true rfl) rfl ?_)
  refine sw_astore_n (ls2 := [.ref r, .ref x, .ref e2, .int (nI 0)]) O (xx_dt dd_Jx4a65c_add_72be8 6 rfl) (by decide) rfl ?_
  refine sw_aload_n O (xx_dt dd_Jx4a65c_add_72be8 7 rfl) rfl ?_
  refine sw_iload_n O (xx_dt dd_Jx4a65c_add_72be8 8 rfl) rfl ?_
  refine sw_aload_n O (xx_dt dd_Jx4a65c_add_72be8 9 rfl) rfl ?_
  refine sw_aastore (h2 := xx_up (xx_up (xx_up h e2 (104, 10, fun _ => .null)) r (6, 3, updV F 1 (.ref e2))) e2 (104, 10, updV (fun _ => .null) 0 (.ref x))) O (xx_dt dd_Jx4a65c_add_72be8 10 rfl) (by rw [xx_up_ne (Ne.symm hre2), xx_up_eq]) (pk_in 0 _ (by omega)) h92 ((hx.up (hx.nn he2)).up hxr) (by rw [nI_clamp (by omega)]) ?_
  refine sw_aload_n O (xx_dt dd_Jx4a65c_add_72be8 11 rfl) rfl ?_
  refine sw_iload_n O (xx_dt dd_Jx4a65c_add_72be8 12 rfl) rfl ?_
  refine sw_iconst (x := 1) O (xx_dt dd_Jx4a65c_add_72be8 13 rfl) (by decide) ?_
  refine sw_iadd O (xx_dt dd_Jx4a65c_add_72be8 14 rfl) ?_
  refine sw_put (h2 := xx_up (xx_up (xx_up (xx_up h e2 (104, 10, fun _ => .null)) r (6, 3, updV F 1 (.ref e2))) e2 (104, 10, updV (fun _ => .null) 0 (.ref x))) r (6, 3, updV (updV F 1 (.ref e2)) 2 (.int (nI (0 + 1))))) O (xx_dt dd_Jx4a65c_add_72be8 15 rfl) cl_Jx4a65c fl_Jx4a65c_48 (by rw [xx_up_ne hre2, xx_up_eq]) (by decide) h1 rfl (fun _ => ⟨rfl, rfl⟩) rfl ?_
  exact sw_ret O (xx_dt dd_Jx4a65c_add_72be8 16 rfl) rfl (by rw [hQ]; exact ⟨rfl, rfl⟩)
end
section
/-! ===== add ===== -/
theorem xx_up_in {h : XH} {r : Nat} {c : XC} {a : Nat} (ha : (h a).isSome = true) : (xx_up h r c a).isSome = true := by
  unfold xx_up
  split
  · rfl
  · exact ha
theorem xx_cls.up {h : XH} {r : Nat} {c : XC} (hcl : xx_cls h) (hc : ∀ j, j < c.2.1 → xx_in (xx_up h r c) (c.2.2 j)) : xx_cls (xx_up h r c) := by
  intro q d j hd hj
  by_cases e : q = r
  · subst e
    rw [xx_up_eq] at hd
    cases hd
    exact hc j hj
  · rw [xx_up_ne e] at hd
    exact xx_in_up (hcl q d j hd hj)
theorem xx_lo_add {n e : Nat} : updV (updV (xx_lo n e) 0 (.int (nI n + 1))) 2 (.int (nI (n + 1))) = xx_lo (n + 1) e := by
  funext k
  unfold updV
  match k with
  | 0 => show Value.int (nI n + 1) = .int (nI (n + 1)); rw [nI_a1]
  | 1 => rfl
  | 2 => rfl
  | k + 3 => rfl
theorem xx_lo_add2 {n e e2 : Nat} : updV (updV (updV (xx_lo n e) 0 (.int (nI n + 1))) 1 (.ref e2)) 2 (.int (nI (n + 1))) = xx_lo (n + 1) e2 := by
  funext k
  unfold updV
  match k with
  | 0 => show Value.int (nI n + 1) = .int (nI (n + 1)); rw [nI_a1]
  | 1 => rfl
  | 2 => rfl
  | k + 3 => rfl
theorem ct_AL_add {l : Launch} {h : XH} (hl : l.stackTraces = false) {r n : Nat} {f : Nat → Value} (hc : h r = some (206, n, f)) {e : Nat} (he : h e = none) (h9 : 1000 ≤ e) (h1 : 1000 ≤ r) {f0 : Nat → Value} (h0 : h 0 = some (104, 0, f0)) {e2 x : Nat} {c3 : XC} (he2 : h e2 = none) (h92 : 1000 ≤ e2) (hee : e ≠ e2) (h3 : h 3 = some c3) (hx : xx_obO h x) (hn : n < 1048575) (hel : ∀ j, j < n → f j = .null ∨ ∃ x, f j = .ref x ∧ xx_obO h x)  : XEx l m_Jx4a65c_add_9ea2d 6 1 (n + n / 2 + 10) [.ref r, .ref x] (h) (some (.int 1)) (xx_up h r (206, n + 1, (fun j => if j = n then .ref x else f j))) := by
  refine XMet.of hl rfl rfl (Nat.le_of_ble_eq_true rfl) (fun Y O hh hQ => ?_)
  have hre : r ≠ e := fun q => by rw [q, he] at hc; cases hc
  have hre2 : r ≠ e2 := fun q => by rw [q, he2] at hc; cases hc
  have hxr : x ≠ r := hx.nl (ci := 6) hc
  have hxe : x ≠ e := hx.nn he
  have hxe2 : x ≠ e2 := hx.nn he2
  have r3 : (3 : Nat) ≠ r := by omega
  refine sw_cls (fun hcl => ?_)
  show SW Y 1 (n + n / 2 + 10) (h) 0 [.ref r, .ref x] []
  refine sw_explode (ci := 6) (by decide) hc h1 he h9 h0 (fun cap hcap => ?_) (fun e0 => ?_)
  · refine sw_aload_n O (xx_dt dd_Jx4a65c_add_9ea2d 0 rfl) rfl ?_
    refine sw_dup O (xx_dt dd_Jx4a65c_add_9ea2d 1 rfl) rfl ?_
    refine sw_get2 (v := .int (nI n)) O (xx_dt dd_Jx4a65c_add_9ea2d 2 rfl) cl_Jx4a65c f2_Jx4a65c_63 (by rw [xx_up_ne hre, xx_up_eq]) (by decide) rfl ?_
    refine sw_iconst (x := 1) O (xx_dt dd_Jx4a65c_add_9ea2d 3 rfl) (by decide) ?_
    refine sw_iadd O (xx_dt dd_Jx4a65c_add_9ea2d 4 rfl) ?_
    refine sw_put2 (h2 := xx_up (xx_up h r (6, 3, updV (xx_lo n e) 0 (.int (nI n + 1)))) e (104, cap, fun j => if j < n then f j else .null)) O (xx_dt dd_Jx4a65c_add_9ea2d 5 rfl) cl_Jx4a65c f2_Jx4a65c_63 (by rw [xx_up_ne hre, xx_up_eq]) (by decide) h1 rfl (fun _ => ⟨rfl, rfl⟩) (by rw [← xx_up_sw hre, xx_up_up]) ?_
    refine sw_aload_n O (xx_dt dd_Jx4a65c_add_9ea2d 6 rfl) rfl ?_
    refine sw_aload_n O (xx_dt dd_Jx4a65c_add_9ea2d 7 rfl) rfl ?_
    refine sw_aload_n O (xx_dt dd_Jx4a65c_add_9ea2d 8 rfl) rfl ?_
    refine sw_get2 (v := .ref e) O (xx_dt dd_Jx4a65c_add_9ea2d 9 rfl) cl_Jx4a65c ⟨fl_Jx4a65c_9.1, .inl fl_Jx4a65c_9.2⟩ (by rw [xx_up_ne hre, xx_up_eq]) (by decide) rfl ?_
    refine sw_aload_n O (xx_dt dd_Jx4a65c_add_9ea2d 10 rfl) rfl ?_
    refine sw_get2 (v := .int (nI n)) O (xx_dt dd_Jx4a65c_add_9ea2d 11 rfl) cl_Jx4a65c ⟨fl_Jx4a65c_48.1, .inl fl_Jx4a65c_48.2⟩ (by rw [xx_up_ne hre, xx_up_eq]) (by decide) rfl ?_
    by_cases hfull : n < cap
    · refine xx_wid (k' := 0 + 0) (n' := 0 + 0) (by omega) (by omega) (sw_callVx (k := 0) (n := 0) (k' := 0) (n' := 0) (as := [.ref x, .ref e, .int (nI n)]) (st := []) (st2 := []) O (ct_addA hl (r := r) (e := e) (n := n) (cap := cap) (x := x) (by rw [xx_up_ne hre, xx_up_eq]) h1 (xx_up_eq _ _ _) h9 hre ((hx.up hxr).up hxe) (by omega) hfull (by omega)) ce_Jx4a65c_add_72be8 ml_Jx4a65c_131 iv_Jx4a65c_add_72be8 cl_Jx4a65c rfl ((by rw [xx_up_ne hre, xx_up_eq])) (xx_dt dd_Jx4a65c_add_9ea2d 12 rfl) (by decide) rfl rfl (Nat.le_of_ble_eq_true rfl) rfl ?_)
      rw [show xx_up (xx_up (xx_up (xx_up h r (6, 3, updV (xx_lo n e) 0 (.int (nI n + 1)))) e (104, cap, fun j => if j < n then f j else .null)) e (104, cap, updV (fun j => if j < n then f j else .null) n (.ref x))) r (6, 3, updV (updV (xx_lo n e) 0 (.int (nI n + 1))) 2 (.int (nI (n + 1)))) = xx_up (xx_up h r (6, 3, xx_lo (n + 1) e)) e (104, cap, updV (fun j => if j < n then f j else .null) n (.ref x)) by rw [xx_up_up, ← xx_up_sw hre, xx_up_up, xx_lo_add]]
      refine sw_implode (hb := h) (r := r) (e := e) (n9 := n + 1) (cap := cap) (ci := 6) (f := (fun j => if j = n then .ref x else f j)) (g := updV (fun j => if j < n then f j else .null) n (.ref x)) (by decide) hcl he h1 h9 hre (by rw [hc]; rfl) (fun j hj => ?_) (fun j hj => ?_) ⟨by omega, by omega, by omega, by omega⟩ (by rw [hh, he]; rfl) (List.forall_mem_cons.mpr ⟨(show (h r).isSome = true from (by rw [hc]; rfl)), (List.forall_mem_cons.mpr ⟨(show (h x).isSome = true from hx.is), (fun _ h => absurd h List.not_mem_nil)⟩)⟩) (fun _ h => absurd h List.not_mem_nil) ?_
      · unfold updV
        by_cases q : j = n
        · rw [if_pos q, if_pos (by omega), if_pos q]
        · rw [if_neg q, if_neg q]
          by_cases q2 : j < n
          · simp only [if_pos q2, if_pos (show j < n + 1 by omega)]
          · simp only [if_neg q2, if_neg (show ¬ j < n + 1 by omega)] <;> (try rfl)
      · show xx_in h (if j = n then .ref x else f j)
        by_cases q : j = n
        · rw [if_pos q]; exact hx.is
        · rw [if_neg q]; exact hcl r _ j hc (show j < n by omega)
      refine sw_iconst (x := 1) O (xx_dt dd_Jx4a65c_add_9ea2d 13 rfl) (by decide) ?_
      exact sw_iret O (xx_dt dd_Jx4a65c_add_9ea2d 14 rfl) rfl rfl (by rw [hQ]; exact ⟨rfl, rfl⟩)
    · obtain rfl : n = cap := by omega
      have h0n : 0 < n := hcap.2.2.2
      have e3 : (3 : Nat) ≠ e := by omega
      refine xx_wid (k' := 0 + 1) (n' := 0 + (n + max 1 (n / 2))) (by omega) (by omega) (sw_callVx (k := 0) (n := 0) (k' := 1) (n' := (n + max 1 (n / 2))) (as := [.ref x, .ref e, .int (nI n)]) (st := []) (st2 := []) O (ct_addB hl (r := r) (e := e) (e2 := e2) (n := n) (by rw [xx_up_ne hre, xx_up_eq]) rfl h1 (xx_up_eq _ _ _) (by omega) (by rw [xx_up_ne (Ne.symm hee), xx_up_ne (Ne.symm hre2)]; exact he2) h92 (by rw [xx_up_ne e3, xx_up_ne r3]; exact h3) (fun j hj => by exact (hel j hj).elim (fun q => .inl (by simp only [if_pos hj]; exact q)) (fun ⟨y, q, hy⟩ => .inr ⟨y, by simp only [if_pos hj]; exact q, (hy.up (hy.nl (ci := 6) hc)).up (hy.nn he)⟩)) h0n rfl ((hx.up hxr).up hxe) hxr) ce_Jx4a65c_add_72be8 ml_Jx4a65c_131 iv_Jx4a65c_add_72be8 cl_Jx4a65c rfl ((by rw [xx_up_ne hre, xx_up_eq])) (xx_dt dd_Jx4a65c_add_9ea2d 12 rfl) (by decide) rfl rfl (Nat.le_of_ble_eq_true rfl) rfl ?_)
      rw [show xx_up (xx_up (xx_up (xx_up (xx_up (xx_up h r (6, 3, updV (xx_lo n e) 0 (.int (nI n + 1)))) e (104, n, fun j => if j < n then f j else .null)) e2 (104, (n + max 1 (n / 2)), fun j => if j < n then (fun j => if j < n then f j else .null) j else .null)) r (6, 3, updV (updV (xx_lo n e) 0 (.int (nI n + 1))) 1 (.ref e2))) e2 (104, (n + max 1 (n / 2)), updV (fun j => if j < n then (fun j => if j < n then f j else .null) j else .null) n (.ref x))) r (6, 3, updV (updV (updV (xx_lo n e) 0 (.int (nI n + 1))) 1 (.ref e2)) 2 (.int (nI (n + 1)))) = xx_up (xx_up (xx_up h r (6, 3, xx_lo (n + 1) e2)) e2 (104, (n + max 1 (n / 2)), updV (fun j => if j < n then (fun j => if j < n then f j else .null) j else .null) n (.ref x))) e (104, n, fun j => if j < n then f j else .null) by
        rw [xx_lo_add2]
        funext q
        simp only [xx_up]
        by_cases a1 : q = r <;> by_cases a2 : q = e <;> by_cases a3 : q = e2 <;> simp_all]
      have hcl2 : xx_cls (xx_up (xx_up h r (6, 3, xx_lo (n + 1) e2)) e2 (104, (n + max 1 (n / 2)), updV (fun j => if j < n then (fun j => if j < n then f j else .null) j else .null) n (.ref x))) := by
        intro q d j hd hj
        by_cases a3 : q = e2
        · subst a3
          rw [xx_up_eq] at hd
          cases hd
          show xx_in _ (updV (fun j => if j < n then (fun j => if j < n then f j else .null) j else .null) n (.ref x) j)
          unfold updV
          split
          · exact xx_up_in (xx_up_in hx.is)
          · dsimp only
            split
            · exact xx_in_up (xx_in_up (hcl r _ j hc (by assumption)))
            · exact trivial
        · rw [xx_up_ne a3] at hd
          by_cases a1 : q = r
          · subst a1
            rw [xx_up_eq] at hd
            cases hd
            exact xx_lo_in (by rw [xx_up_eq]; rfl) j
          · rw [xx_up_ne a1] at hd
            exact xx_in_up (xx_in_up (hcl q d j hd hj))
      refine sw_drop (h2 := xx_up (xx_up h r (6, 3, xx_lo (n + 1) e2)) e2 (104, (n + max 1 (n / 2)), updV (fun j => if j < n then (fun j => if j < n then f j else .null) j else .null) n (.ref x))) (fun q c hq => ?_) hcl2 (fun a ha => xx_up_in (xx_up_in (by rw [hh] at ha; exact ha))) (List.forall_mem_cons.mpr ⟨xx_up_in (xx_up_in (by rw [hc]; rfl)), List.forall_mem_cons.mpr ⟨xx_up_in (xx_up_in hx.is), fun _ h => absurd h List.not_mem_nil⟩⟩) (fun _ h => absurd h List.not_mem_nil) ?_
      · have a2 : q ≠ e := fun a => by rw [a, xx_up_ne hee, xx_up_ne (Ne.symm hre), he] at hq; cases hq
        rw [xx_up_ne a2]
        exact hq
      refine sw_implode (hb := h) (r := r) (e := e2) (n9 := n + 1) (cap := (n + max 1 (n / 2))) (ci := 6) (f := (fun j => if j = n then .ref x else f j)) (g := updV (fun j => if j < n then (fun j => if j < n then f j else .null) j else .null) n (.ref x)) (by decide) hcl he2 h1 h92 hre2 (by rw [hc]; rfl) (fun j hj => ?_) (fun j hj => ?_) ⟨by omega, by omega, by omega, by omega⟩ (by rw [hh, he2]; rfl) (List.forall_mem_cons.mpr ⟨(show (h r).isSome = true from (by rw [hc]; rfl)), (List.forall_mem_cons.mpr ⟨(show (h x).isSome = true from hx.is), (fun _ h => absurd h List.not_mem_nil)⟩)⟩) (fun _ h => absurd h List.not_mem_nil) ?_
      · unfold updV
        by_cases q : j = n
        · rw [if_pos q, if_pos (by omega), if_pos q]
        · rw [if_neg q, if_neg q]
          by_cases q2 : j < n
          · simp only [if_pos q2, if_pos (show j < n + 1 by omega)]
          · simp only [if_neg q2, if_neg (show ¬ j < n + 1 by omega)] <;> (try rfl)
      · show xx_in h (if j = n then .ref x else f j)
        by_cases q : j = n
        · rw [if_pos q]; exact hx.is
        · rw [if_neg q]; exact hcl r _ j hc (show j < n by omega)
      refine sw_iconst (x := 1) O (xx_dt dd_Jx4a65c_add_9ea2d 13 rfl) (by decide) ?_
      exact sw_iret O (xx_dt dd_Jx4a65c_add_9ea2d 14 rfl) rfl rfl (by rw [hQ]; exact ⟨rfl, rfl⟩)
  · subst e0
    refine sw_aload_n O (xx_dt dd_Jx4a65c_add_9ea2d 0 rfl) rfl ?_
    refine sw_dup O (xx_dt dd_Jx4a65c_add_9ea2d 1 rfl) rfl ?_
    refine sw_get2 (v := .int (nI 0)) O (xx_dt dd_Jx4a65c_add_9ea2d 2 rfl) cl_Jx4a65c f2_Jx4a65c_63 (xx_up_eq _ _ _) (by decide) rfl ?_
    refine sw_iconst (x := 1) O (xx_dt dd_Jx4a65c_add_9ea2d 3 rfl) (by decide) ?_
    refine sw_iadd O (xx_dt dd_Jx4a65c_add_9ea2d 4 rfl) ?_
    refine sw_put2 (h2 := xx_up h r (6, 3, updV (xx_lo 0 0) 0 (.int (nI 0 + 1)))) O (xx_dt dd_Jx4a65c_add_9ea2d 5 rfl) cl_Jx4a65c f2_Jx4a65c_63 (xx_up_eq _ _ _) (by decide) h1 rfl (fun _ => ⟨rfl, rfl⟩) xx_up_up ?_
    refine sw_aload_n O (xx_dt dd_Jx4a65c_add_9ea2d 6 rfl) rfl ?_
    refine sw_aload_n O (xx_dt dd_Jx4a65c_add_9ea2d 7 rfl) rfl ?_
    refine sw_aload_n O (xx_dt dd_Jx4a65c_add_9ea2d 8 rfl) rfl ?_
    refine sw_get2 (v := .ref 0) O (xx_dt dd_Jx4a65c_add_9ea2d 9 rfl) cl_Jx4a65c ⟨fl_Jx4a65c_9.1, .inl fl_Jx4a65c_9.2⟩ (xx_up_eq _ _ _) (by decide) rfl ?_
    refine sw_aload_n O (xx_dt dd_Jx4a65c_add_9ea2d 10 rfl) rfl ?_
    refine sw_get2 (v := .int (nI 0)) O (xx_dt dd_Jx4a65c_add_9ea2d 11 rfl) cl_Jx4a65c ⟨fl_Jx4a65c_48.1, .inl fl_Jx4a65c_48.2⟩ (xx_up_eq _ _ _) (by decide) rfl ?_
    refine xx_wid (k' := 0 + 1) (n' := 0 + 10) (by omega) (by omega) (sw_callVx (k := 0) (n := 0) (k' := 1) (n' := 10) (as := [.ref x, .ref 0, .int (nI 0)]) (st := []) (st2 := []) O (ct_addC hl (r := r) (e2 := e2) (xx_up_eq _ _ _) rfl h1 (by rw [xx_up_ne (by omega)]; exact h0) (by rw [xx_up_ne (Ne.symm hre2)]; exact he2) h92 rfl (hx.up hxr) hxr) ce_Jx4a65c_add_72be8 ml_Jx4a65c_131 iv_Jx4a65c_add_72be8 cl_Jx4a65c rfl ((xx_up_eq _ _ _)) (xx_dt dd_Jx4a65c_add_9ea2d 12 rfl) (by decide) rfl rfl (Nat.le_of_ble_eq_true rfl) rfl ?_)
    rw [show xx_up (xx_up (xx_up (xx_up (xx_up h r (6, 3, updV (xx_lo 0 0) 0 (.int (nI 0 + 1)))) e2 (104, 10, fun _ => .null)) r (6, 3, updV (updV (xx_lo 0 0) 0 (.int (nI 0 + 1))) 1 (.ref e2))) e2 (104, 10, updV (fun _ => .null) 0 (.ref x))) r (6, 3, updV (updV (updV (xx_lo 0 0) 0 (.int (nI 0 + 1))) 1 (.ref e2)) 2 (.int (nI (0 + 1)))) = xx_up (xx_up h r (6, 3, xx_lo (0 + 1) e2)) e2 (104, 10, updV (fun _ => .null) 0 (.ref x)) by
      rw [xx_lo_add2]
      funext q
      simp only [xx_up]
      by_cases a1 : q = r <;> by_cases a2 : q = e <;> by_cases a3 : q = e2 <;> simp_all]
    refine sw_implode (hb := h) (r := r) (e := e2) (n9 := 0 + 1) (cap := 10) (ci := 6) (f := (fun j => if j = 0 then .ref x else f j)) (g := updV (fun _ => .null) 0 (.ref x)) (by decide) hcl he2 h1 h92 hre2 (by rw [hc]; rfl) (fun j hj => ?_) (fun j hj => ?_) ⟨by omega, by omega, by omega, by omega⟩ (by rw [hh, he2]; rfl) (List.forall_mem_cons.mpr ⟨(show (h r).isSome = true from (by rw [hc]; rfl)), (List.forall_mem_cons.mpr ⟨(show (h x).isSome = true from hx.is), (fun _ h => absurd h List.not_mem_nil)⟩)⟩) (fun _ h => absurd h List.not_mem_nil) ?_
    · unfold updV
      by_cases q : j = 0
      · rw [if_pos q, if_pos (by omega), if_pos q]
      · rw [if_neg q, if_neg q]
        by_cases q2 : j < 0
        · exact absurd q2 (Nat.not_lt_zero _)
        · simp only [if_neg q2, if_neg (show ¬ j < 0 + 1 by omega)] <;> (try rfl)
    · show xx_in h (if j = 0 then .ref x else f j)
      by_cases q : j = 0
      · rw [if_pos q]; exact hx.is
      · rw [if_neg q]; exact hcl r _ j hc (show j < 0 by omega)
    refine sw_iconst (x := 1) O (xx_dt dd_Jx4a65c_add_9ea2d 13 rfl) (by decide) ?_
    exact sw_iret O (xx_dt dd_Jx4a65c_add_9ea2d 14 rfl) rfl rfl (by rw [hQ]; exact ⟨rfl, rfl⟩)
/-! ===== a new list; iterators; Integers ===== -/
theorem ct_ACinit {l : Launch} {h : XH} (hl : l.stackTraces = false) {r : Nat}  : XEx l m_Jxa1e45_init_da8c8 1 0 0 [.ref r] (h) (none) (h) := by
  refine XMet.of hl rfl rfl (Nat.le_of_ble_eq_true rfl) (fun Y O hh hQ => ?_)
  show SW Y 0 0 (h) 0 [.ref r] []
  refine sw_aload_n O (xx_dt dd_Jxa1e45_init_da8c8 0 rfl) rfl ?_
  refine sw_objInit O oi_Jxa1e45_1 (xx_dt dd_Jxa1e45_init_da8c8 1 rfl) (by omega) (Nat.le_of_ble_eq_true rfl) ?_
  exact sw_ret O (xx_dt dd_Jxa1e45_init_da8c8 2 rfl) rfl (by rw [hQ]; exact ⟨rfl, rfl⟩)
theorem ct_ALinit0 {l : Launch} {h : XH} (hl : l.stackTraces = false) {r : Nat} {F : Nat → Value} (hr : h r = some (6, 3, F)) (h1 : 1000 ≤ r)  : XEx l m_Jxc12de_init_da8c8 2 0 0 [.ref r] (h) (none) (xx_up h r (6, 3, updV F 0 (.int 0))) := by
  refine XMet.of hl rfl rfl (Nat.le_of_ble_eq_true rfl) (fun Y O hh hQ => ?_)
  show SW Y 0 0 (h) 0 [.ref r] []
  refine sw_aload_n O (xx_dt dd_Jxc12de_init_da8c8 0 rfl) rfl ?_
  refine sw_callIx (as := []) (st := []) (st2 := []) O (ct_ACinit hl) ce_Jxa1e45_init_da8c8 ml_Jxc12de_1 ii_Jxa1e45_init_da8c8 (xx_dt dd_Jxc12de_init_da8c8 1 rfl) (by decide) rfl rfl (Nat.le_of_ble_eq_true rfl) rfl ?_
  refine sw_aload_n O (xx_dt dd_Jxc12de_init_da8c8 2 rfl) rfl ?_
  refine sw_iconst (x := 0) O (xx_dt dd_Jxc12de_init_da8c8 3 rfl) (by decide) ?_
  refine sw_put2 (h2 := xx_up h r (6, 3, updV F 0 (.int 0))) O (xx_dt dd_Jxc12de_init_da8c8 4 rfl) cl_Jx4a65c f2_Jxc12de_7 hr (by decide) h1 rfl (fun _ => ⟨rfl, rfl⟩) rfl ?_
  exact sw_ret O (xx_dt dd_Jxc12de_init_da8c8 5 rfl) rfl (by rw [hQ]; exact ⟨rfl, rfl⟩)
theorem ct_AL_init {l : Launch} {h : XH} (hl : l.stackTraces = false) {r : Nat} {F f0 : Nat → Value} (hr : h r = some (6, 3, F)) (h1 : 1000 ≤ r) (hF2 : ∀ k, 2 ≤ k → F k = vp_V [.int 0, .null, .int 0] k) (h0 : h 0 = some (104, 0, f0))  : XEx l m_Jx4a65c_init_da8c8 3 0 0 [.ref r] (h) (none) (xx_up h r (206, 0, fun _ => .null)) := by
  refine XMet.of hl rfl rfl (Nat.le_of_ble_eq_true rfl) (fun Y O hh hQ => ?_)
  have hr0 : (0 : Nat) ≠ r := by omega
  refine sw_cls (fun hcl => ?_)
  show SW Y 0 0 (h) 0 [.ref r] []
  refine sw_aload_n O (xx_dt dd_Jx4a65c_init_da8c8 0 rfl) rfl ?_
  refine sw_callIx (as := []) (st := []) (st2 := []) O (ct_ALinit0 hl hr h1) ce_Jxc12de_init_da8c8 ml_Jx4a65c_1 ii_Jxc12de_init_da8c8 (xx_dt dd_Jx4a65c_init_da8c8 1 rfl) (by decide) rfl rfl (Nat.le_of_ble_eq_true rfl) rfl ?_
  refine sw_aload_n O (xx_dt dd_Jx4a65c_init_da8c8 2 rfl) rfl ?_
  refine sw_getsR (i := 3) (r := 0) O (xx_dt dd_Jx4a65c_init_da8c8 3 rfl) rfl gs_Jx4a65c_39 (by rw [xx_up_ne hr0]; exact h0) (by omega) ?_
  refine sw_put (h2 := xx_up h r (6, 3, updV (updV F 0 (.int 0)) 1 (.ref 0))) O (xx_dt dd_Jx4a65c_init_da8c8 4 rfl) cl_Jx4a65c fl_Jx4a65c_9 (xx_up_eq _ _ _) (by decide) h1 rfl (fun _ => ⟨rfl, rfl⟩) xx_up_up ?_
  rw [show updV (updV F 0 (.int 0)) 1 (.ref 0) = xx_lo 0 0 by
    funext k
    unfold updV
    match k with
    | 0 => rfl
    | 1 => rfl
    | 2 => exact hF2 2 (Nat.le_refl _)
    | k + 3 => exact hF2 (k + 3) (by omega)]
  refine sw_implode0 (ci := 6) (f := fun _ => .null) (by decide) hcl h1 h0 ?_
  exact sw_ret O (xx_dt dd_Jx4a65c_init_da8c8 5 rfl) rfl (by rw [hQ]; exact ⟨rfl, rfl⟩)
theorem ct_It_init {l : Launch} {h : XH} (hl : l.stackTraces = false) {t r n : Nat} {F f : Nat → Value} (ht : h t = some (5, 4, F)) (h1 : 1000 ≤ t) (hc : h r = some (206, n, f)) (hF : F = fun j => defaultValue (tyJx35411 j))  : XEx l m_Jx35411_init_45d68 1 0 0 [.ref t, .ref r] (h) (none) (xx_up h t (5, 4, vp_V [.int 0, .int (-1), .int (nI n), .ref r])) := by
  refine XMet.of hl rfl rfl (Nat.le_of_ble_eq_true rfl) (fun Y O hh hQ => ?_)
  subst hF
  have hrt : r ≠ t := fun q => by rw [q, ht] at hc; cases hc
  rw [show vp_V [.int 0, .int (-1), .int (nI n), .ref r] = updV (updV (updV (fun j => defaultValue (tyJx35411 j)) 3 (.ref r)) 1 (.int (-1))) 2 (.int (nI n)) by
    funext k
    unfold updV
    match k with
    | 0 => rfl
    | 1 => rfl
    | 2 => rfl
    | 3 => rfl
    | k + 4 => rfl] at hQ
  show SW Y 0 0 (h) 0 [.ref t, .ref r] []
  refine sw_aload_n O (xx_dt dd_Jx35411_init_45d68 0 rfl) rfl ?_
  refine sw_aload_n O (xx_dt dd_Jx35411_init_45d68 1 rfl) rfl ?_
  refine sw_putF (h2 := xx_up h t (5, 4, updV (fun j => defaultValue (tyJx35411 j)) 3 (.ref r))) O (xx_dt dd_Jx35411_init_45d68 2 rfl) cl_Jx35411 fz_Jx35411_1 ht (by decide) h1 rfl rfl (fun _ => ⟨rfl, rfl⟩) rfl ?_
  refine sw_aload_n O (xx_dt dd_Jx35411_init_45d68 3 rfl) rfl ?_
  refine sw_objInit O oi_Jx35411_7 (xx_dt dd_Jx35411_init_45d68 4 rfl) (by omega) (Nat.le_of_ble_eq_true rfl) ?_
  refine sw_aload_n O (xx_dt dd_Jx35411_init_45d68 5 rfl) rfl ?_
  refine sw_iconst (x := (-1)) O (xx_dt dd_Jx35411_init_45d68 6 rfl) (by decide) ?_
  refine sw_put (h2 := xx_up h t (5, 4, updV (updV (fun j => defaultValue (tyJx35411 j)) 3 (.ref r)) 1 (.int (-1)))) O (xx_dt dd_Jx35411_init_45d68 7 rfl) cl_Jx35411 fl_Jx35411_13 (xx_up_eq _ _ _) (by decide) h1 rfl (fun _ => ⟨rfl, rfl⟩) xx_up_up ?_
  refine sw_aload_n O (xx_dt dd_Jx35411_init_45d68 8 rfl) rfl ?_
  refine sw_aload_n O (xx_dt dd_Jx35411_init_45d68 9 rfl) rfl ?_
  refine sw_get (v := .ref r) O (xx_dt dd_Jx35411_init_45d68 10 rfl) cl_Jx35411 fl_Jx35411_1 (xx_up_eq _ _ _) (by decide) rfl ?_
  refine sw_getL (ci := 6) O (xx_dt dd_Jx35411_init_45d68 11 rfl) cl_Jx4a65c f2_Jx35411_17 (by rw [xx_up_ne hrt]; exact hc) (.inl rfl) ?_
  refine sw_put (h2 := xx_up h t (5, 4, updV (updV (updV (fun j => defaultValue (tyJx35411 j)) 3 (.ref r)) 1 (.int (-1))) 2 (.int (nI n)))) O (xx_dt dd_Jx35411_init_45d68 12 rfl) cl_Jx35411 fl_Jx35411_22 (xx_up_eq _ _ _) (by decide) h1 rfl (fun _ => ⟨rfl, rfl⟩) xx_up_up ?_
  exact sw_ret O (xx_dt dd_Jx35411_init_45d68 13 rfl) rfl (by rw [hQ]; exact ⟨rfl, rfl⟩)
theorem ct_AL_iterator {l : Launch} {h : XH} (hl : l.stackTraces = false) {r n : Nat} {f : Nat → Value} (hc : h r = some (206, n, f)) {t : Nat} (ht : h t = none) (h1 : 1000 ≤ t)  : XEx l m_Jx4a65c_iterator_32c93 2 1 4 [.ref r] (h) (some (.ref t)) (xx_up h t (5, 4, vp_V [.int 0, .int (-1), .int (nI n), .ref r])) := by
  refine XMet.of hl rfl rfl (Nat.le_of_ble_eq_true rfl) (fun Y O hh hQ => ?_)
  have hrt : r ≠ t := fun q => by rw [q, ht] at hc; cases hc
  show SW Y 1 4 (h) 0 [.ref r] []
  refine sw_new (k := 0) (n := 0) (r := t) O (xx_dt dd_Jx4a65c_iterator_32c93 0 rfl) cl_Jx35411 nw_Jx4a65c_267 ht h1 ?_
  rw [xx_blk_up]
  refine sw_dup O (xx_dt dd_Jx4a65c_iterator_32c93 1 rfl) rfl ?_
  refine sw_aload_n O (xx_dt dd_Jx4a65c_iterator_32c93 2 rfl) rfl ?_
  refine sw_callIx (as := [.ref r]) (st := [.ref t]) (st2 := [.ref t]) O (ct_It_init hl (n := n) (f := f) (xx_up_eq _ _ _) h1 (by rw [xx_up_ne hrt]; exact hc) rfl) ce_Jx35411_init_45d68 ml_Jx4a65c_269 ii_Jx35411_init_45d68 (xx_dt dd_Jx4a65c_iterator_32c93 3 rfl) (by decide) rfl rfl (Nat.le_of_ble_eq_true rfl) rfl ?_
  rw [xx_up_up]
  exact sw_aret O (xx_dt dd_Jx4a65c_iterator_32c93 4 rfl) rfl (.inl ⟨_, rfl⟩) (by rw [hQ]; exact ⟨rfl, rfl⟩)
theorem ct_It_hasNext {l : Launch} {h : XH} (hl : l.stackTraces = false) {t r n i : Nat} {la : Int32} {f : Nat → Value} (ht : h t = some (5, 4, vp_V [.int (nI i), .int la, .int (nI n), .ref r])) (h1 : 1000 ≤ t) (hc : h r = some (206, n, f)) (hn : n < 2147483648) (hi : i ≤ n)  : XEx l m_Jx35411_hasNext_aae02 0 0 0 [.ref t] (h) (some (.int (if i < n then 1 else 0))) (h) := by
  refine XMet.of hl rfl rfl (Nat.le_of_ble_eq_true rfl) (fun Y O hh hQ => ?_)
  show SW Y 0 0 (h) 0 [.ref t] []
  refine sw_aload_n O (xx_dt dd_Jx35411_hasNext_aae02 0 rfl) rfl ?_
  refine sw_get (v := .int (nI i)) O (xx_dt dd_Jx35411_hasNext_aae02 1 rfl) cl_Jx35411 fl_Jx35411_25 ht (by decide) rfl ?_
  refine sw_aload_n O (xx_dt dd_Jx35411_hasNext_aae02 2 rfl) rfl ?_
  refine sw_get (v := .ref r) O (xx_dt dd_Jx35411_hasNext_aae02 3 rfl) cl_Jx35411 fl_Jx35411_1 ht (by decide) rfl ?_
  refine sw_getL (ci := 6) O (xx_dt dd_Jx35411_hasNext_aae02 4 rfl) cl_Jx4a65c f2_Jx35411_28 hc (.inr rfl) ?_
  refine sw_icmp_eq (tgt := 18) O (xx_dt dd_Jx35411_hasNext_aae02 5 rfl) (by decide) (fun q => ?_) (fun q => ?_)
  · refine sw_iconst (x := 0) O (xx_dt dd_Jx35411_hasNext_aae02 8 rfl) (by decide) ?_
    exact sw_iret O (xx_dt dd_Jx35411_hasNext_aae02 9 rfl) rfl rfl (by rw [hQ]; exact ⟨by rw [if_neg (fun e => absurd ((cn_nI (k := i) (by omega)).symm.trans ((congrArg cn q).trans (cn_nI (k := n) (by omega)))) (by omega))], rfl⟩)
  · refine sw_iconst (x := 1) O (xx_dt dd_Jx35411_hasNext_aae02 6 rfl) (by decide) ?_
    refine sw_goto (tgt := 19) O (xx_dt dd_Jx35411_hasNext_aae02 7 rfl) (by decide) ?_
    exact sw_iret O (xx_dt dd_Jx35411_hasNext_aae02 9 rfl) rfl rfl (by rw [hQ]; exact ⟨by rw [if_pos (Nat.lt_of_le_of_ne hi (fun e => q (by rw [e])))], rfl⟩)
theorem ct_It_check {l : Launch} {h : XH} (hl : l.stackTraces = false) {t r n i : Nat} {la : Int32} {f : Nat → Value} (ht : h t = some (5, 4, vp_V [.int (nI i), .int la, .int (nI n), .ref r])) (h1 : 1000 ≤ t) (hc : h r = some (206, n, f)) (hn : n < 2147483648)  : XEx l m_Jx35411_checkForComodification_da8c8 0 0 0 [.ref t] (h) (none) (h) := by
  refine XMet.of hl rfl rfl (Nat.le_of_ble_eq_true rfl) (fun Y O hh hQ => ?_)
  show SW Y 0 0 (h) 0 [.ref t] []
  refine sw_aload_n O (xx_dt dd_Jx35411_checkForComodification_da8c8 0 rfl) rfl ?_
  refine sw_get (v := .ref r) O (xx_dt dd_Jx35411_checkForComodification_da8c8 1 rfl) cl_Jx35411 fl_Jx35411_1 ht (by decide) rfl ?_
  refine sw_getL (ci := 6) O (xx_dt dd_Jx35411_checkForComodification_da8c8 2 rfl) cl_Jx4a65c f2_Jx35411_17 hc (.inl rfl) ?_
  refine sw_aload_n O (xx_dt dd_Jx35411_checkForComodification_da8c8 3 rfl) rfl ?_
  refine sw_get (v := .int (nI n)) O (xx_dt dd_Jx35411_checkForComodification_da8c8 4 rfl) cl_Jx35411 fl_Jx35411_22 ht (by decide) rfl ?_
  refine sw_icmp_eq (tgt := 22) O (xx_dt dd_Jx35411_checkForComodification_da8c8 5 rfl) (by decide) (fun q => ?_) (fun q => absurd rfl q)
  exact sw_ret O (xx_dt dd_Jx35411_checkForComodification_da8c8 10 rfl) rfl (by rw [hQ]; exact ⟨rfl, rfl⟩)
theorem it_cur {i : Nat} {la : Int32} {n r : Nat} : updV (vp_V [.int (nI i), .int la, .int (nI n), .ref r]) 0 (.int (nI (i + 1))) = vp_V [.int (nI (i + 1)), .int la, .int (nI n), .ref r] := by
  funext k
  unfold updV
  match k with
  | 0 => rfl
  | 1 => rfl
  | 2 => rfl
  | 3 => rfl
  | k + 4 => rfl
theorem it_las {i : Nat} {la : Int32} {n r : Nat} : updV (vp_V [.int (nI (i + 1)), .int la, .int (nI n), .ref r]) 1 (.int (nI i)) = vp_V [.int (nI (i + 1)), .int (nI i), .int (nI n), .ref r] := by
  funext k
  unfold updV
  match k with
  | 0 => rfl
  | 1 => rfl
  | 2 => rfl
  | 3 => rfl
  | k + 4 => rfl
theorem ct_It_next {l : Launch} {h : XH} (hl : l.stackTraces = false) {t r n i : Nat} {la : Int32} {f : Nat → Value} (ht : h t = some (5, 4, vp_V [.int (nI i), .int la, .int (nI n), .ref r])) (h1 : 1000 ≤ t) (hc : h r = some (206, n, f)) (hn : n < 2147483648) {e : Nat} (he : h e = none) (h9 : 1000 ≤ e) (hr1 : 1000 ≤ r) {f0 : Nat → Value} (h0 : h 0 = some (104, 0, f0)) {x : Nat} (hi : i < n) (hx : f i = .ref x)  : XEx l m_Jx35411_next_0502b 1 0 0 [.ref t] (h) (some (.ref x)) (xx_up h t (5, 4, vp_V [.int (nI (i + 1)), .int (nI i), .int (nI n), .ref r])) := by
  refine XMet.of hl rfl rfl (Nat.le_of_ble_eq_true rfl) (fun Y O hh hQ => ?_)
  have hrt : r ≠ t := fun q => by rw [q, ht] at hc; cases hc
  have hre : r ≠ e := fun q => by rw [q, he] at hc; cases hc
  have hte : t ≠ e := fun q => by rw [q, he] at ht; cases ht
  refine sw_cls (fun hcl => ?_)
  have hxi : (h x).isSome = true := by have := hcl r _ i hc hi; rw [show (206, n, f).2.2 i = f i from rfl, hx] at this; exact this
  show SW Y 0 0 (h) 0 [.ref t, xx_d, xx_d] []
  refine sw_aload_n O (xx_dt dd_Jx35411_next_0502b 0 rfl) rfl ?_
  refine sw_callVx (as := []) (st := []) (st2 := []) O (ct_It_check hl ht h1 hc hn) ce_Jx35411_checkForComodification_da8c8 ml_Jx35411_31 iv_Jx35411_checkForComodification_da8c8 cl_Jx35411 rfl (ht) (xx_dt dd_Jx35411_next_0502b 1 rfl) (by decide) rfl rfl (Nat.le_of_ble_eq_true rfl) rfl ?_
  refine sw_aload_n O (xx_dt dd_Jx35411_next_0502b 2 rfl) rfl ?_
  refine sw_get (v := .int (nI i)) O (xx_dt dd_Jx35411_next_0502b 3 rfl) cl_Jx35411 fl_Jx35411_25 ht (by decide) rfl ?_
  refine sw_istore_n (ls2 := [.ref t, .int (nI i), xx_d]) O (xx_dt dd_Jx35411_next_0502b 4 rfl) (by decide) rfl ?_
  refine sw_iload_n O (xx_dt dd_Jx35411_next_0502b 5 rfl) rfl ?_
  refine sw_aload_n O (xx_dt dd_Jx35411_next_0502b 6 rfl) rfl ?_
  refine sw_get (v := .ref r) O (xx_dt dd_Jx35411_next_0502b 7 rfl) cl_Jx35411 fl_Jx35411_1 ht (by decide) rfl ?_
  refine sw_getL (ci := 6) O (xx_dt dd_Jx35411_next_0502b 8 rfl) cl_Jx4a65c f2_Jx35411_28 hc (.inr rfl) ?_
  refine sw_icmp_lt (tgt := 28) O (xx_dt dd_Jx35411_next_0502b 9 rfl) (by decide) (fun q => ?_) (fun q => absurd ((nI_ltI (a := i) (b := n) (by omega) (by omega)).mpr hi) q)
  refine sw_explode (ci := 6) (by decide) hc hr1 he h9 h0 (fun cap hcap => ?_) (fun e0 => absurd hi (by omega))
  refine sw_aload_n O (xx_dt dd_Jx35411_next_0502b 14 rfl) rfl ?_
  refine sw_get (v := .ref r) O (xx_dt dd_Jx35411_next_0502b 15 rfl) cl_Jx35411 fl_Jx35411_1 (by rw [xx_up_ne hte, xx_up_ne (Ne.symm hrt)]; exact ht) (by decide) rfl ?_
  refine sw_get2 (v := .ref e) O (xx_dt dd_Jx35411_next_0502b 16 rfl) cl_Jx4a65c ⟨fl_Jx35411_37.1, .inl fl_Jx35411_37.2⟩ (by rw [xx_up_ne hre, xx_up_eq]) (by decide) rfl ?_
  refine sw_astore_n (ls2 := [.ref t, .int (nI i), .ref e]) O (xx_dt dd_Jx35411_next_0502b 17 rfl) (by decide) rfl ?_
  refine sw_iload_n O (xx_dt dd_Jx35411_next_0502b 18 rfl) rfl ?_
  refine sw_aload_n O (xx_dt dd_Jx35411_next_0502b 19 rfl) rfl ?_
  refine sw_alen (t := 104) O (xx_dt dd_Jx35411_next_0502b 20 rfl) (by omega) (by omega) (xx_up_eq _ _ _) ?_
  refine sw_icmp_lt (tgt := 50) O (xx_dt dd_Jx35411_next_0502b 21 rfl) (by decide) (fun q => ?_) (fun q => absurd ((nI_ltI (a := i) (b := cap) (by omega) (by omega)).mpr (by omega)) q)
  refine sw_aload_n O (xx_dt dd_Jx35411_next_0502b 26 rfl) rfl ?_
  refine sw_iload_n O (xx_dt dd_Jx35411_next_0502b 27 rfl) rfl ?_
  refine sw_iconst (x := 1) O (xx_dt dd_Jx35411_next_0502b 28 rfl) (by decide) ?_
  refine sw_iadd O (xx_dt dd_Jx35411_next_0502b 29 rfl) ?_
  rw [nI_a1 i]
  refine sw_put (h2 := xx_up (xx_up (xx_up h t (5, 4, vp_V [.int (nI (i + 1)), .int la, .int (nI n), .ref r])) r (6, 3, xx_lo n e)) e (104, cap, fun j => if j < n then f j else .null)) O (xx_dt dd_Jx35411_next_0502b 30 rfl) cl_Jx35411 fl_Jx35411_25 (by rw [xx_up_ne hte, xx_up_ne (Ne.symm hrt)]; exact ht) (by decide) h1 rfl (fun _ => ⟨rfl, rfl⟩) (by rw [it_cur, ← xx_up_sw hte, ← xx_up_sw (Ne.symm hrt)]) ?_
  refine sw_aload_n O (xx_dt dd_Jx35411_next_0502b 31 rfl) rfl ?_
  refine sw_aload_n O (xx_dt dd_Jx35411_next_0502b 32 rfl) rfl ?_
  refine sw_iload_n O (xx_dt dd_Jx35411_next_0502b 33 rfl) rfl ?_
  refine sw_dup_x1 O (xx_dt dd_Jx35411_next_0502b 34 rfl) rfl rfl ?_
  refine sw_put (h2 := xx_up (xx_up (xx_up h t (5, 4, vp_V [.int (nI (i + 1)), .int (nI i), .int (nI n), .ref r])) r (6, 3, xx_lo n e)) e (104, cap, fun j => if j < n then f j else .null)) O (xx_dt dd_Jx35411_next_0502b 35 rfl) cl_Jx35411 fl_Jx35411_13 (by rw [xx_up_ne hte, xx_up_ne (Ne.symm hrt), xx_up_eq]) (by decide) h1 rfl (fun _ => ⟨rfl, rfl⟩) (by rw [it_las, ← xx_up_sw hte, ← xx_up_sw (Ne.symm hrt), xx_up_up]) ?_
  refine sw_aaload (v := .ref x) O (xx_dt dd_Jx35411_next_0502b 36 rfl) (by omega) (by omega) (xx_up_eq _ _ _) (pk_in i cap (by omega)) (by rw [nI_clamp (by omega), if_pos hi]; exact hx) ?_
  refine sw_dum (ls2 := [.ref t, .int (nI i), xx_d]) ⟨.inr rfl, .inr rfl, .inl rfl, trivial⟩ ?_
  have hcl2 : xx_cls (xx_up h t (5, 4, vp_V [.int (nI (i + 1)), .int (nI i), .int (nI n), .ref r])) := hcl.up (fun j hj => by
    match j with
    | 0 => exact trivial
    | 1 => exact trivial
    | 2 => exact trivial
    | 3 => exact xx_up_in (by rw [hc]; rfl)
    | j + 4 => exact trivial)
  refine sw_implode (hb := (xx_up h t (5, 4, vp_V [.int (nI (i + 1)), .int (nI i), .int (nI n), .ref r]))) (r := r) (e := e) (n9 := n) (cap := cap) (ci := 6) (f := f) (g := fun j => if j < n then f j else .null) (by decide) hcl2 (by rw [xx_up_ne (Ne.symm hte)]; exact he) hr1 h9 hre (xx_up_in (by rw [hc]; rfl)) (fun j hj => rfl) (fun j hj => xx_in_up (hcl r _ j hc hj)) hcap (by rw [hh, he]; rfl) (List.forall_mem_cons.mpr ⟨(xx_up_in (show (h t).isSome = true by rw [ht]; rfl)), (List.forall_mem_cons.mpr ⟨trivial, (List.forall_mem_cons.mpr ⟨trivial, (fun _ h => absurd h List.not_mem_nil)⟩)⟩)⟩) (List.forall_mem_cons.mpr ⟨(xx_up_in hxi), (fun _ h => absurd h List.not_mem_nil)⟩) ?_
  rw [xx_up_self (by rw [xx_up_ne hrt]; exact hc)]
  exact sw_aret O (xx_dt dd_Jx35411_next_0502b 37 rfl) rfl (.inl ⟨_, rfl⟩) (by rw [hQ]; exact ⟨rfl, rfl⟩)
theorem ct_intValue {l : Launch} {h : XH} (hl : l.stackTraces = false) {x : Nat} {F : Nat → Value} {v : Int32} (hx : h x = some (2, 1, F)) (hv : F 0 = .int v)  : XEx l m_J6_intValue_8abf5 0 0 0 [.ref x] (h) (some (.int v)) (h) := by
  refine XMet.of hl rfl rfl (Nat.le_of_ble_eq_true rfl) (fun Y O hh hQ => ?_)
  show SW Y 0 0 (h) 0 [.ref x] []
  refine sw_aload_n O (xx_dt dd_J6_intValue_8abf5 0 rfl) rfl ?_
  refine sw_get (v := .int v) O (xx_dt dd_J6_intValue_8abf5 1 rfl) cl_J6 fl_J6_205 hx (by decide) hv ?_
  exact sw_iret O (xx_dt dd_J6_intValue_8abf5 2 rfl) rfl rfl (by rw [hQ]; exact ⟨rfl, rfl⟩)
theorem ct_Ninit {l : Launch} {h : XH} (hl : l.stackTraces = false) {r : Nat}  : XEx l m_Jxd2413_init_da8c8 1 0 0 [.ref r] (h) (none) (h) := by
  refine XMet.of hl rfl rfl (Nat.le_of_ble_eq_true rfl) (fun Y O hh hQ => ?_)
  show SW Y 0 0 (h) 0 [.ref r] []
  refine sw_aload_n O (xx_dt dd_Jxd2413_init_da8c8 0 rfl) rfl ?_
  refine sw_objInit O oi_Jxd2413_1 (xx_dt dd_Jxd2413_init_da8c8 1 rfl) (by omega) (Nat.le_of_ble_eq_true rfl) ?_
  exact sw_ret O (xx_dt dd_Jxd2413_init_da8c8 2 rfl) rfl (by rw [hQ]; exact ⟨rfl, rfl⟩)
theorem ct_Iinit {l : Launch} {h : XH} (hl : l.stackTraces = false) {r : Nat} {F : Nat → Value} {v : Int32} (hr : h r = some (2, 1, F)) (h1 : 1000 ≤ r)  : XEx l m_J6_init_d00df 2 0 0 [.ref r, .int v] (h) (none) (xx_up h r (2, 1, updV F 0 (.int v))) := by
  refine XMet.of hl rfl rfl (Nat.le_of_ble_eq_true rfl) (fun Y O hh hQ => ?_)
  show SW Y 0 0 (h) 0 [.ref r, .int v] []
  refine sw_aload_n O (xx_dt dd_J6_init_d00df 0 rfl) rfl ?_
  refine sw_callIx (as := []) (st := []) (st2 := []) O (ct_Ninit hl) ce_Jxd2413_init_da8c8 ml_J6_202 ii_Jxd2413_init_da8c8 (xx_dt dd_J6_init_d00df 1 rfl) (by decide) rfl rfl (Nat.le_of_ble_eq_true rfl) rfl ?_
  refine sw_aload_n O (xx_dt dd_J6_init_d00df 2 rfl) rfl ?_
  refine sw_iload_n O (xx_dt dd_J6_init_d00df 3 rfl) rfl ?_
  refine sw_putF (h2 := xx_up h r (2, 1, updV F 0 (.int v))) O (xx_dt dd_J6_init_d00df 4 rfl) cl_J6 fz_J6_205 hr (by decide) h1 rfl rfl (fun _ => ⟨rfl, rfl⟩) rfl ?_
  exact sw_ret O (xx_dt dd_J6_init_d00df 5 rfl) rfl (by rw [hQ]; exact ⟨rfl, rfl⟩)
/-- which box valueOf answers: a kept one, or the new one -/
abbrev xx_small (v : Int32) : Prop := ¬ v < -128 ∧ ¬ (127 : Int32) < v
def xx_box (v : Int32) (e : Nat) : Nat := if xx_small v then 200 + cn (v + 128) else e
theorem small_nat {v : Int32} (h : xx_small v) : v + 128 = nI (cn (v + 128)) ∧ cn (v + 128) < 256 := by
  have h1 : (-128 : Int32).toInt = -128 := rfl
  have h2 : (127 : Int32).toInt = 127 := rfl
  have h3 := h.1
  have h4 := h.2
  rw [i_lt] at h3 h4
  have h5 : (v + 128).toInt = v.toInt + 128 := by
    rw [Int32.toInt_add]
    have h6 : (128 : Int32).toInt = 128 := rfl
    rw [h6]
    exact Int.bmod_eq_of_le (by omega) (by omega)
  obtain ⟨c1, c2⟩ := cn_of (x := v + 128) (i_le.mpr (by rw [h5]; show (0 : Int) ≤ _; omega))
  exact ⟨c1, by omega⟩
theorem ct_valueOf {l : Launch} {h : XH} (hl : l.stackTraces = false) {v : Int32} {e : Nat} (he : h e = none) (h9 : 1000 ≤ e) (hca : h 1 = some (105, 256, fun j => .ref (200 + j)))  : XEx l m_J6_valueOf_2dffe 3 1 1 [.int v] (h) (some (.ref (xx_box v e))) (if xx_small v then h else xx_up h e (2, 1, updV (fun j => defaultValue (tyJ6 j)) 0 (.int v))) := by
  refine XMet.of hl rfl rfl (Nat.le_of_ble_eq_true rfl) (fun Y O hh hQ => ?_)
  show SW Y 1 1 (h) 0 [.int v] []
  refine sw_iload_n O (xx_dt dd_J6_valueOf_2dffe 0 rfl) rfl ?_
  refine sw_bipush (x := (-128)) O (xx_dt dd_J6_valueOf_2dffe 1 rfl) (by decide) ?_
  refine sw_icmp_lt (tgt := 23) O (xx_dt dd_J6_valueOf_2dffe 2 rfl) (by decide) (fun q => ?_) (fun q => ?_)
  · refine sw_new (k := 0) (n := 0) (r := e) O (xx_dt dd_J6_valueOf_2dffe 12 rfl) cl_J6 nw_J6_1 he h9 ?_
    rw [xx_blk_up]
    refine sw_dup O (xx_dt dd_J6_valueOf_2dffe 13 rfl) rfl ?_
    refine sw_iload_n O (xx_dt dd_J6_valueOf_2dffe 14 rfl) rfl ?_
    refine sw_callIx (as := [.int v]) (st := [.ref e]) (st2 := [.ref e]) O (ct_Iinit hl (v := v) (xx_up_eq _ _ _) h9) ce_J6_init_d00df ml_J6_199 ii_J6_init_d00df (xx_dt dd_J6_valueOf_2dffe 15 rfl) (by decide) rfl rfl (Nat.le_of_ble_eq_true rfl) rfl ?_
    rw [xx_up_up]
    exact sw_aret O (xx_dt dd_J6_valueOf_2dffe 16 rfl) rfl (.inl ⟨_, rfl⟩) (by rw [hQ]; have hn : ¬ xx_small v := fun z => z.1 q; unfold xx_box; rw [if_neg hn, if_neg hn]; exact ⟨rfl, rfl⟩)
  · refine sw_iload_n O (xx_dt dd_J6_valueOf_2dffe 3 rfl) rfl ?_
    refine sw_gets (i := 1) O (xx_dt dd_J6_valueOf_2dffe 4 rfl) rfl gs_J6_191 ?_
    refine sw_icmp_gt (tgt := 23) O (xx_dt dd_J6_valueOf_2dffe 5 rfl) (by decide) (fun q2 => ?_) (fun q2 => ?_)
    · refine sw_new (k := 0) (n := 0) (r := e) O (xx_dt dd_J6_valueOf_2dffe 12 rfl) cl_J6 nw_J6_1 he h9 ?_
      rw [xx_blk_up]
      refine sw_dup O (xx_dt dd_J6_valueOf_2dffe 13 rfl) rfl ?_
      refine sw_iload_n O (xx_dt dd_J6_valueOf_2dffe 14 rfl) rfl ?_
      refine sw_callIx (as := [.int v]) (st := [.ref e]) (st2 := [.ref e]) O (ct_Iinit hl (v := v) (xx_up_eq _ _ _) h9) ce_J6_init_d00df ml_J6_199 ii_J6_init_d00df (xx_dt dd_J6_valueOf_2dffe 15 rfl) (by decide) rfl rfl (Nat.le_of_ble_eq_true rfl) rfl ?_
      rw [xx_up_up]
      exact sw_aret O (xx_dt dd_J6_valueOf_2dffe 16 rfl) rfl (.inl ⟨_, rfl⟩) (by rw [hQ]; have hn : ¬ xx_small v := fun z => z.2 q2; unfold xx_box; rw [if_neg hn, if_neg hn]; exact ⟨rfl, rfl⟩)
    · have hn : xx_small v := ⟨q, q2⟩
      obtain ⟨c1, c2⟩ := small_nat hn
      refine sw_getsR (i := 2) (r := 1) O (xx_dt dd_J6_valueOf_2dffe 6 rfl) rfl gs_J6_195 hca (by omega) ?_
      refine sw_iload_n O (xx_dt dd_J6_valueOf_2dffe 7 rfl) rfl ?_
      refine sw_sipush (x := 128) O (xx_dt dd_J6_valueOf_2dffe 8 rfl) (by decide) ?_
      refine sw_iadd O (xx_dt dd_J6_valueOf_2dffe 9 rfl) ?_
      rw [c1]
      refine sw_aaload (v := .ref (200 + cn (v + 128))) O (xx_dt dd_J6_valueOf_2dffe 10 rfl) (by omega) (by omega) hca (pk_in _ 256 (by omega)) (by rw [nI_clamp (by omega)]) ?_
      exact sw_aret O (xx_dt dd_J6_valueOf_2dffe 11 rfl) rfl (.inl ⟨_, rfl⟩) (by rw [hQ]; unfold xx_box; rw [if_pos hn, if_pos hn]; exact ⟨rfl, rfl⟩)
end
section
/-! ===== constructors ===== -/
def inI (I : List (Nat × Nat)) (q : Nat) : Bool := I.any fun p => decide (p.1 ≤ q ∧ q < p.1 + p.2)
def setI (I : List (Nat × Nat)) (σ : XS9) (h : XH) : XH := fun q => if inI I q = true then lyC q (σ q) else h q
theorem inI_cons {I : List (Nat × Nat)} {r N q : Nat} : inI ((r, N) :: I) q = (decide (r ≤ q ∧ q < r + N) || inI I q) := rfl
theorem setI_blk {I : List (Nat × Nat)} {σ : XS9} {h : XH} {r N : Nat} {c : Nat → XC} (hc : ∀ i, i < N → lyC (r + i) (σ (r + i)) = some (c i)) : xx_blk (setI I σ h) r N c = setI ((r, N) :: I) σ h := by
  funext q
  unfold xx_blk setI
  rw [inI_cons]
  by_cases e : r ≤ q ∧ q < r + N
  · rw [if_pos e, decide_eq_true e, Bool.true_or, if_pos rfl]
    have := hc (q - r) (by omega)
    rw [show r + (q - r) = q by omega] at this
    exact this.symm
  · rw [if_neg e, decide_eq_false e, Bool.false_or]
theorem blk_up {A : XH} {b r N : Nat} {F : XC} {c : Nat → XC} (hb : b < r ∨ r + N ≤ b) : xx_blk (xx_up A b F) r N c = xx_up (xx_blk A r N c) b F := by
  funext q
  unfold xx_blk xx_up
  by_cases e : q = b
  · subst e
    rw [if_neg (by omega), if_pos rfl, if_pos rfl]
  · rw [if_neg e, if_neg e]
theorem ob_new {I : List (Nat × Nat)} {σ : XS9} {h : XH} {b r N : Nat} {F : XC} {c : Nat → XC} (hb : b < r ∨ r + N ≤ b) (hc : ∀ i, i < N → lyC (r + i) (σ (r + i)) = some (c i)) : xx_blk (xx_up (setI I σ h) b F) r N c = xx_up (setI ((r, N) :: I) σ h) b F := by rw [blk_up hb, setI_blk hc]
theorem ob_free {I : List (Nat × Nat)} {σ : XS9} {h : XH} {b r : Nat} {F : XC} (hb : r ≠ b) (hI : inI I r = false) (hf : h r = none) : xx_up (setI I σ h) b F r = none := by
  rw [xx_up_ne hb]
  unfold setI
  rw [hI]
  exact hf
theorem ob_done {I : List (Nat × Nat)} {σ σ' : XS9} {h : XH} {b : Nat} {F : XC} (hF : lyC b (σ' b) = some F) (hI : ∀ q, inI I q = true → q ≠ b → σ' q = σ q) : xx_up (setI I σ h) b F = setI ((b, 1) :: I) σ' h := by
  funext q
  unfold xx_up setI
  rw [inI_cons]
  by_cases e : q = b
  · subst e
    rw [if_pos rfl, decide_eq_true (show q ≤ q ∧ q < q + 1 by omega), Bool.true_or, if_pos rfl, hF]
  · rw [if_neg e, decide_eq_false (show ¬ (b ≤ q ∧ q < b + 1) by omega), Bool.false_or]
    by_cases e2 : inI I q = true
    · rw [if_pos e2, if_pos e2, hI q e2 e]
    · rw [if_neg e2, if_neg e2]
theorem setI_nil {σ : XS9} {h : XH} : setI [] σ h = h := rfl
def z9 : XS9 := fun _ _ => 0
def s0C : XS9 := fun q k => if q = 1001 then (if k = 10 then 5 else if k = 11 then 1 else 0) else if q = 1042 then (if k = 0 then 0 else -1) else if (1051 ≤ q ∧ q ≤ 1114) ∨ q = 1043 ∨ q = 1040 ∨ (1141 ≤ q ∧ q ≤ 1145) then -1 else if q = 1000 ∧ k = 8 then 10 else 0
theorem s0C_z {q : Nat} (h1 : q ≠ 1001) (h2 : q ≠ 1042) (h3 : ¬ ((1051 ≤ q ∧ q ≤ 1114) ∨ q = 1043 ∨ q = 1040 ∨ (1141 ≤ q ∧ q ≤ 1145))) (h4 : q ≠ 1000) : s0C q = z9 q := by
  funext k
  unfold s0C z9
  rw [if_neg h1, if_neg h2, if_neg h3, if_neg (fun e => h4 e.1)]
theorem xx_cell.alter {D : XD} {ρ : Nat → Nat} {ow : Nat → Option Nat} {r t N : Nat} {F F2 : Nat → Value} {H : Heap} (h : xx_cell D ρ ow r (t, N, F) H) (hF : ∀ j, j < N → F j = F2 j) : xx_cell D ρ ow r (t, N, F2) H :=
  ⟨fun q => (h.1 q).ren rfl (fun j hj => congrArg (xx_v ρ) (hF j hj).symm), fun q => (h.2 q).ren rfl (fun _ z => z) (fun j hj => congrArg (xx_v ρ) (hF j hj).symm)⟩
theorem sw_alter {Y : XY} {k n pc r t N : Nat} {h : XH} {ls st : List Value} {F F2 : Nat → Value} (hc : h r = some (t, N, F)) (hF : ∀ j, j < N → F j = F2 j) (kk : SW Y k n (xx_up h r (t, N, F2)) pc ls st) : SW Y k n h pc ls st := by
  intro ρ ow H locs cells slots lsA r9
  have hd : ∀ a, (h a).isSome = true → (xx_up h r (t, N, F2) a).isSome = true := fun a ha => xx_up_in ha
  obtain ⟨s1, s2, s3, s4, s5⟩ := r9.1
  refine kk ρ ow H locs cells slots lsA (r9.view ⟨s1, s2, s3, fun q c hq => ?_, fun q c j hq hj => ?_⟩ (fun a _ => rfl) (fun a ha => hd a (r9.2.1 a ha).1) (fun v hv => xx_in_of hd (r9.lcl v hv)) (fun v hv => xx_in_of hd (r9.stk v hv)))
  · by_cases e : q = r
    · subst e
      rw [xx_up_eq] at hq
      cases hq
      exact ⟨(s4 q _ hc).1, (s4 q _ hc).2.alter hF⟩
    · rw [xx_up_ne e] at hq
      exact s4 q c hq
  · by_cases e : q = r
    · subst e
      rw [xx_up_eq] at hq
      cases hq
      have := s5 q _ j hc hj
      rw [show (t, N, F).2.2 j = F2 j from hF j hj] at this
      exact xx_in_of hd this
    · rw [xx_up_ne e] at hq
      exact xx_in_of hd (s5 q c j hq hj)
/-- the cells of the class are free -/
def xx_fC (h : XH) : Prop := ∀ q, 1000 ≤ q → q < 4000 → h q = none
theorem ct_X5_init {l : Launch} {h : XH} (hl : l.stackTraces = false) (hf : ∀ q, 1150 ≤ q → q < 1154 → q ≠ 1006 → h q = none) (hb : h 1006 = some (11, 5, fun j => defaultValue (tyX5 j))) : XEx l m_X5_init 1 4 36 [.ref 1006] h none (setI [(1006, 1), (1153, 1), (1152, 1), (1151, 1), (1150, 1)] s0C h) := by
  refine XMet.of hl rfl rfl (Nat.le_of_ble_eq_true rfl) (fun Y O hh hQ => ?_)
  rw [show h = xx_up (setI [] z9 h) 1006 (11, 5, fun j => defaultValue (tyX5 j)) from (xx_up_self hb).symm]
  show SW Y 4 36 _ 0 [.ref 1006] []
  refine sw_aload_n O (xx_dt dd_X5_init 0 rfl) rfl ?_
  refine sw_objInit O oi_X5_3 (xx_dt dd_X5_init 1 rfl) (by omega) (Nat.le_of_ble_eq_true rfl) ?_
  refine sw_aload_n O (xx_dt dd_X5_init 2 rfl) rfl ?_
  refine sw_bipush (x := 10) O (xx_dt dd_X5_init 3 rfl) (by decide) ?_
  refine sw_newarray (k := 3) (n := 26) (t := 100) (N := 10) (r := 1150) O (xx_dt dd_X5_init 4 rfl) ⟨⟨by omega, by omega⟩, rfl⟩ ac_int (by decide) (by decide) (by decide) (ob_free (by decide) (by decide) (hf 1150 (by omega) (by omega) (by omega))) (by omega) ?_
  rw [ob_new (by omega) (fun i hi => by obtain rfl : i = 0 := (by omega); rfl)]
  refine sw_putF (h2 := xx_up (setI [(1150, 1)] z9 h) 1006 (11, 5, updV (fun j => defaultValue (tyX5 j)) 0 (.ref 1150))) O (xx_dt dd_X5_init 5 rfl) cl_X5 fz_X5_9 (xx_up_eq _ _ _) (by decide) (by omega) rfl rfl (fun _ => ⟨rfl, rfl⟩) xx_up_up ?_
  refine sw_aload_n O (xx_dt dd_X5_init 6 rfl) rfl ?_
  refine sw_bipush (x := 10) O (xx_dt dd_X5_init 7 rfl) (by decide) ?_
  refine sw_newarray (k := 2) (n := 16) (t := 100) (N := 10) (r := 1151) O (xx_dt dd_X5_init 8 rfl) ⟨⟨by omega, by omega⟩, rfl⟩ ac_int (by decide) (by decide) (by decide) (ob_free (by decide) (by decide) (hf 1151 (by omega) (by omega) (by omega))) (by omega) ?_
  rw [ob_new (by omega) (fun i hi => by obtain rfl : i = 0 := (by omega); rfl)]
  refine sw_putF (h2 := xx_up (setI [(1151, 1), (1150, 1)] z9 h) 1006 (11, 5, updV (updV (fun j => defaultValue (tyX5 j)) 0 (.ref 1150)) 2 (.ref 1151))) O (xx_dt dd_X5_init 9 rfl) cl_X5 fz_X5_15 (xx_up_eq _ _ _) (by decide) (by omega) rfl rfl (fun _ => ⟨rfl, rfl⟩) xx_up_up ?_
  refine sw_aload_n O (xx_dt dd_X5_init 10 rfl) rfl ?_
  refine sw_bipush (x := 10) O (xx_dt dd_X5_init 11 rfl) (by decide) ?_
  refine sw_newarray (k := 1) (n := 6) (t := 100) (N := 10) (r := 1152) O (xx_dt dd_X5_init 12 rfl) ⟨⟨by omega, by omega⟩, rfl⟩ ac_int (by decide) (by decide) (by decide) (ob_free (by decide) (by decide) (hf 1152 (by omega) (by omega) (by omega))) (by omega) ?_
  rw [ob_new (by omega) (fun i hi => by obtain rfl : i = 0 := (by omega); rfl)]
  refine sw_putF (h2 := xx_up (setI [(1152, 1), (1151, 1), (1150, 1)] z9 h) 1006 (11, 5, updV (updV (updV (fun j => defaultValue (tyX5 j)) 0 (.ref 1150)) 2 (.ref 1151)) 3 (.ref 1152))) O (xx_dt dd_X5_init 13 rfl) cl_X5 fz_X5_18 (xx_up_eq _ _ _) (by decide) (by omega) rfl rfl (fun _ => ⟨rfl, rfl⟩) xx_up_up ?_
  refine sw_aload_n O (xx_dt dd_X5_init 14 rfl) rfl ?_
  refine sw_bipush (x := 6) O (xx_dt dd_X5_init 15 rfl) (by decide) ?_
  refine sw_newarray (k := 0) (n := 0) (t := 100) (N := 6) (r := 1153) O (xx_dt dd_X5_init 16 rfl) ⟨⟨by omega, by omega⟩, rfl⟩ ac_int (by decide) (by decide) (by decide) (ob_free (by decide) (by decide) (hf 1153 (by omega) (by omega) (by omega))) (by omega) ?_
  rw [ob_new (by omega) (fun i hi => by obtain rfl : i = 0 := (by omega); rfl)]
  refine sw_putF (h2 := xx_up (setI [(1153, 1), (1152, 1), (1151, 1), (1150, 1)] z9 h) 1006 (11, 5, updV (updV (updV (updV (fun j => defaultValue (tyX5 j)) 0 (.ref 1150)) 2 (.ref 1151)) 3 (.ref 1152)) 4 (.ref 1153))) O (xx_dt dd_X5_init 17 rfl) cl_X5 fz_X5_21 (xx_up_eq _ _ _) (by decide) (by omega) rfl rfl (fun _ => ⟨rfl, rfl⟩) xx_up_up ?_
  refine sw_alter (r := 1006) (t := 11) (N := 5) (F2 := fun k => match k with | 0 => .ref (1150) | 1 => .int (s0C 1006 1) | 2 => .ref (1151) | 3 => .ref (1152) | 4 => .ref (1153) | _ => .null) (xx_up_eq _ _ _) (fun j hj => ?_) ?_
  · match j, hj with
    | 0, _ => rfl
    | 1, _ => rfl
    | 2, _ => rfl
    | 3, _ => rfl
    | 4, _ => rfl
  rw [xx_up_up, ob_done (σ' := s0C) rfl (fun q hq hne => by simp only [inI, List.any_cons, List.any_nil, Bool.or_false, Bool.or_eq_true, decide_eq_true_eq] at hq; exact s0C_z (by omega) (by omega) (by omega) (by omega))]
  exact sw_ret O (xx_dt dd_X5_init 18 rfl) rfl (by rw [hQ]; exact ⟨rfl, rfl⟩)
theorem ct_X6_init {l : Launch} {h : XH} (hl : l.stackTraces = false) (hf : ∀ q, 1010 ≤ q → q < 1018 → q ≠ 1001 → h q = none) (hb : h 1001 = some (12, 12, fun j => defaultValue (tyX6 j))) : XEx l m_X6_init 1 8 44 [.ref 1001] h none (setI [(1001, 1), (1017, 1), (1016, 1), (1015, 1), (1014, 1), (1013, 1), (1012, 1), (1011, 1), (1010, 1)] s0C h) := by
  refine XMet.of hl rfl rfl (Nat.le_of_ble_eq_true rfl) (fun Y O hh hQ => ?_)
  rw [show h = xx_up (setI [] z9 h) 1001 (12, 12, fun j => defaultValue (tyX6 j)) from (xx_up_self hb).symm]
  show SW Y 8 44 _ 0 [.ref 1001] []
  refine sw_aload_n O (xx_dt dd_X6_init 0 rfl) rfl ?_
  refine sw_objInit O oi_X6_3 (xx_dt dd_X6_init 1 rfl) (by omega) (Nat.le_of_ble_eq_true rfl) ?_
  refine sw_aload_n O (xx_dt dd_X6_init 2 rfl) rfl ?_
  refine sw_iconst (x := 5) O (xx_dt dd_X6_init 3 rfl) (by decide) ?_
  refine sw_newarray (k := 7) (n := 39) (t := 100) (N := 5) (r := 1010) O (xx_dt dd_X6_init 4 rfl) ⟨⟨by omega, by omega⟩, rfl⟩ ac_int (by decide) (by decide) (by decide) (ob_free (by decide) (by decide) (hf 1010 (by omega) (by omega) (by omega))) (by omega) ?_
  rw [ob_new (by omega) (fun i hi => by obtain rfl : i = 0 := (by omega); rfl)]
  refine sw_putF (h2 := xx_up (setI [(1010, 1)] z9 h) 1001 (12, 12, updV (fun j => defaultValue (tyX6 j)) 0 (.ref 1010))) O (xx_dt dd_X6_init 5 rfl) cl_X6 fz_X6_9 (xx_up_eq _ _ _) (by decide) (by omega) rfl rfl (fun _ => ⟨rfl, rfl⟩) xx_up_up ?_
  refine sw_aload_n O (xx_dt dd_X6_init 6 rfl) rfl ?_
  refine sw_iconst (x := 5) O (xx_dt dd_X6_init 7 rfl) (by decide) ?_
  refine sw_newarray (k := 6) (n := 34) (t := 100) (N := 5) (r := 1011) O (xx_dt dd_X6_init 8 rfl) ⟨⟨by omega, by omega⟩, rfl⟩ ac_int (by decide) (by decide) (by decide) (ob_free (by decide) (by decide) (hf 1011 (by omega) (by omega) (by omega))) (by omega) ?_
  rw [ob_new (by omega) (fun i hi => by obtain rfl : i = 0 := (by omega); rfl)]
  refine sw_putF (h2 := xx_up (setI [(1011, 1), (1010, 1)] z9 h) 1001 (12, 12, updV (updV (fun j => defaultValue (tyX6 j)) 0 (.ref 1010)) 1 (.ref 1011))) O (xx_dt dd_X6_init 9 rfl) cl_X6 fz_X6_15 (xx_up_eq _ _ _) (by decide) (by omega) rfl rfl (fun _ => ⟨rfl, rfl⟩) xx_up_up ?_
  refine sw_aload_n O (xx_dt dd_X6_init 10 rfl) rfl ?_
  refine sw_iconst (x := 5) O (xx_dt dd_X6_init 11 rfl) (by decide) ?_
  refine sw_newarray (k := 5) (n := 29) (t := 100) (N := 5) (r := 1012) O (xx_dt dd_X6_init 12 rfl) ⟨⟨by omega, by omega⟩, rfl⟩ ac_int (by decide) (by decide) (by decide) (ob_free (by decide) (by decide) (hf 1012 (by omega) (by omega) (by omega))) (by omega) ?_
  rw [ob_new (by omega) (fun i hi => by obtain rfl : i = 0 := (by omega); rfl)]
  refine sw_putF (h2 := xx_up (setI [(1012, 1), (1011, 1), (1010, 1)] z9 h) 1001 (12, 12, updV (updV (updV (fun j => defaultValue (tyX6 j)) 0 (.ref 1010)) 1 (.ref 1011)) 2 (.ref 1012))) O (xx_dt dd_X6_init 13 rfl) cl_X6 fz_X6_18 (xx_up_eq _ _ _) (by decide) (by omega) rfl rfl (fun _ => ⟨rfl, rfl⟩) xx_up_up ?_
  refine sw_aload_n O (xx_dt dd_X6_init 14 rfl) rfl ?_
  refine sw_iconst (x := 5) O (xx_dt dd_X6_init 15 rfl) (by decide) ?_
  refine sw_newarray (k := 4) (n := 24) (t := 100) (N := 5) (r := 1013) O (xx_dt dd_X6_init 16 rfl) ⟨⟨by omega, by omega⟩, rfl⟩ ac_int (by decide) (by decide) (by decide) (ob_free (by decide) (by decide) (hf 1013 (by omega) (by omega) (by omega))) (by omega) ?_
  rw [ob_new (by omega) (fun i hi => by obtain rfl : i = 0 := (by omega); rfl)]
  refine sw_putF (h2 := xx_up (setI [(1013, 1), (1012, 1), (1011, 1), (1010, 1)] z9 h) 1001 (12, 12, updV (updV (updV (updV (fun j => defaultValue (tyX6 j)) 0 (.ref 1010)) 1 (.ref 1011)) 2 (.ref 1012)) 3 (.ref 1013))) O (xx_dt dd_X6_init 17 rfl) cl_X6 fz_X6_21 (xx_up_eq _ _ _) (by decide) (by omega) rfl rfl (fun _ => ⟨rfl, rfl⟩) xx_up_up ?_
  refine sw_aload_n O (xx_dt dd_X6_init 18 rfl) rfl ?_
  refine sw_bipush (x := 6) O (xx_dt dd_X6_init 19 rfl) (by decide) ?_
  refine sw_newarray (k := 3) (n := 18) (t := 100) (N := 6) (r := 1014) O (xx_dt dd_X6_init 20 rfl) ⟨⟨by omega, by omega⟩, rfl⟩ ac_int (by decide) (by decide) (by decide) (ob_free (by decide) (by decide) (hf 1014 (by omega) (by omega) (by omega))) (by omega) ?_
  rw [ob_new (by omega) (fun i hi => by obtain rfl : i = 0 := (by omega); rfl)]
  refine sw_putF (h2 := xx_up (setI [(1014, 1), (1013, 1), (1012, 1), (1011, 1), (1010, 1)] z9 h) 1001 (12, 12, updV (updV (updV (updV (updV (fun j => defaultValue (tyX6 j)) 0 (.ref 1010)) 1 (.ref 1011)) 2 (.ref 1012)) 3 (.ref 1013)) 5 (.ref 1014))) O (xx_dt dd_X6_init 21 rfl) cl_X6 fz_X6_24 (xx_up_eq _ _ _) (by decide) (by omega) rfl rfl (fun _ => ⟨rfl, rfl⟩) xx_up_up ?_
  refine sw_aload_n O (xx_dt dd_X6_init 22 rfl) rfl ?_
  refine sw_bipush (x := 6) O (xx_dt dd_X6_init 23 rfl) (by decide) ?_
  refine sw_newarray (k := 2) (n := 12) (t := 100) (N := 6) (r := 1015) O (xx_dt dd_X6_init 24 rfl) ⟨⟨by omega, by omega⟩, rfl⟩ ac_int (by decide) (by decide) (by decide) (ob_free (by decide) (by decide) (hf 1015 (by omega) (by omega) (by omega))) (by omega) ?_
  rw [ob_new (by omega) (fun i hi => by obtain rfl : i = 0 := (by omega); rfl)]
  refine sw_putF (h2 := xx_up (setI [(1015, 1), (1014, 1), (1013, 1), (1012, 1), (1011, 1), (1010, 1)] z9 h) 1001 (12, 12, updV (updV (updV (updV (updV (updV (fun j => defaultValue (tyX6 j)) 0 (.ref 1010)) 1 (.ref 1011)) 2 (.ref 1012)) 3 (.ref 1013)) 5 (.ref 1014)) 6 (.ref 1015))) O (xx_dt dd_X6_init 25 rfl) cl_X6 fz_X6_27 (xx_up_eq _ _ _) (by decide) (by omega) rfl rfl (fun _ => ⟨rfl, rfl⟩) xx_up_up ?_
  refine sw_aload_n O (xx_dt dd_X6_init 26 rfl) rfl ?_
  refine sw_bipush (x := 6) O (xx_dt dd_X6_init 27 rfl) (by decide) ?_
  refine sw_newarray (k := 1) (n := 6) (t := 100) (N := 6) (r := 1016) O (xx_dt dd_X6_init 28 rfl) ⟨⟨by omega, by omega⟩, rfl⟩ ac_int (by decide) (by decide) (by decide) (ob_free (by decide) (by decide) (hf 1016 (by omega) (by omega) (by omega))) (by omega) ?_
  rw [ob_new (by omega) (fun i hi => by obtain rfl : i = 0 := (by omega); rfl)]
  refine sw_putF (h2 := xx_up (setI [(1016, 1), (1015, 1), (1014, 1), (1013, 1), (1012, 1), (1011, 1), (1010, 1)] z9 h) 1001 (12, 12, updV (updV (updV (updV (updV (updV (updV (fun j => defaultValue (tyX6 j)) 0 (.ref 1010)) 1 (.ref 1011)) 2 (.ref 1012)) 3 (.ref 1013)) 5 (.ref 1014)) 6 (.ref 1015)) 7 (.ref 1016))) O (xx_dt dd_X6_init 29 rfl) cl_X6 fz_X6_30 (xx_up_eq _ _ _) (by decide) (by omega) rfl rfl (fun _ => ⟨rfl, rfl⟩) xx_up_up ?_
  refine sw_aload_n O (xx_dt dd_X6_init 30 rfl) rfl ?_
  refine sw_bipush (x := 6) O (xx_dt dd_X6_init 31 rfl) (by decide) ?_
  refine sw_newarray (k := 0) (n := 0) (t := 100) (N := 6) (r := 1017) O (xx_dt dd_X6_init 32 rfl) ⟨⟨by omega, by omega⟩, rfl⟩ ac_int (by decide) (by decide) (by decide) (ob_free (by decide) (by decide) (hf 1017 (by omega) (by omega) (by omega))) (by omega) ?_
  rw [ob_new (by omega) (fun i hi => by obtain rfl : i = 0 := (by omega); rfl)]
  refine sw_putF (h2 := xx_up (setI [(1017, 1), (1016, 1), (1015, 1), (1014, 1), (1013, 1), (1012, 1), (1011, 1), (1010, 1)] z9 h) 1001 (12, 12, updV (updV (updV (updV (updV (updV (updV (updV (fun j => defaultValue (tyX6 j)) 0 (.ref 1010)) 1 (.ref 1011)) 2 (.ref 1012)) 3 (.ref 1013)) 5 (.ref 1014)) 6 (.ref 1015)) 7 (.ref 1016)) 8 (.ref 1017))) O (xx_dt dd_X6_init 33 rfl) cl_X6 fz_X6_33 (xx_up_eq _ _ _) (by decide) (by omega) rfl rfl (fun _ => ⟨rfl, rfl⟩) xx_up_up ?_
  refine sw_aload_n O (xx_dt dd_X6_init 34 rfl) rfl ?_
  refine sw_iconst (x := 5) O (xx_dt dd_X6_init 35 rfl) (by decide) ?_
  refine sw_put (h2 := xx_up (setI [(1017, 1), (1016, 1), (1015, 1), (1014, 1), (1013, 1), (1012, 1), (1011, 1), (1010, 1)] z9 h) 1001 (12, 12, updV (updV (updV (updV (updV (updV (updV (updV (updV (fun j => defaultValue (tyX6 j)) 0 (.ref 1010)) 1 (.ref 1011)) 2 (.ref 1012)) 3 (.ref 1013)) 5 (.ref 1014)) 6 (.ref 1015)) 7 (.ref 1016)) 8 (.ref 1017)) 10 (.int 5))) O (xx_dt dd_X6_init 36 rfl) cl_X6 fl_X6_36 (xx_up_eq _ _ _) (by decide) (by omega) rfl (fun _ => ⟨rfl, rfl⟩) xx_up_up ?_
  refine sw_aload_n O (xx_dt dd_X6_init 37 rfl) rfl ?_
  refine sw_iconst (x := 1) O (xx_dt dd_X6_init 38 rfl) (by decide) ?_
  refine sw_put (h2 := xx_up (setI [(1017, 1), (1016, 1), (1015, 1), (1014, 1), (1013, 1), (1012, 1), (1011, 1), (1010, 1)] z9 h) 1001 (12, 12, updV (updV (updV (updV (updV (updV (updV (updV (updV (updV (fun j => defaultValue (tyX6 j)) 0 (.ref 1010)) 1 (.ref 1011)) 2 (.ref 1012)) 3 (.ref 1013)) 5 (.ref 1014)) 6 (.ref 1015)) 7 (.ref 1016)) 8 (.ref 1017)) 10 (.int 5)) 11 (.int 1))) O (xx_dt dd_X6_init 39 rfl) cl_X6 fl_X6_40 (xx_up_eq _ _ _) (by decide) (by omega) rfl (fun _ => ⟨rfl, rfl⟩) xx_up_up ?_
  refine sw_alter (r := 1001) (t := 12) (N := 12) (F2 := fun k => match k with | 0 => .ref (1010) | 1 => .ref (1011) | 2 => .ref (1012) | 3 => .ref (1013) | 4 => .int (s0C 1001 4) | 5 => .ref (1014) | 6 => .ref (1015) | 7 => .ref (1016) | 8 => .ref (1017) | 9 => .int (s0C 1001 9) | 10 => .int (s0C 1001 10) | 11 => .int (s0C 1001 11) | _ => .null) (xx_up_eq _ _ _) (fun j hj => ?_) ?_
  · match j, hj with
    | 0, _ => rfl
    | 1, _ => rfl
    | 2, _ => rfl
    | 3, _ => rfl
    | 4, _ => rfl
    | 5, _ => rfl
    | 6, _ => rfl
    | 7, _ => rfl
    | 8, _ => rfl
    | 9, _ => rfl
    | 10, _ => rfl
    | 11, _ => rfl
  rw [xx_up_up, ob_done (σ' := s0C) rfl (fun q hq hne => by simp only [inI, List.any_cons, List.any_nil, Bool.or_false, Bool.or_eq_true, decide_eq_true_eq] at hq; exact s0C_z (by omega) (by omega) (by omega) (by omega))]
  exact sw_ret O (xx_dt dd_X6_init 40 rfl) rfl (by rw [hQ]; exact ⟨rfl, rfl⟩)
theorem ct_X4_init {l : Launch} {h : XH} (hl : l.stackTraces = false) (hf : ∀ q, 1130 ≤ q → q < 1134 → q ≠ 1004 → h q = none) (hb : h 1004 = some (10, 1, fun j => defaultValue (tyX4 j))) : XEx l m_X4_init 1 4 21 [.ref 1004] h none (setI [(1004, 1), (1130, 4)] s0C h) := by
  refine XMet.of hl rfl rfl (Nat.le_of_ble_eq_true rfl) (fun Y O hh hQ => ?_)
  have fr_1130 : ∀ {q : Nat}, q < 4 → inI [] (1130 + q) = false := by decide
  have mb_1130 : ∀ i, i < 4 → lyC (1130 + i) (z9 (1130 + i)) = some (if i = 0 then (103, 3, fun q => .ref (1130 + 1 + q)) else (100, 6, fun _ => .int 0)) := by
    intro i hi
    cases i with
    | zero => rfl
    | succ k =>
      have h9 := lr_1130 z9 (fun _ => none) (k := k) (by omega)
      unfold setC at h9
      rw [if_pos (by omega)] at h9
      rw [show 1130 + (k + 1) = 1131 + k by omega, if_neg (by omega)]
      exact h9
  rw [show h = xx_up (setI [] z9 h) 1004 (10, 1, fun j => defaultValue (tyX4 j)) from (xx_up_self hb).symm]
  show SW Y 4 21 _ 0 [.ref 1004] []
  refine sw_aload_n O (xx_dt dd_X4_init 0 rfl) rfl ?_
  refine sw_objInit O oi_X4_3 (xx_dt dd_X4_init 1 rfl) (by omega) (Nat.le_of_ble_eq_true rfl) ?_
  refine sw_aload_n O (xx_dt dd_X4_init 2 rfl) rfl ?_
  refine sw_iconst (x := 3) O (xx_dt dd_X4_init 3 rfl) (by decide) ?_
  refine sw_bipush (x := 6) O (xx_dt dd_X4_init 4 rfl) (by decide) ?_
  refine sw_multi (k := 0) (n := 0) (N := 3) (K := 6) (r := 1130) O (xx_dt dd_X4_init 5 rfl) mu_X4_9 (by decide) (by decide) (by decide) (by decide) (by omega) (by omega) (fun q hq => ob_free (by omega) (fr_1130 hq) (hf _ (by omega) (by omega) (by omega))) (by omega) ?_
  rw [ob_new (by omega) mb_1130]
  refine sw_putF (h2 := xx_up (setI [(1130, 4)] z9 h) 1004 (10, 1, updV (fun j => defaultValue (tyX4 j)) 0 (.ref 1130))) O (xx_dt dd_X4_init 6 rfl) cl_X4 fz_X4_11 (xx_up_eq _ _ _) (by decide) (by omega) rfl rfl (fun _ => ⟨rfl, rfl⟩) xx_up_up ?_
  refine sw_alter (r := 1004) (t := 10) (N := 1) (F2 := fun k => match k with | 0 => .ref (1130) | _ => .null) (xx_up_eq _ _ _) (fun j hj => ?_) ?_
  · match j, hj with
    | 0, _ => rfl
  rw [xx_up_up, ob_done (σ' := s0C) rfl (fun q hq hne => by simp only [inI, List.any_cons, List.any_nil, Bool.or_false, Bool.or_eq_true, decide_eq_true_eq] at hq; exact s0C_z (by omega) (by omega) (by omega) (by omega))]
  exact sw_ret O (xx_dt dd_X4_init 7 rfl) rfl (by rw [hQ]; exact ⟨rfl, rfl⟩)
theorem ct_X1_init_2000 {l : Launch} {h : XH} (hl : l.stackTraces = false) (hf : ∀ q, 2001 ≤ q → q < 2400 → q ≠ 2000 → h q = none) (hb : h 2000 = some (7, 13, fun j => defaultValue (tyX1 j))) : XEx l m_X1_init 1 191 1355 [.ref 2000] h none (setI [(2000, 1), (2008, 1), (2007, 1), (2300, 61), (2200, 61), (2100, 61), (2006, 1), (2005, 1), (2004, 1), (2003, 1), (2002, 1), (2001, 1)] s0C h) := by
  refine XMet.of hl rfl rfl (Nat.le_of_ble_eq_true rfl) (fun Y O hh hQ => ?_)
  have fr_2100 : ∀ {q : Nat}, q < 61 → inI [(2006, 1), (2005, 1), (2004, 1), (2003, 1), (2002, 1), (2001, 1)] (2100 + q) = false := by decide
  have mb_2100 : ∀ i, i < 61 → lyC (2100 + i) (z9 (2100 + i)) = some (if i = 0 then (103, 60, fun q => .ref (2100 + 1 + q)) else (100, 5, fun _ => .int 0)) := by
    intro i hi
    cases i with
    | zero => rfl
    | succ k =>
      have h9 := lkr_100 z9 (fun _ => none) (b := 2000) (.inl rfl) (k := k) (by omega)
      unfold setC at h9
      rw [if_pos (by omega)] at h9
      rw [show 2100 + (k + 1) = 2000 + 101 + k by omega, if_neg (by omega)]
      exact h9
  have fr_2200 : ∀ {q : Nat}, q < 61 → inI [(2100, 61), (2006, 1), (2005, 1), (2004, 1), (2003, 1), (2002, 1), (2001, 1)] (2200 + q) = false := by decide
  have mb_2200 : ∀ i, i < 61 → lyC (2200 + i) (z9 (2200 + i)) = some (if i = 0 then (103, 60, fun q => .ref (2200 + 1 + q)) else (100, 6, fun _ => .int 0)) := by
    intro i hi
    cases i with
    | zero => rfl
    | succ k =>
      have h9 := lkr_200 z9 (fun _ => none) (b := 2000) (.inl rfl) (k := k) (by omega)
      unfold setC at h9
      rw [if_pos (by omega)] at h9
      rw [show 2200 + (k + 1) = 2000 + 201 + k by omega, if_neg (by omega)]
      exact h9
  have fr_2300 : ∀ {q : Nat}, q < 61 → inI [(2200, 61), (2100, 61), (2006, 1), (2005, 1), (2004, 1), (2003, 1), (2002, 1), (2001, 1)] (2300 + q) = false := by decide
  have mb_2300 : ∀ i, i < 61 → lyC (2300 + i) (z9 (2300 + i)) = some (if i = 0 then (103, 60, fun q => .ref (2300 + 1 + q)) else (100, 6, fun _ => .int 0)) := by
    intro i hi
    cases i with
    | zero => rfl
    | succ k =>
      have h9 := lkr_300 z9 (fun _ => none) (b := 2000) (.inl rfl) (k := k) (by omega)
      unfold setC at h9
      rw [if_pos (by omega)] at h9
      rw [show 2300 + (k + 1) = 2000 + 301 + k by omega, if_neg (by omega)]
      exact h9
  rw [show h = xx_up (setI [] z9 h) 2000 (7, 13, fun j => defaultValue (tyX1 j)) from (xx_up_self hb).symm]
  show SW Y 191 1355 _ 0 [.ref 2000] []
  refine sw_aload_n O (xx_dt dd_X1_init 0 rfl) rfl ?_
  refine sw_objInit O oi_X1_3 (xx_dt dd_X1_init 1 rfl) (by omega) (Nat.le_of_ble_eq_true rfl) ?_
  refine sw_aload_n O (xx_dt dd_X1_init 2 rfl) rfl ?_
  refine sw_iconst (x := 5) O (xx_dt dd_X1_init 3 rfl) (by decide) ?_
  refine sw_newarray (k := 190) (n := 1350) (t := 100) (N := 5) (r := 2001) O (xx_dt dd_X1_init 4 rfl) ⟨⟨by omega, by omega⟩, rfl⟩ ac_int (by decide) (by decide) (by decide) (ob_free (by decide) (by decide) (hf 2001 (by omega) (by omega) (by omega))) (by omega) ?_
  rw [ob_new (by omega) (fun i hi => by obtain rfl : i = 0 := (by omega); rfl)]
  refine sw_putF (h2 := xx_up (setI [(2001, 1)] z9 h) 2000 (7, 13, updV (fun j => defaultValue (tyX1 j)) 0 (.ref 2001))) O (xx_dt dd_X1_init 5 rfl) cl_X1 fz_X1_9 (xx_up_eq _ _ _) (by decide) (by omega) rfl rfl (fun _ => ⟨rfl, rfl⟩) xx_up_up ?_
  refine sw_aload_n O (xx_dt dd_X1_init 6 rfl) rfl ?_
  refine sw_bipush (x := 6) O (xx_dt dd_X1_init 7 rfl) (by decide) ?_
  refine sw_newarray (k := 189) (n := 1344) (t := 100) (N := 6) (r := 2002) O (xx_dt dd_X1_init 8 rfl) ⟨⟨by omega, by omega⟩, rfl⟩ ac_int (by decide) (by decide) (by decide) (ob_free (by decide) (by decide) (hf 2002 (by omega) (by omega) (by omega))) (by omega) ?_
  rw [ob_new (by omega) (fun i hi => by obtain rfl : i = 0 := (by omega); rfl)]
  refine sw_putF (h2 := xx_up (setI [(2002, 1), (2001, 1)] z9 h) 2000 (7, 13, updV (updV (fun j => defaultValue (tyX1 j)) 0 (.ref 2001)) 1 (.ref 2002))) O (xx_dt dd_X1_init 9 rfl) cl_X1 fz_X1_15 (xx_up_eq _ _ _) (by decide) (by omega) rfl rfl (fun _ => ⟨rfl, rfl⟩) xx_up_up ?_
  refine sw_aload_n O (xx_dt dd_X1_init 10 rfl) rfl ?_
  refine sw_bipush (x := 6) O (xx_dt dd_X1_init 11 rfl) (by decide) ?_
  refine sw_newarray (k := 188) (n := 1338) (t := 100) (N := 6) (r := 2003) O (xx_dt dd_X1_init 12 rfl) ⟨⟨by omega, by omega⟩, rfl⟩ ac_int (by decide) (by decide) (by decide) (ob_free (by decide) (by decide) (hf 2003 (by omega) (by omega) (by omega))) (by omega) ?_
  rw [ob_new (by omega) (fun i hi => by obtain rfl : i = 0 := (by omega); rfl)]
  refine sw_putF (h2 := xx_up (setI [(2003, 1), (2002, 1), (2001, 1)] z9 h) 2000 (7, 13, updV (updV (updV (fun j => defaultValue (tyX1 j)) 0 (.ref 2001)) 1 (.ref 2002)) 2 (.ref 2003))) O (xx_dt dd_X1_init 13 rfl) cl_X1 fz_X1_18 (xx_up_eq _ _ _) (by decide) (by omega) rfl rfl (fun _ => ⟨rfl, rfl⟩) xx_up_up ?_
  refine sw_aload_n O (xx_dt dd_X1_init 14 rfl) rfl ?_
  refine sw_bipush (x := 6) O (xx_dt dd_X1_init 15 rfl) (by decide) ?_
  refine sw_newarray (k := 187) (n := 1332) (t := 100) (N := 6) (r := 2004) O (xx_dt dd_X1_init 16 rfl) ⟨⟨by omega, by omega⟩, rfl⟩ ac_int (by decide) (by decide) (by decide) (ob_free (by decide) (by decide) (hf 2004 (by omega) (by omega) (by omega))) (by omega) ?_
  rw [ob_new (by omega) (fun i hi => by obtain rfl : i = 0 := (by omega); rfl)]
  refine sw_putF (h2 := xx_up (setI [(2004, 1), (2003, 1), (2002, 1), (2001, 1)] z9 h) 2000 (7, 13, updV (updV (updV (updV (fun j => defaultValue (tyX1 j)) 0 (.ref 2001)) 1 (.ref 2002)) 2 (.ref 2003)) 3 (.ref 2004))) O (xx_dt dd_X1_init 17 rfl) cl_X1 fz_X1_21 (xx_up_eq _ _ _) (by decide) (by omega) rfl rfl (fun _ => ⟨rfl, rfl⟩) xx_up_up ?_
  refine sw_aload_n O (xx_dt dd_X1_init 18 rfl) rfl ?_
  refine sw_bipush (x := 6) O (xx_dt dd_X1_init 19 rfl) (by decide) ?_
  refine sw_newarray (k := 186) (n := 1326) (t := 100) (N := 6) (r := 2005) O (xx_dt dd_X1_init 20 rfl) ⟨⟨by omega, by omega⟩, rfl⟩ ac_int (by decide) (by decide) (by decide) (ob_free (by decide) (by decide) (hf 2005 (by omega) (by omega) (by omega))) (by omega) ?_
  rw [ob_new (by omega) (fun i hi => by obtain rfl : i = 0 := (by omega); rfl)]
  refine sw_putF (h2 := xx_up (setI [(2005, 1), (2004, 1), (2003, 1), (2002, 1), (2001, 1)] z9 h) 2000 (7, 13, updV (updV (updV (updV (updV (fun j => defaultValue (tyX1 j)) 0 (.ref 2001)) 1 (.ref 2002)) 2 (.ref 2003)) 3 (.ref 2004)) 4 (.ref 2005))) O (xx_dt dd_X1_init 21 rfl) cl_X1 fz_X1_24 (xx_up_eq _ _ _) (by decide) (by omega) rfl rfl (fun _ => ⟨rfl, rfl⟩) xx_up_up ?_
  refine sw_aload_n O (xx_dt dd_X1_init 22 rfl) rfl ?_
  refine sw_bipush (x := 6) O (xx_dt dd_X1_init 23 rfl) (by decide) ?_
  refine sw_newarray (k := 185) (n := 1320) (t := 100) (N := 6) (r := 2006) O (xx_dt dd_X1_init 24 rfl) ⟨⟨by omega, by omega⟩, rfl⟩ ac_int (by decide) (by decide) (by decide) (ob_free (by decide) (by decide) (hf 2006 (by omega) (by omega) (by omega))) (by omega) ?_
  rw [ob_new (by omega) (fun i hi => by obtain rfl : i = 0 := (by omega); rfl)]
  refine sw_putF (h2 := xx_up (setI [(2006, 1), (2005, 1), (2004, 1), (2003, 1), (2002, 1), (2001, 1)] z9 h) 2000 (7, 13, updV (updV (updV (updV (updV (updV (fun j => defaultValue (tyX1 j)) 0 (.ref 2001)) 1 (.ref 2002)) 2 (.ref 2003)) 3 (.ref 2004)) 4 (.ref 2005)) 5 (.ref 2006))) O (xx_dt dd_X1_init 25 rfl) cl_X1 fz_X1_27 (xx_up_eq _ _ _) (by decide) (by omega) rfl rfl (fun _ => ⟨rfl, rfl⟩) xx_up_up ?_
  refine sw_aload_n O (xx_dt dd_X1_init 26 rfl) rfl ?_
  refine sw_bipush (x := 60) O (xx_dt dd_X1_init 27 rfl) (by decide) ?_
  refine sw_iconst (x := 5) O (xx_dt dd_X1_init 28 rfl) (by decide) ?_
  refine sw_multi (k := 124) (n := 960) (N := 60) (K := 5) (r := 2100) O (xx_dt dd_X1_init 29 rfl) mu_X1_30 (by decide) (by decide) (by decide) (by decide) (by omega) (by omega) (fun q hq => ob_free (by omega) (fr_2100 hq) (hf _ (by omega) (by omega) (by omega))) (by omega) ?_
  rw [ob_new (by omega) mb_2100]
  refine sw_putF (h2 := xx_up (setI [(2100, 61), (2006, 1), (2005, 1), (2004, 1), (2003, 1), (2002, 1), (2001, 1)] z9 h) 2000 (7, 13, updV (updV (updV (updV (updV (updV (updV (fun j => defaultValue (tyX1 j)) 0 (.ref 2001)) 1 (.ref 2002)) 2 (.ref 2003)) 3 (.ref 2004)) 4 (.ref 2005)) 5 (.ref 2006)) 6 (.ref 2100))) O (xx_dt dd_X1_init 30 rfl) cl_X1 fz_X1_32 (xx_up_eq _ _ _) (by decide) (by omega) rfl rfl (fun _ => ⟨rfl, rfl⟩) xx_up_up ?_
  refine sw_aload_n O (xx_dt dd_X1_init 31 rfl) rfl ?_
  refine sw_bipush (x := 60) O (xx_dt dd_X1_init 32 rfl) (by decide) ?_
  refine sw_bipush (x := 6) O (xx_dt dd_X1_init 33 rfl) (by decide) ?_
  refine sw_multi (k := 63) (n := 540) (N := 60) (K := 6) (r := 2200) O (xx_dt dd_X1_init 34 rfl) mu_X1_30 (by decide) (by decide) (by decide) (by decide) (by omega) (by omega) (fun q hq => ob_free (by omega) (fr_2200 hq) (hf _ (by omega) (by omega) (by omega))) (by omega) ?_
  rw [ob_new (by omega) mb_2200]
  refine sw_putF (h2 := xx_up (setI [(2200, 61), (2100, 61), (2006, 1), (2005, 1), (2004, 1), (2003, 1), (2002, 1), (2001, 1)] z9 h) 2000 (7, 13, updV (updV (updV (updV (updV (updV (updV (updV (fun j => defaultValue (tyX1 j)) 0 (.ref 2001)) 1 (.ref 2002)) 2 (.ref 2003)) 3 (.ref 2004)) 4 (.ref 2005)) 5 (.ref 2006)) 6 (.ref 2100)) 7 (.ref 2200))) O (xx_dt dd_X1_init 35 rfl) cl_X1 fz_X1_35 (xx_up_eq _ _ _) (by decide) (by omega) rfl rfl (fun _ => ⟨rfl, rfl⟩) xx_up_up ?_
  refine sw_aload_n O (xx_dt dd_X1_init 36 rfl) rfl ?_
  refine sw_bipush (x := 60) O (xx_dt dd_X1_init 37 rfl) (by decide) ?_
  refine sw_bipush (x := 6) O (xx_dt dd_X1_init 38 rfl) (by decide) ?_
  refine sw_multi (k := 2) (n := 120) (N := 60) (K := 6) (r := 2300) O (xx_dt dd_X1_init 39 rfl) mu_X1_30 (by decide) (by decide) (by decide) (by decide) (by omega) (by omega) (fun q hq => ob_free (by omega) (fr_2300 hq) (hf _ (by omega) (by omega) (by omega))) (by omega) ?_
  rw [ob_new (by omega) mb_2300]
  refine sw_putF (h2 := xx_up (setI [(2300, 61), (2200, 61), (2100, 61), (2006, 1), (2005, 1), (2004, 1), (2003, 1), (2002, 1), (2001, 1)] z9 h) 2000 (7, 13, updV (updV (updV (updV (updV (updV (updV (updV (updV (fun j => defaultValue (tyX1 j)) 0 (.ref 2001)) 1 (.ref 2002)) 2 (.ref 2003)) 3 (.ref 2004)) 4 (.ref 2005)) 5 (.ref 2006)) 6 (.ref 2100)) 7 (.ref 2200)) 8 (.ref 2300))) O (xx_dt dd_X1_init 40 rfl) cl_X1 fz_X1_38 (xx_up_eq _ _ _) (by decide) (by omega) rfl rfl (fun _ => ⟨rfl, rfl⟩) xx_up_up ?_
  refine sw_aload_n O (xx_dt dd_X1_init 41 rfl) rfl ?_
  refine sw_bipush (x := 60) O (xx_dt dd_X1_init 42 rfl) (by decide) ?_
  refine sw_newarray (k := 1) (n := 60) (t := 100) (N := 60) (r := 2007) O (xx_dt dd_X1_init 43 rfl) ⟨⟨by omega, by omega⟩, rfl⟩ ac_int (by decide) (by decide) (by decide) (ob_free (by decide) (by decide) (hf 2007 (by omega) (by omega) (by omega))) (by omega) ?_
  rw [ob_new (by omega) (fun i hi => by obtain rfl : i = 0 := (by omega); rfl)]
  refine sw_putF (h2 := xx_up (setI [(2007, 1), (2300, 61), (2200, 61), (2100, 61), (2006, 1), (2005, 1), (2004, 1), (2003, 1), (2002, 1), (2001, 1)] z9 h) 2000 (7, 13, updV (updV (updV (updV (updV (updV (updV (updV (updV (updV (fun j => defaultValue (tyX1 j)) 0 (.ref 2001)) 1 (.ref 2002)) 2 (.ref 2003)) 3 (.ref 2004)) 4 (.ref 2005)) 5 (.ref 2006)) 6 (.ref 2100)) 7 (.ref 2200)) 8 (.ref 2300)) 10 (.ref 2007))) O (xx_dt dd_X1_init 44 rfl) cl_X1 fz_X1_41 (xx_up_eq _ _ _) (by decide) (by omega) rfl rfl (fun _ => ⟨rfl, rfl⟩) xx_up_up ?_
  refine sw_aload_n O (xx_dt dd_X1_init 45 rfl) rfl ?_
  refine sw_bipush (x := 60) O (xx_dt dd_X1_init 46 rfl) (by decide) ?_
  refine sw_newarray (k := 0) (n := 0) (t := 100) (N := 60) (r := 2008) O (xx_dt dd_X1_init 47 rfl) ⟨⟨by omega, by omega⟩, rfl⟩ ac_int (by decide) (by decide) (by decide) (ob_free (by decide) (by decide) (hf 2008 (by omega) (by omega) (by omega))) (by omega) ?_
  rw [ob_new (by omega) (fun i hi => by obtain rfl : i = 0 := (by omega); rfl)]
  refine sw_putF (h2 := xx_up (setI [(2008, 1), (2007, 1), (2300, 61), (2200, 61), (2100, 61), (2006, 1), (2005, 1), (2004, 1), (2003, 1), (2002, 1), (2001, 1)] z9 h) 2000 (7, 13, updV (updV (updV (updV (updV (updV (updV (updV (updV (updV (updV (fun j => defaultValue (tyX1 j)) 0 (.ref 2001)) 1 (.ref 2002)) 2 (.ref 2003)) 3 (.ref 2004)) 4 (.ref 2005)) 5 (.ref 2006)) 6 (.ref 2100)) 7 (.ref 2200)) 8 (.ref 2300)) 10 (.ref 2007)) 11 (.ref 2008))) O (xx_dt dd_X1_init 48 rfl) cl_X1 fz_X1_44 (xx_up_eq _ _ _) (by decide) (by omega) rfl rfl (fun _ => ⟨rfl, rfl⟩) xx_up_up ?_
  refine sw_alter (r := 2000) (t := 7) (N := 13) (F2 := fun k => match k with | 0 => .ref (2000 + 1) | 1 => .ref (2000 + 2) | 2 => .ref (2000 + 3) | 3 => .ref (2000 + 4) | 4 => .ref (2000 + 5) | 5 => .ref (2000 + 6) | 6 => .ref (2000 + 100) | 7 => .ref (2000 + 200) | 8 => .ref (2000 + 300) | 9 => .int (s0C 2000 9) | 10 => .ref (2000 + 7) | 11 => .ref (2000 + 8) | 12 => .int (s0C 2000 12) | _ => .null) (xx_up_eq _ _ _) (fun j hj => ?_) ?_
  · match j, hj with
    | 0, _ => rfl
    | 1, _ => rfl
    | 2, _ => rfl
    | 3, _ => rfl
    | 4, _ => rfl
    | 5, _ => rfl
    | 6, _ => rfl
    | 7, _ => rfl
    | 8, _ => rfl
    | 9, _ => rfl
    | 10, _ => rfl
    | 11, _ => rfl
    | 12, _ => rfl
  rw [xx_up_up, ob_done (σ' := s0C) rfl (fun q hq hne => by simp only [inI, List.any_cons, List.any_nil, Bool.or_false, Bool.or_eq_true, decide_eq_true_eq] at hq; exact s0C_z (by omega) (by omega) (by omega) (by omega))]
  exact sw_ret O (xx_dt dd_X1_init 49 rfl) rfl (by rw [hQ]; exact ⟨rfl, rfl⟩)
theorem ct_X1_init_3000 {l : Launch} {h : XH} (hl : l.stackTraces = false) (hf : ∀ q, 3001 ≤ q → q < 3400 → q ≠ 3000 → h q = none) (hb : h 3000 = some (7, 13, fun j => defaultValue (tyX1 j))) : XEx l m_X1_init 1 191 1355 [.ref 3000] h none (setI [(3000, 1), (3008, 1), (3007, 1), (3300, 61), (3200, 61), (3100, 61), (3006, 1), (3005, 1), (3004, 1), (3003, 1), (3002, 1), (3001, 1)] s0C h) := by
  refine XMet.of hl rfl rfl (Nat.le_of_ble_eq_true rfl) (fun Y O hh hQ => ?_)
  have fr_3100 : ∀ {q : Nat}, q < 61 → inI [(3006, 1), (3005, 1), (3004, 1), (3003, 1), (3002, 1), (3001, 1)] (3100 + q) = false := by decide
  have mb_3100 : ∀ i, i < 61 → lyC (3100 + i) (z9 (3100 + i)) = some (if i = 0 then (103, 60, fun q => .ref (3100 + 1 + q)) else (100, 5, fun _ => .int 0)) := by
    intro i hi
    cases i with
    | zero => rfl
    | succ k =>
      have h9 := lkr_100 z9 (fun _ => none) (b := 3000) (.inr rfl) (k := k) (by omega)
      unfold setC at h9
      rw [if_pos (by omega)] at h9
      rw [show 3100 + (k + 1) = 3000 + 101 + k by omega, if_neg (by omega)]
      exact h9
  have fr_3200 : ∀ {q : Nat}, q < 61 → inI [(3100, 61), (3006, 1), (3005, 1), (3004, 1), (3003, 1), (3002, 1), (3001, 1)] (3200 + q) = false := by decide
  have mb_3200 : ∀ i, i < 61 → lyC (3200 + i) (z9 (3200 + i)) = some (if i = 0 then (103, 60, fun q => .ref (3200 + 1 + q)) else (100, 6, fun _ => .int 0)) := by
    intro i hi
    cases i with
    | zero => rfl
    | succ k =>
      have h9 := lkr_200 z9 (fun _ => none) (b := 3000) (.inr rfl) (k := k) (by omega)
      unfold setC at h9
      rw [if_pos (by omega)] at h9
      rw [show 3200 + (k + 1) = 3000 + 201 + k by omega, if_neg (by omega)]
      exact h9
  have fr_3300 : ∀ {q : Nat}, q < 61 → inI [(3200, 61), (3100, 61), (3006, 1), (3005, 1), (3004, 1), (3003, 1), (3002, 1), (3001, 1)] (3300 + q) = false := by decide
  have mb_3300 : ∀ i, i < 61 → lyC (3300 + i) (z9 (3300 + i)) = some (if i = 0 then (103, 60, fun q => .ref (3300 + 1 + q)) else (100, 6, fun _ => .int 0)) := by
    intro i hi
    cases i with
    | zero => rfl
    | succ k =>
      have h9 := lkr_300 z9 (fun _ => none) (b := 3000) (.inr rfl) (k := k) (by omega)
      unfold setC at h9
      rw [if_pos (by omega)] at h9
      rw [show 3300 + (k + 1) = 3000 + 301 + k by omega, if_neg (by omega)]
      exact h9
  rw [show h = xx_up (setI [] z9 h) 3000 (7, 13, fun j => defaultValue (tyX1 j)) from (xx_up_self hb).symm]
  show SW Y 191 1355 _ 0 [.ref 3000] []
  refine sw_aload_n O (xx_dt dd_X1_init 0 rfl) rfl ?_
  refine sw_objInit O oi_X1_3 (xx_dt dd_X1_init 1 rfl) (by omega) (Nat.le_of_ble_eq_true rfl) ?_
  refine sw_aload_n O (xx_dt dd_X1_init 2 rfl) rfl ?_
  refine sw_iconst (x := 5) O (xx_dt dd_X1_init 3 rfl) (by decide) ?_
  refine sw_newarray (k := 190) (n := 1350) (t := 100) (N := 5) (r := 3001) O (xx_dt dd_X1_init 4 rfl) ⟨⟨by omega, by omega⟩, rfl⟩ ac_int (by decide) (by decide) (by decide) (ob_free (by decide) (by decide) (hf 3001 (by omega) (by omega) (by omega))) (by omega) ?_
  rw [ob_new (by omega) (fun i hi => by obtain rfl : i = 0 := (by omega); rfl)]
  refine sw_putF (h2 := xx_up (setI [(3001, 1)] z9 h) 3000 (7, 13, updV (fun j => defaultValue (tyX1 j)) 0 (.ref 3001))) O (xx_dt dd_X1_init 5 rfl) cl_X1 fz_X1_9 (xx_up_eq _ _ _) (by decide) (by omega) rfl rfl (fun _ => ⟨rfl, rfl⟩) xx_up_up ?_
  refine sw_aload_n O (xx_dt dd_X1_init 6 rfl) rfl ?_
  refine sw_bipush (x := 6) O (xx_dt dd_X1_init 7 rfl) (by decide) ?_
  refine sw_newarray (k := 189) (n := 1344) (t := 100) (N := 6) (r := 3002) O (xx_dt dd_X1_init 8 rfl) ⟨⟨by omega, by omega⟩, rfl⟩ ac_int (by decide) (by decide) (by decide) (ob_free (by decide) (by decide) (hf 3002 (by omega) (by omega) (by omega))) (by omega) ?_
  rw [ob_new (by omega) (fun i hi => by obtain rfl : i = 0 := (by omega); rfl)]
  refine sw_putF (h2 := xx_up (setI [(3002, 1), (3001, 1)] z9 h) 3000 (7, 13, updV (updV (fun j => defaultValue (tyX1 j)) 0 (.ref 3001)) 1 (.ref 3002))) O (xx_dt dd_X1_init 9 rfl) cl_X1 fz_X1_15 (xx_up_eq _ _ _) (by decide) (by omega) rfl rfl (fun _ => ⟨rfl, rfl⟩) xx_up_up ?_
  refine sw_aload_n O (xx_dt dd_X1_init 10 rfl) rfl ?_
  refine sw_bipush (x := 6) O (xx_dt dd_X1_init 11 rfl) (by decide) ?_
  refine sw_newarray (k := 188) (n := 1338) (t := 100) (N := 6) (r := 3003) O (xx_dt dd_X1_init 12 rfl) ⟨⟨by omega, by omega⟩, rfl⟩ ac_int (by decide) (by decide) (by decide) (ob_free (by decide) (by decide) (hf 3003 (by omega) (by omega) (by omega))) (by omega) ?_
  rw [ob_new (by omega) (fun i hi => by obtain rfl : i = 0 := (by omega); rfl)]
  refine sw_putF (h2 := xx_up (setI [(3003, 1), (3002, 1), (3001, 1)] z9 h) 3000 (7, 13, updV (updV (updV (fun j => defaultValue (tyX1 j)) 0 (.ref 3001)) 1 (.ref 3002)) 2 (.ref 3003))) O (xx_dt dd_X1_init 13 rfl) cl_X1 fz_X1_18 (xx_up_eq _ _ _) (by decide) (by omega) rfl rfl (fun _ => ⟨rfl, rfl⟩) xx_up_up ?_
  refine sw_aload_n O (xx_dt dd_X1_init 14 rfl) rfl ?_
  refine sw_bipush (x := 6) O (xx_dt dd_X1_init 15 rfl) (by decide) ?_
  refine sw_newarray (k := 187) (n := 1332) (t := 100) (N := 6) (r := 3004) O (xx_dt dd_X1_init 16 rfl) ⟨⟨by omega, by omega⟩, rfl⟩ ac_int (by decide) (by decide) (by decide) (ob_free (by decide) (by decide) (hf 3004 (by omega) (by omega) (by omega))) (by omega) ?_
  rw [ob_new (by omega) (fun i hi => by obtain rfl : i = 0 := (by omega); rfl)]
  refine sw_putF (h2 := xx_up (setI [(3004, 1), (3003, 1), (3002, 1), (3001, 1)] z9 h) 3000 (7, 13, updV (updV (updV (updV (fun j => defaultValue (tyX1 j)) 0 (.ref 3001)) 1 (.ref 3002)) 2 (.ref 3003)) 3 (.ref 3004))) O (xx_dt dd_X1_init 17 rfl) cl_X1 fz_X1_21 (xx_up_eq _ _ _) (by decide) (by omega) rfl rfl (fun _ => ⟨rfl, rfl⟩) xx_up_up ?_
  refine sw_aload_n O (xx_dt dd_X1_init 18 rfl) rfl ?_
  refine sw_bipush (x := 6) O (xx_dt dd_X1_init 19 rfl) (by decide) ?_
  refine sw_newarray (k := 186) (n := 1326) (t := 100) (N := 6) (r := 3005) O (xx_dt dd_X1_init 20 rfl) ⟨⟨by omega, by omega⟩, rfl⟩ ac_int (by decide) (by decide) (by decide) (ob_free (by decide) (by decide) (hf 3005 (by omega) (by omega) (by omega))) (by omega) ?_
  rw [ob_new (by omega) (fun i hi => by obtain rfl : i = 0 := (by omega); rfl)]
  refine sw_putF (h2 := xx_up (setI [(3005, 1), (3004, 1), (3003, 1), (3002, 1), (3001, 1)] z9 h) 3000 (7, 13, updV (updV (updV (updV (updV (fun j => defaultValue (tyX1 j)) 0 (.ref 3001)) 1 (.ref 3002)) 2 (.ref 3003)) 3 (.ref 3004)) 4 (.ref 3005))) O (xx_dt dd_X1_init 21 rfl) cl_X1 fz_X1_24 (xx_up_eq _ _ _) (by decide) (by omega) rfl rfl (fun _ => ⟨rfl, rfl⟩) xx_up_up ?_
  refine sw_aload_n O (xx_dt dd_X1_init 22 rfl) rfl ?_
  refine sw_bipush (x := 6) O (xx_dt dd_X1_init 23 rfl) (by decide) ?_
  refine sw_newarray (k := 185) (n := 1320) (t := 100) (N := 6) (r := 3006) O (xx_dt dd_X1_init 24 rfl) ⟨⟨by omega, by omega⟩, rfl⟩ ac_int (by decide) (by decide) (by decide) (ob_free (by decide) (by decide) (hf 3006 (by omega) (by omega) (by omega))) (by omega) ?_
  rw [ob_new (by omega) (fun i hi => by obtain rfl : i = 0 := (by omega); rfl)]
  refine sw_putF (h2 := xx_up (setI [(3006, 1), (3005, 1), (3004, 1), (3003, 1), (3002, 1), (3001, 1)] z9 h) 3000 (7, 13, updV (updV (updV (updV (updV (updV (fun j => defaultValue (tyX1 j)) 0 (.ref 3001)) 1 (.ref 3002)) 2 (.ref 3003)) 3 (.ref 3004)) 4 (.ref 3005)) 5 (.ref 3006))) O (xx_dt dd_X1_init 25 rfl) cl_X1 fz_X1_27 (xx_up_eq _ _ _) (by decide) (by omega) rfl rfl (fun _ => ⟨rfl, rfl⟩) xx_up_up ?_
  refine sw_aload_n O (xx_dt dd_X1_init 26 rfl) rfl ?_
  refine sw_bipush (x := 60) O (xx_dt dd_X1_init 27 rfl) (by decide) ?_
  refine sw_iconst (x := 5) O (xx_dt dd_X1_init 28 rfl) (by decide) ?_
  refine sw_multi (k := 124) (n := 960) (N := 60) (K := 5) (r := 3100) O (xx_dt dd_X1_init 29 rfl) mu_X1_30 (by decide) (by decide) (by decide) (by decide) (by omega) (by omega) (fun q hq => ob_free (by omega) (fr_3100 hq) (hf _ (by omega) (by omega) (by omega))) (by omega) ?_
  rw [ob_new (by omega) mb_3100]
  refine sw_putF (h2 := xx_up (setI [(3100, 61), (3006, 1), (3005, 1), (3004, 1), (3003, 1), (3002, 1), (3001, 1)] z9 h) 3000 (7, 13, updV (updV (updV (updV (updV (updV (updV (fun j => defaultValue (tyX1 j)) 0 (.ref 3001)) 1 (.ref 3002)) 2 (.ref 3003)) 3 (.ref 3004)) 4 (.ref 3005)) 5 (.ref 3006)) 6 (.ref 3100))) O (xx_dt dd_X1_init 30 rfl) cl_X1 fz_X1_32 (xx_up_eq _ _ _) (by decide) (by omega) rfl rfl (fun _ => ⟨rfl, rfl⟩) xx_up_up ?_
  refine sw_aload_n O (xx_dt dd_X1_init 31 rfl) rfl ?_
  refine sw_bipush (x := 60) O (xx_dt dd_X1_init 32 rfl) (by decide) ?_
  refine sw_bipush (x := 6) O (xx_dt dd_X1_init 33 rfl) (by decide) ?_
  refine sw_multi (k := 63) (n := 540) (N := 60) (K := 6) (r := 3200) O (xx_dt dd_X1_init 34 rfl) mu_X1_30 (by decide) (by decide) (by decide) (by decide) (by omega) (by omega) (fun q hq => ob_free (by omega) (fr_3200 hq) (hf _ (by omega) (by omega) (by omega))) (by omega) ?_
  rw [ob_new (by omega) mb_3200]
  refine sw_putF (h2 := xx_up (setI [(3200, 61), (3100, 61), (3006, 1), (3005, 1), (3004, 1), (3003, 1), (3002, 1), (3001, 1)] z9 h) 3000 (7, 13, updV (updV (updV (updV (updV (updV (updV (updV (fun j => defaultValue (tyX1 j)) 0 (.ref 3001)) 1 (.ref 3002)) 2 (.ref 3003)) 3 (.ref 3004)) 4 (.ref 3005)) 5 (.ref 3006)) 6 (.ref 3100)) 7 (.ref 3200))) O (xx_dt dd_X1_init 35 rfl) cl_X1 fz_X1_35 (xx_up_eq _ _ _) (by decide) (by omega) rfl rfl (fun _ => ⟨rfl, rfl⟩) xx_up_up ?_
  refine sw_aload_n O (xx_dt dd_X1_init 36 rfl) rfl ?_
  refine sw_bipush (x := 60) O (xx_dt dd_X1_init 37 rfl) (by decide) ?_
  refine sw_bipush (x := 6) O (xx_dt dd_X1_init 38 rfl) (by decide) ?_
  refine sw_multi (k := 2) (n := 120) (N := 60) (K := 6) (r := 3300) O (xx_dt dd_X1_init 39 rfl) mu_X1_30 (by decide) (by decide) (by decide) (by decide) (by omega) (by omega) (fun q hq => ob_free (by omega) (fr_3300 hq) (hf _ (by omega) (by omega) (by omega))) (by omega) ?_
  rw [ob_new (by omega) mb_3300]
  refine sw_putF (h2 := xx_up (setI [(3300, 61), (3200, 61), (3100, 61), (3006, 1), (3005, 1), (3004, 1), (3003, 1), (3002, 1), (3001, 1)] z9 h) 3000 (7, 13, updV (updV (updV (updV (updV (updV (updV (updV (updV (fun j => defaultValue (tyX1 j)) 0 (.ref 3001)) 1 (.ref 3002)) 2 (.ref 3003)) 3 (.ref 3004)) 4 (.ref 3005)) 5 (.ref 3006)) 6 (.ref 3100)) 7 (.ref 3200)) 8 (.ref 3300))) O (xx_dt dd_X1_init 40 rfl) cl_X1 fz_X1_38 (xx_up_eq _ _ _) (by decide) (by omega) rfl rfl (fun _ => ⟨rfl, rfl⟩) xx_up_up ?_
  refine sw_aload_n O (xx_dt dd_X1_init 41 rfl) rfl ?_
  refine sw_bipush (x := 60) O (xx_dt dd_X1_init 42 rfl) (by decide) ?_
  refine sw_newarray (k := 1) (n := 60) (t := 100) (N := 60) (r := 3007) O (xx_dt dd_X1_init 43 rfl) ⟨⟨by omega, by omega⟩, rfl⟩ ac_int (by decide) (by decide) (by decide) (ob_free (by decide) (by decide) (hf 3007 (by omega) (by omega) (by omega))) (by omega) ?_
  rw [ob_new (by omega) (fun i hi => by obtain rfl : i = 0 := (by omega); rfl)]
  refine sw_putF (h2 := xx_up (setI [(3007, 1), (3300, 61), (3200, 61), (3100, 61), (3006, 1), (3005, 1), (3004, 1), (3003, 1), (3002, 1), (3001, 1)] z9 h) 3000 (7, 13, updV (updV (updV (updV (updV (updV (updV (updV (updV (updV (fun j => defaultValue (tyX1 j)) 0 (.ref 3001)) 1 (.ref 3002)) 2 (.ref 3003)) 3 (.ref 3004)) 4 (.ref 3005)) 5 (.ref 3006)) 6 (.ref 3100)) 7 (.ref 3200)) 8 (.ref 3300)) 10 (.ref 3007))) O (xx_dt dd_X1_init 44 rfl) cl_X1 fz_X1_41 (xx_up_eq _ _ _) (by decide) (by omega) rfl rfl (fun _ => ⟨rfl, rfl⟩) xx_up_up ?_
  refine sw_aload_n O (xx_dt dd_X1_init 45 rfl) rfl ?_
  refine sw_bipush (x := 60) O (xx_dt dd_X1_init 46 rfl) (by decide) ?_
  refine sw_newarray (k := 0) (n := 0) (t := 100) (N := 60) (r := 3008) O (xx_dt dd_X1_init 47 rfl) ⟨⟨by omega, by omega⟩, rfl⟩ ac_int (by decide) (by decide) (by decide) (ob_free (by decide) (by decide) (hf 3008 (by omega) (by omega) (by omega))) (by omega) ?_
  rw [ob_new (by omega) (fun i hi => by obtain rfl : i = 0 := (by omega); rfl)]
  refine sw_putF (h2 := xx_up (setI [(3008, 1), (3007, 1), (3300, 61), (3200, 61), (3100, 61), (3006, 1), (3005, 1), (3004, 1), (3003, 1), (3002, 1), (3001, 1)] z9 h) 3000 (7, 13, updV (updV (updV (updV (updV (updV (updV (updV (updV (updV (updV (fun j => defaultValue (tyX1 j)) 0 (.ref 3001)) 1 (.ref 3002)) 2 (.ref 3003)) 3 (.ref 3004)) 4 (.ref 3005)) 5 (.ref 3006)) 6 (.ref 3100)) 7 (.ref 3200)) 8 (.ref 3300)) 10 (.ref 3007)) 11 (.ref 3008))) O (xx_dt dd_X1_init 48 rfl) cl_X1 fz_X1_44 (xx_up_eq _ _ _) (by decide) (by omega) rfl rfl (fun _ => ⟨rfl, rfl⟩) xx_up_up ?_
  refine sw_alter (r := 3000) (t := 7) (N := 13) (F2 := fun k => match k with | 0 => .ref (3000 + 1) | 1 => .ref (3000 + 2) | 2 => .ref (3000 + 3) | 3 => .ref (3000 + 4) | 4 => .ref (3000 + 5) | 5 => .ref (3000 + 6) | 6 => .ref (3000 + 100) | 7 => .ref (3000 + 200) | 8 => .ref (3000 + 300) | 9 => .int (s0C 3000 9) | 10 => .ref (3000 + 7) | 11 => .ref (3000 + 8) | 12 => .int (s0C 3000 12) | _ => .null) (xx_up_eq _ _ _) (fun j hj => ?_) ?_
  · match j, hj with
    | 0, _ => rfl
    | 1, _ => rfl
    | 2, _ => rfl
    | 3, _ => rfl
    | 4, _ => rfl
    | 5, _ => rfl
    | 6, _ => rfl
    | 7, _ => rfl
    | 8, _ => rfl
    | 9, _ => rfl
    | 10, _ => rfl
    | 11, _ => rfl
    | 12, _ => rfl
  rw [xx_up_up, ob_done (σ' := s0C) rfl (fun q hq hne => by simp only [inI, List.any_cons, List.any_nil, Bool.or_false, Bool.or_eq_true, decide_eq_true_eq] at hq; exact s0C_z (by omega) (by omega) (by omega) (by omega))]
  exact sw_ret O (xx_dt dd_X1_init 49 rfl) rfl (by rw [hQ]; exact ⟨rfl, rfl⟩)
theorem setI_up {I : List (Nat × Nat)} {σ : XS9} {h : XH} {a : Nat} {x : Nat → Int32} {c : XC} (hI : inI I a = true) (hl : lyC a x = some c) : xx_up (setI I σ h) a c = setI I (fun q => if q = a then x else σ q) h := by
  funext q
  show (if q = a then some c else if inI I q = true then lyC q (σ q) else h q) = if inI I q = true then lyC q (if q = a then x else σ q) else h q
  by_cases e : q = a
  · subst e
    rw [if_pos rfl, if_pos hI, if_pos rfl, hl]
  · rw [if_neg e, if_neg e]
theorem setI_congr {I : List (Nat × Nat)} {σ σ' : XS9} {h : XH} (e : ∀ q, inI I q = true → σ q = σ' q) : setI I σ h = setI I σ' h := by
  funext q
  unfold setI
  by_cases e2 : inI I q = true
  · rw [if_pos e2, if_pos e2, e q e2]
  · rw [if_neg e2, if_neg e2]
theorem setI_in {I : List (Nat × Nat)} {σ : XS9} {h : XH} {q : Nat} (e : inI I q = true) : setI I σ h q = lyC q (σ q) := if_pos e
theorem fill_eq {F : Nat → Value} {x : Int32} {s : Nat} : updV (fun k => if k < s then .int x else F k) s (.int x) = fun k => if k < s + 1 then .int x else F k := by
  funext k
  unfold updV
  by_cases e : k = s
  · rw [if_pos e, if_pos (by omega)]
  · rw [if_neg e]
    dsimp only
    by_cases e2 : k < s
    · rw [if_pos e2, if_pos (by omega)]
    · rw [if_neg e2, if_neg (by omega)]
theorem ct_fillG {l : Launch} {h : XH} (hl : l.stackTraces = false) {a n : Nat} {x : Int32} {F : Nat → Value} (ha : h a = some (100, n, F)) (h1 : 1000 ≤ a) (hn : n < 2147483648) : XEx l m_J7_fill_53178 0 0 0 [.ref a, .int x] (h) (none) (xx_up h a (100, n, fun _ => .int x)) := by
  refine XMet.of hl rfl rfl (Nat.le_of_ble_eq_true rfl) (fun Y O hh hQ => ?_)
  show SW Y 0 0 (h) 0 [.ref a, .int x, xx_d, xx_d] []
  refine sw_iconst (x := 0) O (xx_dt dd_J7_fill_53178 0 rfl) (by decide) ?_
  refine sw_istore_n (ls2 := [.ref a, .int x, .int 0, xx_d]) O (xx_dt dd_J7_fill_53178 1 rfl) (by decide) rfl ?_
  refine sw_aload_n O (xx_dt dd_J7_fill_53178 2 rfl) rfl ?_
  refine sw_alen (t := 100) O (xx_dt dd_J7_fill_53178 3 rfl) (by omega) (by omega) ha ?_
  refine sw_istore_n (ls2 := [.ref a, .int x, .int 0, .int (nI n)]) O (xx_dt dd_J7_fill_53178 4 rfl) (by decide) rfl ?_
  rw [show h = xx_up h a (100, n, fun k => if k < 0 then .int x else F k) from (by rw [show (fun k => if k < 0 then Value.int x else F k) = F from funext fun k => if_neg (Nat.not_lt_zero k)]; exact (xx_up_self ha).symm)]
  refine sw_for (S := Nat) (fun i _ => i + 1) (fun i s => s = i) (hp := fun s => xx_up h a (100, n, fun k => if k < s then .int x else F k)) (hd := 5) (lc := fun i s => [.ref a, .int x, .int (nI i), .int (nI n)]) (N := n) (fun i s hi hs => ⟨rfl, fun kk => ?_⟩) n 0 0 (by omega) rfl (fun hs => ?_)
  · subst hs
    refine sw_iload_n O (xx_dt dd_J7_fill_53178 5 rfl) rfl ?_
    refine sw_iload_n O (xx_dt dd_J7_fill_53178 6 rfl) rfl ?_
    refine sw_icmp_ge (tgt := 20) O (xx_dt dd_J7_fill_53178 7 rfl) (by decide) (fun q => absurd q (nI_ge (b := n) hi (by omega))) (fun q => ?_)
    refine sw_aload_n O (xx_dt dd_J7_fill_53178 8 rfl) rfl ?_
    refine sw_iload_n O (xx_dt dd_J7_fill_53178 9 rfl) rfl ?_
    refine sw_iload_n O (xx_dt dd_J7_fill_53178 10 rfl) rfl ?_
    refine sw_iastore (h2 := xx_up h a (100, n, fun k => if k < (s + 1) then .int x else F k)) O (xx_dt dd_J7_fill_53178 11 rfl) (xx_up_eq _ _ _) (pk_in s n hi) h1 (by rw [nI_clamp (by omega), xx_up_up, fill_eq]) ?_
    refine sw_iinc (y := nI (s + 1)) (ls2 := [.ref a, .int x, .int (nI (s + 1)), .int (nI n)]) O (xx_dt dd_J7_fill_53178 12 rfl) rfl (nI_1 _) (by decide) rfl ?_
    refine sw_goto (tgt := 5) O (xx_dt dd_J7_fill_53178 13 rfl) (by decide) ?_
    exact kk
  · generalize hz : xit (fun i _ => i + 1) n 0 0 = z at hs ⊢
    subst hs
    refine sw_iload_n O (xx_dt dd_J7_fill_53178 5 rfl) rfl ?_
    refine sw_iload_n O (xx_dt dd_J7_fill_53178 6 rfl) rfl ?_
    refine sw_icmp_ge (tgt := 20) O (xx_dt dd_J7_fill_53178 7 rfl) (by decide) (fun q => ?_) (fun q => absurd (Int32.le_refl _) q)
    refine sw_alter (r := a) (F2 := fun _ => .int x) (xx_up_eq _ _ _) (fun j hj => if_pos hj) ?_
    rw [xx_up_up]
    exact sw_ret O (xx_dt dd_J7_fill_53178 14 rfl) rfl (by rw [hQ]; exact ⟨rfl, rfl⟩)
end
