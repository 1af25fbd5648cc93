/-! ===== lists ===== -/
theorem ct_AL_size {l : Launch} {h : XH} (hl : l.stackTraces = false) {r n : Nat} {f : Nat → Value} (hc : h r = some (206, n, f))  : XEx l m_Jx4a65c_size_8abf5 0 0 0 [.ref r] (h) (some (.int (nI n))) (h) := by
  refine XMet.of hl rfl rfl (Nat.le_of_ble_eq_true rfl) (fun Y O hh hQ => ?_)
  show SW Y 0 0 (h) 0 [.ref r] []
  refine sw_aload_n O (xx_dt dd_Jx4a65c_size_8abf5 0 rfl) rfl ?_
  refine sw_getL (ci := 6) O (xx_dt dd_Jx4a65c_size_8abf5 1 rfl) cl_Jx4a65c ⟨fl_Jx4a65c_48.1, .inl fl_Jx4a65c_48.2⟩ hc (.inr rfl) ?_
  exact sw_iret O (xx_dt dd_Jx4a65c_size_8abf5 2 rfl) rfl rfl (by rw [hQ]; exact ⟨rfl, rfl⟩)
theorem nI_zero {n : Nat} (hn : n < 2147483648) (e : nI n = 0) : n = 0 := by
  have := congrArg cn e
  rw [cn_nI hn] at this
  exact this
theorem ct_AL_isEmpty {l : Launch} {h : XH} (hl : l.stackTraces = false) {r n : Nat} {f : Nat → Value} (hc : h r = some (206, n, f)) (hn : n < 2147483648)  : XEx l m_Jx4a65c_isEmpty_aae02 0 0 0 [.ref r] (h) (some (.int (if n = 0 then 1 else 0))) (h) := by
  refine XMet.of hl rfl rfl (Nat.le_of_ble_eq_true rfl) (fun Y O hh hQ => ?_)
  show SW Y 0 0 (h) 0 [.ref r] []
  refine sw_aload_n O (xx_dt dd_Jx4a65c_isEmpty_aae02 0 rfl) rfl ?_
  refine sw_getL (ci := 6) O (xx_dt dd_Jx4a65c_isEmpty_aae02 1 rfl) cl_Jx4a65c ⟨fl_Jx4a65c_48.1, .inl fl_Jx4a65c_48.2⟩ hc (.inr rfl) ?_
  refine sw_if_ne (tgt := 11) O (xx_dt dd_Jx4a65c_isEmpty_aae02 2 rfl) (by decide) (fun q => ?_) (fun q => ?_)
  · refine sw_iconst (x := 0) O (xx_dt dd_Jx4a65c_isEmpty_aae02 5 rfl) (by decide) ?_
    exact sw_iret O (xx_dt dd_Jx4a65c_isEmpty_aae02 6 rfl) rfl rfl (by rw [hQ]; exact ⟨by rw [if_neg (fun e => q (by rw [e]; rfl))], rfl⟩)
  · refine sw_iconst (x := 1) O (xx_dt dd_Jx4a65c_isEmpty_aae02 3 rfl) (by decide) ?_
    refine sw_goto (tgt := 12) O (xx_dt dd_Jx4a65c_isEmpty_aae02 4 rfl) (by decide) ?_
    exact sw_iret O (xx_dt dd_Jx4a65c_isEmpty_aae02 6 rfl) rfl rfl (by rw [hQ]; exact ⟨by rw [if_pos (nI_zero hn q)], rfl⟩)
theorem ct_checkIndex3 {l : Launch} {h : XH} (hl : l.stackTraces = false) {i n : Nat} (hi : i < n) (hn : n < 2147483648) : XEx l m_J3_checkIndex_8e157 0 0 0 [.int (nI i), .int (nI n), .null] (h) (some (.int (nI i))) (h) := by
  refine XMet.of hl rfl rfl (Nat.le_of_ble_eq_true rfl) (fun Y O hh hQ => ?_)
  show SW Y 0 0 (h) 0 [.int (nI i), .int (nI n), .null] []
  refine sw_iload_n O (xx_dt dd_J3_checkIndex_8e157 0 rfl) rfl ?_
  refine sw_if_lt (tgt := 9) O (xx_dt dd_J3_checkIndex_8e157 1 rfl) (by decide) (fun q => absurd q (Int32.not_lt.mpr ((nI_leI (a := 0) (b := i) (by omega) (by omega)).mpr (Nat.zero_le _)))) (fun q => ?_)
  refine sw_iload_n O (xx_dt dd_J3_checkIndex_8e157 2 rfl) rfl ?_
  refine sw_iload_n O (xx_dt dd_J3_checkIndex_8e157 3 rfl) rfl ?_
  refine sw_icmp_lt (tgt := 16) O (xx_dt dd_J3_checkIndex_8e157 4 rfl) (by decide) (fun q => ?_) (fun q => absurd ((nI_ltI (a := i) (b := n) (by omega) (by omega)).mpr hi) q)
  refine sw_iload_n O (xx_dt dd_J3_checkIndex_8e157 10 rfl) rfl ?_
  exact sw_iret O (xx_dt dd_J3_checkIndex_8e157 11 rfl) rfl rfl (by rw [hQ]; exact ⟨rfl, rfl⟩)
theorem ct_checkIndex2 {l : Launch} {h : XH} (hl : l.stackTraces = false) {i n : Nat} (hi : i < n) (hn : n < 2147483648) : XEx l m_J15_checkIndex_7cf53 1 0 0 [.int (nI i), .int (nI n)] (h) (some (.int (nI i))) (h) := by
  refine XMet.of hl rfl rfl (Nat.le_of_ble_eq_true rfl) (fun Y O hh hQ => ?_)
  show SW Y 0 0 (h) 0 [.int (nI i), .int (nI n)] []
  refine sw_iload_n O (xx_dt dd_J15_checkIndex_7cf53 0 rfl) rfl ?_
  refine sw_iload_n O (xx_dt dd_J15_checkIndex_7cf53 1 rfl) rfl ?_
  refine sw_null O (xx_dt dd_J15_checkIndex_7cf53 2 rfl) ?_
  refine sw_callSx (as := [.int (nI i), .int (nI n), .null]) (st := []) (st2 := [.int (nI i)]) O (ct_checkIndex3 hl hi hn) ce_J3_checkIndex_8e157 ml_J15_105 st_J3_checkIndex_8e157 (xx_dt dd_J15_checkIndex_7cf53 3 rfl) (by decide) rfl rfl (Nat.le_of_ble_eq_true rfl) rfl ?_
  exact sw_iret O (xx_dt dd_J15_checkIndex_7cf53 4 rfl) rfl rfl (by rw [hQ]; exact ⟨rfl, rfl⟩)
theorem xx_up_self {h : XH} {r : Nat} {c : XC} (e : h r = some c) : xx_up h r c = h := by
  funext q
  unfold xx_up
  split
  · rename_i z; rw [z, e]
  · rfl
theorem xx_up_up {h : XH} {r : Nat} {c c2 : XC} : xx_up (xx_up h r c) r c2 = xx_up h r c2 := by
  funext q
  unfold xx_up
  split <;> rfl
theorem xx_obO.up {h : XH} {r x : Nat} {c : XC} (hx : xx_obO h x) (e : x ≠ r) : xx_obO (xx_up h r c) x := by
  unfold xx_obO
  rw [xx_up_ne e]
  exact hx
theorem xx_obO.nl {h : XH} {r x ci n : Nat} {f : Nat → Value} (hx : xx_obO h x) (hr : h r = some (200 + ci, n, f)) : x ≠ r := by
  intro e
  subst e
  rcases hx with ⟨ci2, N, f2, C, T, ty, K, hc, -⟩ | ⟨N, f2, hc, -⟩
  · rw [hr] at hc
    cases hc
    have := K.1
    omega
  · rw [hr] at hc
    injection hc with hc
    injection hc with hc _
    omega
theorem xx_obO.nn {h : XH} {r x : Nat} (hx : xx_obO h x) (hr : h r = none) : x ≠ r := by
  intro e
  subst e
  rcases hx with ⟨ci2, N, f2, C, T, ty, K, hc, -⟩ | ⟨N, f2, hc, -⟩ <;> rw [hr] at hc <;> cases hc
theorem xx_obO.is {h : XH} {x : Nat} (hx : xx_obO h x) : (h x).isSome = true := by
  rcases hx with ⟨ci2, N, f2, C, T, ty, K, hc, -⟩ | ⟨N, f2, hc, -⟩ <;> rw [hc] <;> rfl
theorem ct_AL_elementData {l : Launch} {h : XH} (hl : l.stackTraces = false) {r n : Nat} {f : Nat → Value} (hc : h r = some (206, n, f)) {e : Nat} (he : h e = none) (h9 : 1000 ≤ e) (h1 : 1000 ≤ r) {f0 : Nat → Value} (h0 : h 0 = some (104, 0, f0)) {i x : Nat} (hi : i < n) (hx : f i = .ref x) : XEx l m_Jx4a65c_elementData_915e3 0 0 0 [.ref r, .int (nI i)] (h) (some (.ref x)) (h) := by
  refine XMet.of hl rfl rfl (Nat.le_of_ble_eq_true rfl) (fun Y O hh hQ => ?_)
  have hre : r ≠ e := fun q => by rw [q, he] at hc; cases hc
  refine sw_cls (fun hcl => ?_)
  have hxi : (h x).isSome = true := by have := hcl r _ i hc hi; rw [show (206, n, f).2.2 i = f i from rfl, hx] at this; exact this
  show SW Y 0 0 (h) 0 [.ref r, .int (nI i)] []
  refine sw_explode (ci := 6) (by decide) hc h1 he h9 h0 (fun cap hcap => ?_) (fun e0 => absurd hi (by omega))
  refine sw_aload_n O (xx_dt dd_Jx4a65c_elementData_915e3 0 rfl) rfl ?_
  refine sw_get2 (v := .ref e) O (xx_dt dd_Jx4a65c_elementData_915e3 1 rfl) cl_Jx4a65c ⟨fl_Jx4a65c_9.1, .inl fl_Jx4a65c_9.2⟩ (by rw [xx_up_ne hre, xx_up_eq]) (by decide) rfl ?_
  refine sw_iload_n O (xx_dt dd_Jx4a65c_elementData_915e3 2 rfl) rfl ?_
  refine sw_aaload (v := .ref x) O (xx_dt dd_Jx4a65c_elementData_915e3 3 rfl) (by omega) (by omega) (xx_up_eq _ _ _) (pk_in i cap (by omega)) (by rw [nI_clamp (by omega), if_pos hi]; exact hx) ?_
  refine sw_implode (hb := h) (r := r) (e := e) (n9 := n) (cap := cap) (ci := 6) (f := f) (g := fun j => if j < n then f j else .null) (by decide) hcl he h1 h9 hre (by rw [hc]; rfl) (fun j hj => ?_) (fun j hj => ?_) hcap (by rw [hh, he]; rfl) (List.forall_mem_cons.mpr ⟨(show (h r).isSome = true from (by rw [hc]; rfl)), (List.forall_mem_cons.mpr ⟨trivial, (fun _ h => absurd h List.not_mem_nil)⟩)⟩) (List.forall_mem_cons.mpr ⟨(show (h x).isSome = true from hxi), (fun _ h => absurd h List.not_mem_nil)⟩) ?_
  · rfl
  · exact hcl r _ j hc hj
  rw [xx_up_self hc]
  exact sw_aret O (xx_dt dd_Jx4a65c_elementData_915e3 4 rfl) rfl (.inl ⟨_, rfl⟩) (by rw [hQ]; exact ⟨rfl, rfl⟩)
theorem ct_AL_get {l : Launch} {h : XH} (hl : l.stackTraces = false) {r n : Nat} {f : Nat → Value} (hc : h r = some (206, n, f)) {e : Nat} (he : h e = none) (h9 : 1000 ≤ e) (h1 : 1000 ≤ r) {f0 : Nat → Value} (h0 : h 0 = some (104, 0, f0)) {i x : Nat} (hi : i < n) (hn : n < 2147483648) (hx : f i = .ref x) : XEx l m_Jx4a65c_get_915e3 2 0 0 [.ref r, .int (nI i)] (h) (some (.ref x)) (h) := by
  refine XMet.of hl rfl rfl (Nat.le_of_ble_eq_true rfl) (fun Y O hh hQ => ?_)
  show SW Y 0 0 (h) 0 [.ref r, .int (nI i)] []
  refine sw_iload_n O (xx_dt dd_Jx4a65c_get_915e3 0 rfl) rfl ?_
  refine sw_aload_n O (xx_dt dd_Jx4a65c_get_915e3 1 rfl) rfl ?_
  refine sw_getL (ci := 6) O (xx_dt dd_Jx4a65c_get_915e3 2 rfl) cl_Jx4a65c ⟨fl_Jx4a65c_48.1, .inl fl_Jx4a65c_48.2⟩ hc (.inr rfl) ?_
  refine sw_callSx (as := [.int (nI i), .int (nI n)]) (st := []) (st2 := [.int (nI i)]) O (ct_checkIndex2 hl hi hn) ce_J15_checkIndex_7cf53 ml_Jx4a65c_118 st_J15_checkIndex_7cf53 (xx_dt dd_Jx4a65c_get_915e3 3 rfl) (by decide) rfl rfl (Nat.le_of_ble_eq_true rfl) rfl ?_
  refine sw_pop O (xx_dt dd_Jx4a65c_get_915e3 4 rfl) rfl ?_
  refine sw_aload_n O (xx_dt dd_Jx4a65c_get_915e3 5 rfl) rfl ?_
  refine sw_iload_n O (xx_dt dd_Jx4a65c_get_915e3 6 rfl) rfl ?_
  refine sw_callVL (ci := 6) (as := [.int (nI i)]) (st := []) (st2 := [.ref x]) O (ct_AL_elementData hl hc he h9 h1 h0 hi hx) ce_Jx4a65c_elementData_915e3 ml_Jx4a65c_123 iv_Jx4a65c_elementData_915e3 cl_Jx4a65c rfl (hc) (xx_dt dd_Jx4a65c_get_915e3 7 rfl) (by decide) rfl rfl (Nat.le_of_ble_eq_true rfl) rfl ?_
  exact sw_aret O (xx_dt dd_Jx4a65c_get_915e3 8 rfl) rfl (.inl ⟨_, rfl⟩) (by rw [hQ]; exact ⟨rfl, rfl⟩)
theorem ct_AL_set {l : Launch} {h : XH} (hl : l.stackTraces = false) {r n : Nat} {f : Nat → Value} (hc : h r = some (206, n, f)) {e : Nat} (he : h e = none) (h9 : 1000 ≤ e) (h1 : 1000 ≤ r) {f0 : Nat → Value} (h0 : h 0 = some (104, 0, f0)) {i x y : Nat} (hi : i < n) (hn : n < 2147483648) (hx : f i = .ref x) (hy : xx_obO h y) : XEx l m_Jx4a65c_set_bcc79 2 0 0 [.ref r, .int (nI i), .ref y] (h) (some (.ref x)) (xx_up h r (206, n, updV f i (.ref y))) := by
  refine XMet.of hl rfl rfl (Nat.le_of_ble_eq_true rfl) (fun Y O hh hQ => ?_)
  have hre : r ≠ e := fun q => by rw [q, he] at hc; cases hc
  refine sw_cls (fun hcl => ?_)
  have hxi : (h x).isSome = true := by have := hcl r _ i hc hi; rw [show (206, n, f).2.2 i = f i from rfl, hx] at this; exact this
  show SW Y 0 0 (h) 0 [.ref r, .int (nI i), .ref y, xx_d] []
  refine sw_iload_n O (xx_dt dd_Jx4a65c_set_bcc79 0 rfl) rfl ?_
  refine sw_aload_n O (xx_dt dd_Jx4a65c_set_bcc79 1 rfl) rfl ?_
  refine sw_getL (ci := 6) O (xx_dt dd_Jx4a65c_set_bcc79 2 rfl) cl_Jx4a65c ⟨fl_Jx4a65c_48.1, .inl fl_Jx4a65c_48.2⟩ hc (.inr rfl) ?_
  refine sw_callSx (as := [.int (nI i), .int (nI n)]) (st := []) (st2 := [.int (nI i)]) O (ct_checkIndex2 hl hi hn) ce_J15_checkIndex_7cf53 ml_Jx4a65c_118 st_J15_checkIndex_7cf53 (xx_dt dd_Jx4a65c_set_bcc79 3 rfl) (by decide) rfl rfl (Nat.le_of_ble_eq_true rfl) rfl ?_
  refine sw_pop O (xx_dt dd_Jx4a65c_set_bcc79 4 rfl) rfl ?_
  refine sw_aload_n O (xx_dt dd_Jx4a65c_set_bcc79 5 rfl) rfl ?_
  refine sw_iload_n O (xx_dt dd_Jx4a65c_set_bcc79 6 rfl) rfl ?_
  refine sw_callVL (ci := 6) (as := [.int (nI i)]) (st := []) (st2 := [.ref x]) O (ct_AL_elementData hl hc he h9 h1 h0 hi hx) ce_Jx4a65c_elementData_915e3 ml_Jx4a65c_123 iv_Jx4a65c_elementData_915e3 cl_Jx4a65c rfl (hc) (xx_dt dd_Jx4a65c_set_bcc79 7 rfl) (by decide) rfl rfl (Nat.le_of_ble_eq_true rfl) rfl ?_
  refine sw_astore_n (ls2 := [.ref r, .int (nI i), .ref y, .ref x]) O (xx_dt dd_Jx4a65c_set_bcc79 8 rfl) (by decide) rfl ?_
  refine sw_explode (ci := 6) (by decide) hc h1 he h9 h0 (fun cap hcap => ?_) (fun e0 => absurd hi (by omega))
  refine sw_aload_n O (xx_dt dd_Jx4a65c_set_bcc79 9 rfl) rfl ?_
  refine sw_get2 (v := .ref e) O (xx_dt dd_Jx4a65c_set_bcc79 10 rfl) cl_Jx4a65c ⟨fl_Jx4a65c_9.1, .inl fl_Jx4a65c_9.2⟩ (by rw [xx_up_ne hre, xx_up_eq]) (by decide) rfl ?_
  refine sw_iload_n O (xx_dt dd_Jx4a65c_set_bcc79 11 rfl) rfl ?_
  refine sw_aload_n O (xx_dt dd_Jx4a65c_set_bcc79 12 rfl) rfl ?_
  refine sw_aastore O (xx_dt dd_Jx4a65c_set_bcc79 13 rfl) (xx_up_eq _ _ _) (pk_in i cap (by omega)) h9 ((hy.up (hy.nl (ci := 6) hc)).up (hy.nn he)) rfl ?_
  rw [nI_clamp (by omega), xx_up_up]
  refine sw_implode (hb := h) (r := r) (e := e) (n9 := n) (cap := cap) (ci := 6) (f := updV f i (.ref y)) (g := updV (fun j => if j < n then f j else .null) i (.ref y)) (by decide) hcl he h1 h9 hre (by rw [hc]; rfl) (fun j hj => ?_) (fun j hj => ?_) hcap (by rw [hh, he]; rfl) (List.forall_mem_cons.mpr ⟨(show (h r).isSome = true from (by rw [hc]; rfl)), (List.forall_mem_cons.mpr ⟨trivial, (List.forall_mem_cons.mpr ⟨(show (h y).isSome = true from hy.is), (List.forall_mem_cons.mpr ⟨(show (h x).isSome = true from hxi), (fun _ h => absurd h List.not_mem_nil)⟩)⟩)⟩)⟩) (fun _ h => absurd h List.not_mem_nil) ?_
  · unfold updV
    by_cases q : j = i
    · rw [if_pos q, if_pos q, if_pos (by omega)]
    · rw [if_neg q, if_neg q]
  · unfold updV
    split
    · exact hy.is
    · exact hcl r _ j hc hj
  refine sw_aload_n O (xx_dt dd_Jx4a65c_set_bcc79 14 rfl) rfl ?_
  exact sw_aret O (xx_dt dd_Jx4a65c_set_bcc79 15 rfl) rfl (.inl ⟨_, rfl⟩) (by rw [hQ]; exact ⟨rfl, rfl⟩)
