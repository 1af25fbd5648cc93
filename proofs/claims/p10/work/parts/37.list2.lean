/-! ===== lists that grow ===== -/
theorem xx_blk_up {h : XH} {r : Nat} {c : Nat → XC} : xx_blk h r 1 c = xx_up h r (c 0) := by
  funext q
  unfold xx_blk xx_up
  by_cases e : q = r
  · rw [if_pos (by omega), if_pos e, show q - r = 0 by omega]
  · rw [if_neg (by omega), if_neg e]
theorem xx_up_sw {h : XH} {r e : Nat} {c c2 : XC} (q : r ≠ e) : xx_up (xx_up h r c) e c2 = xx_up (xx_up h e c2) r c := by
  funext z
  unfold xx_up
  by_cases e1 : z = e
  · rw [if_pos e1, if_neg (fun e2 => q (by rw [← e2, e1])), if_pos e1]
  · rw [if_neg e1]
    split <;> rfl
theorem half_nat {n : Nat} (hn : n < 1048576) : nI n >>> ((1 : Int32) &&& 31) = nI (n / 2) := (pk_shrN (by omega) ((1 : Int32) &&& 31) 1 (by decide)).trans (by rw [Nat.pow_one])
theorem ct_newLength0 {l : Launch} {h : XH} (hl : l.stackTraces = false) {n : Nat} (hn : n < 1048576)  : XEx l m_J8_newLength_cabcc 1 0 0 [.int (nI n), .int (nI 1), .int (nI (n / 2))] (h) (some (.int (nI (n + max 1 (n / 2))))) (h) := by
  refine XMet.of hl rfl rfl (Nat.le_of_ble_eq_true rfl) (fun Y O hh hQ => ?_)
  show SW Y 0 0 (h) 0 [.int (nI n), .int (nI 1), .int (nI (n / 2)), xx_d] []
  refine sw_iload_n O (xx_dt dd_J8_newLength_cabcc 0 rfl) rfl ?_
  refine sw_iload_n O (xx_dt dd_J8_newLength_cabcc 1 rfl) rfl ?_
  refine sw_iload_n O (xx_dt dd_J8_newLength_cabcc 2 rfl) rfl ?_
  refine sw_max (x := nI 1) (y := nI (n / 2)) O mm_J8_194 (xx_dt dd_J8_newLength_cabcc 3 rfl) (by omega) (Nat.le_of_ble_eq_true rfl) ?_
  rw [max_nat (a := 1) (b := n / 2) (by omega) (by omega)]
  refine sw_iadd O (xx_dt dd_J8_newLength_cabcc 4 rfl) ?_
  rw [nI_plus]
  refine sw_istore_n (ls2 := [.int (nI n), .int (nI 1), .int (nI (n / 2)), .int (nI (n + max 1 (n / 2)))]) O (xx_dt dd_J8_newLength_cabcc 5 rfl) (by decide) rfl ?_
  refine sw_iconst (x := 0) O (xx_dt dd_J8_newLength_cabcc 6 rfl) (by decide) ?_
  refine sw_iload_n O (xx_dt dd_J8_newLength_cabcc 7 rfl) rfl ?_
  refine sw_icmp_ge (tgt := 21) O (xx_dt dd_J8_newLength_cabcc 8 rfl) (by decide) (fun q => absurd ((nI_leI (a := n + max 1 (n / 2)) (b := 0) (by omega) (by omega)).mp q) (by omega)) (fun q => ?_)
  refine sw_iload_n O (xx_dt dd_J8_newLength_cabcc 9 rfl) rfl ?_
  refine sw_ldc O ct_J8_200 (xx_dt dd_J8_newLength_cabcc 10 rfl) ?_
  refine sw_icmp_gt (tgt := 21) O (xx_dt dd_J8_newLength_cabcc 11 rfl) (by decide) (fun q => absurd ((nI_ltI (a := 2147483639) (b := n + max 1 (n / 2)) (by omega) (by omega)).mp q) (by omega)) (fun q => ?_)
  refine sw_iload_n O (xx_dt dd_J8_newLength_cabcc 12 rfl) rfl ?_
  exact sw_iret O (xx_dt dd_J8_newLength_cabcc 13 rfl) rfl rfl (by rw [hQ]; exact ⟨rfl, rfl⟩)
theorem ct_copyOf6 {l : Launch} {h : XH} (hl : l.stackTraces = false) {a e2 N m : Nat} {g : Nat → Value} {c3 : XC} (ha : h a = some (104, N, g)) (hN : N ≤ m) (hm : m < 2097152) (he2 : h e2 = none) (h92 : 1000 ≤ e2) (h3 : h 3 = some c3) (hel : ∀ j, j < N → g j = .null ∨ ∃ x, g j = .ref x ∧ xx_obO h x) (hs0 : 1000 ≤ a := by omega) : XEx l m_J7_copyOf_6403c 1 1 m [.ref a, .int (nI m), .ref 3] (h) (some (.ref e2)) (xx_up h e2 (104, m, fun j => if j < N then g j else .null)) := by
  refine XMet.of hl rfl rfl (Nat.le_of_ble_eq_true rfl) (fun Y O hh hQ => ?_)
  have hae : a ≠ e2 := fun q => by rw [q, he2] at ha; cases ha
  show SW Y 1 m (h) 0 [.ref a, .int (nI m), .ref 3, xx_d] []
  refine sw_aload_n O (xx_dt dd_J7_copyOf_6403c 0 rfl) rfl ?_
  refine sw_ldcM O (xx_dt dd_J7_copyOf_6403c 1 rfl) cw_J7_110 h3 ?_
  refine sw_acmp_neS (tgt := 13) O (xx_dt dd_J7_copyOf_6403c 2 rfl) (by decide) ?_
  refine sw_iload_n O (xx_dt dd_J7_copyOf_6403c 3 rfl) rfl ?_
  refine xx_wid (k' := 0 + 1) (n' := 0 + m) (by omega) (by omega) (sw_anew (N := m) (r := e2) O (xx_dt dd_J7_copyOf_6403c 4 rfl) cw_J7_2 (fun q => absurd q (Int32.not_lt.mpr ((nI_leI (a := 0) (b := m) (by omega) (by omega)).mpr (Nat.zero_le _)))) (nI_clamp (by omega)) (by omega) he2 h92 ?_)
  rw [xx_blk_up]
  refine sw_goto (tgt := 24) O (xx_dt dd_J7_copyOf_6403c 5 rfl) (by decide) ?_
  refine sw_astore_n (ls2 := [.ref a, .int (nI m), .ref 3, .ref e2]) O (xx_dt dd_J7_copyOf_6403c 11 rfl) (by decide) rfl ?_
  refine sw_aload_n O (xx_dt dd_J7_copyOf_6403c 12 rfl) rfl ?_
  refine sw_iconst (x := 0) O (xx_dt dd_J7_copyOf_6403c 13 rfl) (by decide) ?_
  refine sw_aload_n O (xx_dt dd_J7_copyOf_6403c 14 rfl) rfl ?_
  refine sw_iconst (x := 0) O (xx_dt dd_J7_copyOf_6403c 15 rfl) (by decide) ?_
  refine sw_aload_n O (xx_dt dd_J7_copyOf_6403c 16 rfl) rfl ?_
  refine sw_alen (t := 104) O (xx_dt dd_J7_copyOf_6403c 17 rfl) (by omega) (by omega) (by rw [xx_up_ne hae]; exact ha) ?_
  refine sw_iload_n O (xx_dt dd_J7_copyOf_6403c 18 rfl) rfl ?_
  refine sw_min (st := [.int 0, .ref e2, .int 0, .ref a]) (x := nI N) (y := nI m) O mm_J7_304 (xx_dt dd_J7_copyOf_6403c 19 rfl) (by omega) (Nat.le_of_ble_eq_true rfl) ?_
  rw [if_neg (fun e => absurd ((nI_ltI (a := m) (b := N) (by omega) (by omega)).mp e) (by omega))]
  refine sw_copyR (h2' := xx_up h e2 (104, m, fun j => if j < N then g j else .null)) O ay_J7_150 (xx_dt dd_J7_copyOf_6403c 20 rfl) (by rw [xx_up_ne hae]; exact ha) (xx_up_eq _ _ _) h92 (fun q => absurd q (Int32.not_lt.mpr ((nI_leI (a := 0) (b := N) (by omega) (by omega)).mpr (Nat.zero_le _)))) (by rw [nI_clamp (by omega)]; omega) (by rw [nI_clamp (by omega)]; omega) (fun j hj => ?_) (by omega) (by decide +kernel) ?_ ?_
  · rw [nI_clamp (by omega)] at hj
    rcases hel j hj with e | ⟨x, e, hx⟩
    · exact .inl e
    · exact .inr ⟨x, e, hx.up (hx.nn he2)⟩
  · rw [xx_up_up, nI_clamp (by omega)]
  refine sw_aload_n O (xx_dt dd_J7_copyOf_6403c 21 rfl) rfl ?_
  exact sw_aret O (xx_dt dd_J7_copyOf_6403c 22 rfl) rfl (.inr ⟨_, rfl⟩) (by rw [hQ]; exact ⟨rfl, rfl⟩)
theorem ct_copyOf2 {l : Launch} {h : XH} (hl : l.stackTraces = false) {a e2 N m : Nat} {g : Nat → Value} {c3 : XC} (ha : h a = some (104, N, g)) (hN : N ≤ m) (hm : m < 2097152) (he2 : h e2 = none) (h92 : 1000 ≤ e2) (h3 : h 3 = some c3) (hel : ∀ j, j < N → g j = .null ∨ ∃ x, g j = .ref x ∧ xx_obO h x) (hs0 : 1000 ≤ a := by omega) : XEx l m_J7_copyOf_1904c 2 1 m [.ref a, .int (nI m)] (h) (some (.ref e2)) (xx_up h e2 (104, m, fun j => if j < N then g j else .null)) := by
  refine XMet.of hl rfl rfl (Nat.le_of_ble_eq_true rfl) (fun Y O hh hQ => ?_)
  show SW Y 1 m (h) 0 [.ref a, .int (nI m)] []
  refine sw_aload_n O (xx_dt dd_J7_copyOf_1904c 0 rfl) rfl ?_
  refine sw_iload_n O (xx_dt dd_J7_copyOf_1904c 1 rfl) rfl ?_
  refine sw_aload_n O (xx_dt dd_J7_copyOf_1904c 2 rfl) rfl ?_
  refine sw_getC O (xx_dt dd_J7_copyOf_1904c 3 rfl) gc_J7_86 ⟨gcw_dec, gcw_sel, gcw_ins, gcw_nat⟩ ha h3 (by omega) (Nat.le_of_ble_eq_true rfl) ?_
  refine xx_wid (k' := 0 + 1) (n' := 0 + m) (by omega) (by omega) (sw_callSx (as := [.ref a, .int (nI m), .ref 3]) (st := []) (st2 := [.ref e2]) O (ct_copyOf6 hl ha hN hm he2 h92 h3 hel) ce_J7_copyOf_6403c ml_J7_300 st_J7_copyOf_6403c (xx_dt dd_J7_copyOf_1904c 4 rfl) (by decide) rfl rfl (Nat.le_of_ble_eq_true rfl) rfl ?_)
  exact sw_aret O (xx_dt dd_J7_copyOf_1904c 5 rfl) rfl (.inr ⟨_, rfl⟩) (by rw [hQ]; exact ⟨rfl, rfl⟩)
theorem ct_growF {l : Launch} {h : XH} (hl : l.stackTraces = false) {r e e2 n : Nat} {F g : Nat → Value} {c3 : XC} (hr : h r = some (6, 3, F)) (hF : F 1 = .ref e) (h1 : 1000 ≤ r) (he : h e = some (104, n, g)) (hn : n < 1048576) (he2 : h e2 = none) (h92 : 1000 ≤ e2) (h3 : h 3 = some c3) (hel : ∀ j, j < n → g j = .null ∨ ∃ x, g j = .ref x ∧ xx_obO h x) (h0n : 0 < n) (hs0 : 1000 ≤ e := by omega) : XEx l m_Jx4a65c_grow_92f84 3 1 (n + max 1 (n / 2)) [.ref r, .int (nI (n + 1))] (h) (some (.ref e2)) (xx_up (xx_up h e2 (104, (n + max 1 (n / 2)), fun j => if j < n then g j else .null)) r (6, 3, updV F 1 (.ref e2))) := by
  refine XMet.of hl rfl rfl (Nat.le_of_ble_eq_true rfl) (fun Y O hh hQ => ?_)
  show SW Y 1 (n + max 1 (n / 2)) (h) 0 [.ref r, .int (nI (n + 1)), xx_d, xx_d] []
  refine sw_aload_n O (xx_dt dd_Jx4a65c_grow_92f84 0 rfl) rfl ?_
  refine sw_get2 (v := .ref e) O (xx_dt dd_Jx4a65c_grow_92f84 1 rfl) cl_Jx4a65c ⟨fl_Jx4a65c_9.1, .inl fl_Jx4a65c_9.2⟩ hr (by decide) hF ?_
  refine sw_alen (t := 104) O (xx_dt dd_Jx4a65c_grow_92f84 2 rfl) (by omega) (by omega) he ?_
  refine sw_istore_n (ls2 := [.ref r, .int (nI (n + 1)), .int (nI n), xx_d]) O (xx_dt dd_Jx4a65c_grow_92f84 3 rfl) (by decide) rfl ?_
  refine sw_iload_n O (xx_dt dd_Jx4a65c_grow_92f84 4 rfl) rfl ?_
  refine sw_if_gt (tgt := 20) O (xx_dt dd_Jx4a65c_grow_92f84 5 rfl) (by decide) (fun q => ?_) (fun q => absurd ((nI_ltI (a := 0) (b := n) (by omega) (by omega)).mpr h0n) q)
  refine sw_iload_n O (xx_dt dd_Jx4a65c_grow_92f84 10 rfl) rfl ?_
  refine sw_iload_n O (xx_dt dd_Jx4a65c_grow_92f84 11 rfl) rfl ?_
  refine sw_iload_n O (xx_dt dd_Jx4a65c_grow_92f84 12 rfl) rfl ?_
  refine sw_isub O (xx_dt dd_Jx4a65c_grow_92f84 13 rfl) ?_
  refine sw_iload_n O (xx_dt dd_Jx4a65c_grow_92f84 14 rfl) rfl ?_
  refine sw_iconst (x := 1) O (xx_dt dd_Jx4a65c_grow_92f84 15 rfl) (by decide) ?_
  refine sw_ishr O (xx_dt dd_Jx4a65c_grow_92f84 16 rfl) ?_
  rw [show nI (n + 1) - nI n = nI 1 from (nI_minus (by omega)).trans (by congr 1; omega), half_nat hn]
  refine sw_callSx (as := [.int (nI n), .int (nI 1), .int (nI (n / 2))]) (st := []) (st2 := [.int (nI (n + max 1 (n / 2)))]) O (ct_newLength0 hl hn) ce_J8_newLength_cabcc ml_Jx4a65c_73 st_J8_newLength_cabcc (xx_dt dd_Jx4a65c_grow_92f84 17 rfl) (by decide) rfl rfl (Nat.le_of_ble_eq_true rfl) rfl ?_
  refine sw_istore_n (ls2 := [.ref r, .int (nI (n + 1)), .int (nI n), .int (nI (n + max 1 (n / 2)))]) O (xx_dt dd_Jx4a65c_grow_92f84 18 rfl) (by decide) rfl ?_
  refine sw_aload_n O (xx_dt dd_Jx4a65c_grow_92f84 19 rfl) rfl ?_
  refine sw_aload_n O (xx_dt dd_Jx4a65c_grow_92f84 20 rfl) rfl ?_
  refine sw_get2 (v := .ref e) O (xx_dt dd_Jx4a65c_grow_92f84 21 rfl) cl_Jx4a65c ⟨fl_Jx4a65c_9.1, .inl fl_Jx4a65c_9.2⟩ hr (by decide) hF ?_
  refine sw_iload_n O (xx_dt dd_Jx4a65c_grow_92f84 22 rfl) rfl ?_
  refine xx_wid (k' := 0 + 1) (n' := 0 + (n + max 1 (n / 2))) (Nat.le_of_eq (Nat.zero_add _)) (Nat.le_of_eq (Nat.zero_add _)) (sw_callSx (k := 0) (n := 0) (k' := 1) (n' := (n + max 1 (n / 2))) (as := [.ref e, .int (nI (n + max 1 (n / 2)))]) (st := [.ref r]) (st2 := [.ref e2, .ref r]) O (ct_copyOf2 hl he (m := (n + max 1 (n / 2))) (Nat.le_add_right _ _) (show (n + max 1 (n / 2)) < 2097152 by omega) he2 h92 h3 hel) ce_J7_copyOf_1904c ml_Jx4a65c_66 st_J7_copyOf_1904c (xx_dt dd_Jx4a65c_grow_92f84 23 rfl) (by decide) rfl rfl (Nat.le_of_ble_eq_true rfl) rfl ?_)
  refine sw_dup_x1 O (xx_dt dd_Jx4a65c_grow_92f84 24 rfl) rfl rfl ?_
  refine sw_put (h2 := xx_up (xx_up h e2 (104, (n + max 1 (n / 2)), fun j => if j < n then g j else .null)) r (6, 3, updV F 1 (.ref e2))) O (xx_dt dd_Jx4a65c_grow_92f84 25 rfl) cl_Jx4a65c fl_Jx4a65c_9 (by rw [xx_up_ne (fun q => by rw [q, he2] at hr; cases hr)]; exact hr) (by decide) h1 rfl (fun _ => ⟨rfl, rfl⟩) rfl ?_
  exact sw_aret O (xx_dt dd_Jx4a65c_grow_92f84 26 rfl) rfl (.inr ⟨_, rfl⟩) (by rw [hQ]; exact ⟨rfl, rfl⟩)
theorem ct_grow0 {l : Launch} {h : XH} (hl : l.stackTraces = false) {r e2 : Nat} {F f0 : Nat → Value} (hr : h r = some (6, 3, F)) (hF : F 1 = .ref 0) (h1 : 1000 ≤ r) (he : h 0 = some (104, 0, f0)) (he2 : h e2 = none) (h92 : 1000 ≤ e2)  : XEx l m_Jx4a65c_grow_92f84 1 1 10 [.ref r, .int (nI 1)] (h) (some (.ref e2)) (xx_up (xx_up h e2 (104, 10, fun _ => .null)) r (6, 3, updV F 1 (.ref e2))) := by
  refine XMet.of hl rfl rfl (Nat.le_of_ble_eq_true rfl) (fun Y O hh hQ => ?_)
  show SW Y 1 10 (h) 0 [.ref r, .int (nI 1), xx_d, xx_d] []
  refine sw_aload_n O (xx_dt dd_Jx4a65c_grow_92f84 0 rfl) rfl ?_
  refine sw_get2 (v := .ref 0) O (xx_dt dd_Jx4a65c_grow_92f84 1 rfl) cl_Jx4a65c ⟨fl_Jx4a65c_9.1, .inl fl_Jx4a65c_9.2⟩ hr (by decide) hF ?_
  refine sw_alen (t := 104) O (xx_dt dd_Jx4a65c_grow_92f84 2 rfl) (by omega) (by omega) he ?_
  refine sw_istore_n (ls2 := [.ref r, .int (nI 1), .int (nI 0), xx_d]) O (xx_dt dd_Jx4a65c_grow_92f84 3 rfl) (by decide) rfl ?_
  refine sw_iload_n O (xx_dt dd_Jx4a65c_grow_92f84 4 rfl) rfl ?_
  refine sw_if_gt (tgt := 20) O (xx_dt dd_Jx4a65c_grow_92f84 5 rfl) (by decide) (fun q => absurd q (by decide)) (fun q => ?_)
  refine sw_aload_n O (xx_dt dd_Jx4a65c_grow_92f84 6 rfl) rfl ?_
  refine sw_get2 (v := .ref 0) O (xx_dt dd_Jx4a65c_grow_92f84 7 rfl) cl_Jx4a65c ⟨fl_Jx4a65c_9.1, .inl fl_Jx4a65c_9.2⟩ hr (by decide) hF ?_
  refine sw_getsR (i := 3) (r := 0) O (xx_dt dd_Jx4a65c_grow_92f84 8 rfl) rfl gs_Jx4a65c_39 he (by omega) ?_
  refine sw_acmp_eqS (tgt := 45) O (xx_dt dd_Jx4a65c_grow_92f84 9 rfl) (by decide) ?_
  refine sw_aload_n O (xx_dt dd_Jx4a65c_grow_92f84 27 rfl) rfl ?_
  refine sw_bipush (x := 10) O (xx_dt dd_Jx4a65c_grow_92f84 28 rfl) (by decide) ?_
  refine sw_iload_n O (xx_dt dd_Jx4a65c_grow_92f84 29 rfl) rfl ?_
  refine sw_max (st := [.ref r]) (x := nI 10) (y := nI 1) O mm_Jx4a65c_79 (xx_dt dd_Jx4a65c_grow_92f84 30 rfl) (by omega) (Nat.le_of_ble_eq_true rfl) ?_
  refine sw_anew (i := nI 10) (k := 0) (n := 0) (N := 10) (r := e2) O (xx_dt dd_Jx4a65c_grow_92f84 31 rfl) cw_Jx4a65c_7 (by decide) (by decide) (by decide) he2 h92 ?_
  rw [xx_blk_up]
  refine sw_dup_x1 O (xx_dt dd_Jx4a65c_grow_92f84 32 rfl) rfl rfl ?_
  refine sw_put (h2 := xx_up (xx_up h e2 (104, 10, fun _ => .null)) r (6, 3, updV F 1 (.ref e2))) O (xx_dt dd_Jx4a65c_grow_92f84 33 rfl) cl_Jx4a65c fl_Jx4a65c_9 (by rw [xx_up_ne (fun q => by rw [q, he2] at hr; cases hr)]; exact hr) (by decide) h1 rfl (fun _ => ⟨rfl, rfl⟩) rfl ?_
  exact sw_aret O (xx_dt dd_Jx4a65c_grow_92f84 34 rfl) rfl (.inr ⟨_, rfl⟩) (by rw [hQ]; exact ⟨rfl, rfl⟩)
theorem ct_growSF {l : Launch} {h : XH} (hl : l.stackTraces = false) {r e e2 n : Nat} {F g : Nat → Value} {c3 : XC} (hr : h r = some (6, 3, F)) (hF : F 1 = .ref e) (h1 : 1000 ≤ r) (he : h e = some (104, n, g)) (hn : n < 1048576) (he2 : h e2 = none) (h92 : 1000 ≤ e2) (h3 : h 3 = some c3) (hel : ∀ j, j < n → g j = .null ∨ ∃ x, g j = .ref x ∧ xx_obO h x) (h0n : 0 < n) (hS : F 2 = .int (nI n)) (hs0 : 1000 ≤ e := by omega) : XEx l m_Jx4a65c_grow_d5877 4 1 (n + max 1 (n / 2)) [.ref r] (h) (some (.ref e2)) (xx_up (xx_up h e2 (104, (n + max 1 (n / 2)), fun j => if j < n then g j else .null)) r (6, 3, updV F 1 (.ref e2))) := by
  refine XMet.of hl rfl rfl (Nat.le_of_ble_eq_true rfl) (fun Y O hh hQ => ?_)
  show SW Y 1 (n + max 1 (n / 2)) (h) 0 [.ref r] []
  refine sw_aload_n O (xx_dt dd_Jx4a65c_grow_d5877 0 rfl) rfl ?_
  refine sw_aload_n O (xx_dt dd_Jx4a65c_grow_d5877 1 rfl) rfl ?_
  refine sw_get2 (v := .int (nI n)) O (xx_dt dd_Jx4a65c_grow_d5877 2 rfl) cl_Jx4a65c ⟨fl_Jx4a65c_48.1, .inl fl_Jx4a65c_48.2⟩ hr (by decide) hS ?_
  refine sw_iconst (x := 1) O (xx_dt dd_Jx4a65c_grow_d5877 3 rfl) (by decide) ?_
  refine sw_iadd O (xx_dt dd_Jx4a65c_grow_d5877 4 rfl) ?_
  rw [nI_a1 n]
  refine xx_wid (k' := 0 + 1) (n' := 0 + (n + max 1 (n / 2))) (Nat.le_of_eq (Nat.zero_add _)) (Nat.le_of_eq (Nat.zero_add _)) (sw_callVx (k := 0) (n := 0) (k' := 1) (n' := (n + max 1 (n / 2))) (as := [.int (nI (n + 1))]) (st := []) (st2 := [.ref e2]) O (ct_growF hl hr hF h1 he hn he2 h92 h3 hel h0n) ce_Jx4a65c_grow_92f84 ml_Jx4a65c_69 iv_Jx4a65c_grow_92f84 cl_Jx4a65c rfl (hr) (xx_dt dd_Jx4a65c_grow_d5877 5 rfl) (by decide) rfl rfl (Nat.le_of_ble_eq_true rfl) rfl ?_)
  exact sw_aret O (xx_dt dd_Jx4a65c_grow_d5877 6 rfl) rfl (.inr ⟨_, rfl⟩) (by rw [hQ]; exact ⟨rfl, rfl⟩)
theorem ct_growS0 {l : Launch} {h : XH} (hl : l.stackTraces = false) {r e2 : Nat} {F f0 : Nat → Value} (hr : h r = some (6, 3, F)) (hF : F 1 = .ref 0) (h1 : 1000 ≤ r) (he : h 0 = some (104, 0, f0)) (he2 : h e2 = none) (h92 : 1000 ≤ e2) (hS : F 2 = .int (nI 0))  : XEx l m_Jx4a65c_grow_d5877 2 1 10 [.ref r] (h) (some (.ref e2)) (xx_up (xx_up h e2 (104, 10, fun _ => .null)) r (6, 3, updV F 1 (.ref e2))) := by
  refine XMet.of hl rfl rfl (Nat.le_of_ble_eq_true rfl) (fun Y O hh hQ => ?_)
  show SW Y 1 10 (h) 0 [.ref r] []
  refine sw_aload_n O (xx_dt dd_Jx4a65c_grow_d5877 0 rfl) rfl ?_
  refine sw_aload_n O (xx_dt dd_Jx4a65c_grow_d5877 1 rfl) rfl ?_
  refine sw_get2 (v := .int (nI 0)) O (xx_dt dd_Jx4a65c_grow_d5877 2 rfl) cl_Jx4a65c ⟨fl_Jx4a65c_48.1, .inl fl_Jx4a65c_48.2⟩ hr (by decide) hS ?_
  refine sw_iconst (x := 1) O (xx_dt dd_Jx4a65c_grow_d5877 3 rfl) (by decide) ?_
  refine sw_iadd O (xx_dt dd_Jx4a65c_grow_d5877 4 rfl) ?_
  refine xx_wid (k' := 0 + 1) (n' := 0 + 10) (Nat.le_of_eq (Nat.zero_add _)) (Nat.le_of_eq (Nat.zero_add _)) (sw_callVx (k := 0) (n := 0) (k' := 1) (n' := 10) (as := [.int (nI 1)]) (st := []) (st2 := [.ref e2]) O (ct_grow0 hl hr hF h1 he he2 h92) ce_Jx4a65c_grow_92f84 ml_Jx4a65c_69 iv_Jx4a65c_grow_92f84 cl_Jx4a65c rfl (hr) (xx_dt dd_Jx4a65c_grow_d5877 5 rfl) (by decide) rfl rfl (Nat.le_of_ble_eq_true rfl) rfl ?_)
  exact sw_aret O (xx_dt dd_Jx4a65c_grow_d5877 6 rfl) rfl (.inr ⟨_, rfl⟩) (by rw [hQ]; exact ⟨rfl, rfl⟩)
theorem ct_addA {l : Launch} {h : XH} (hl : l.stackTraces = false) {r e n cap x : Nat} {F g : Nat → Value} (hr : h r = some (6, 3, F)) (h1 : 1000 ≤ r) (he : h e = some (104, cap, g)) (h9 : 1000 ≤ e) (hre : r ≠ e) (hx : xx_obO h x) (hn : n < 1048576) (hc : n < cap) (hcap : cap < 2147483648)  : XEx l m_Jx4a65c_add_72be8 0 0 0 [.ref r, .ref x, .ref e, .int (nI n)] (h) (none) (xx_up (xx_up h e (104, cap, updV g n (.ref x))) r (6, 3, updV F 2 (.int (nI (n + 1))))) := by
  refine XMet.of hl rfl rfl (Nat.le_of_ble_eq_true rfl) (fun Y O hh hQ => ?_)
  show SW Y 0 0 (h) 0 [.ref r, .ref x, .ref e, .int (nI n)] []
  refine sw_iload_n O (xx_dt dd_Jx4a65c_add_72be8 0 rfl) rfl ?_
  refine sw_aload_n O (xx_dt dd_Jx4a65c_add_72be8 1 rfl) rfl ?_
  refine sw_alen (t := 104) O (xx_dt dd_Jx4a65c_add_72be8 2 rfl) (by omega) (by omega) he ?_
  refine sw_icmp_ne (tgt := 11) O (xx_dt dd_Jx4a65c_add_72be8 3 rfl) (by decide) (fun q => ?_) (fun q => absurd ((cn_nI (k := n) (by omega)).symm.trans ((congrArg cn q).trans (cn_nI (k := cap) (by omega)))) (by omega))
  refine sw_aload_n O (xx_dt dd_Jx4a65c_add_72be8 7 rfl) rfl ?_
  refine sw_iload_n O (xx_dt dd_Jx4a65c_add_72be8 8 rfl) rfl ?_
  refine sw_aload_n O (xx_dt dd_Jx4a65c_add_72be8 9 rfl) rfl ?_
  refine sw_aastore (h2 := xx_up h e (104, cap, updV g n (.ref x))) O (xx_dt dd_Jx4a65c_add_72be8 10 rfl) he (pk_in n cap (by omega)) h9 hx (by rw [nI_clamp (by omega)]) ?_
  refine sw_aload_n O (xx_dt dd_Jx4a65c_add_72be8 11 rfl) rfl ?_
  refine sw_iload_n O (xx_dt dd_Jx4a65c_add_72be8 12 rfl) rfl ?_
  refine sw_iconst (x := 1) O (xx_dt dd_Jx4a65c_add_72be8 13 rfl) (by decide) ?_
  refine sw_iadd O (xx_dt dd_Jx4a65c_add_72be8 14 rfl) ?_
  rw [nI_a1 n]
  refine sw_put (h2 := xx_up (xx_up h e (104, cap, updV g n (.ref x))) r (6, 3, updV F 2 (.int (nI (n + 1))))) O (xx_dt dd_Jx4a65c_add_72be8 15 rfl) cl_Jx4a65c fl_Jx4a65c_48 (by rw [xx_up_ne hre]; exact hr) (by decide) h1 rfl (fun _ => ⟨rfl, rfl⟩) rfl ?_
  exact sw_ret O (xx_dt dd_Jx4a65c_add_72be8 16 rfl) rfl (by rw [hQ]; exact ⟨rfl, rfl⟩)
theorem ct_addB {l : Launch} {h : XH} (hl : l.stackTraces = false) {r e e2 n : Nat} {F g : Nat → Value} {c3 : XC} (hr : h r = some (6, 3, F)) (hF : F 1 = .ref e) (h1 : 1000 ≤ r) (he : h e = some (104, n, g)) (hn : n < 1048576) (he2 : h e2 = none) (h92 : 1000 ≤ e2) (h3 : h 3 = some c3) (hel : ∀ j, j < n → g j = .null ∨ ∃ x, g j = .ref x ∧ xx_obO h x) (h0n : 0 < n) (hS : F 2 = .int (nI n)) {x : Nat} (hx : xx_obO h x)  (hxr : x ≠ r) (hs0 : 1000 ≤ e := by omega) : XEx l m_Jx4a65c_add_72be8 5 1 (n + max 1 (n / 2)) [.ref r, .ref x, .ref e, .int (nI n)] (h) (none) (xx_up (xx_up (xx_up (xx_up h e2 (104, (n + max 1 (n / 2)), fun j => if j < n then g j else .null)) r (6, 3, updV F 1 (.ref e2))) e2 (104, (n + max 1 (n / 2)), updV (fun j => if j < n then g j else .null) n (.ref x))) r (6, 3, updV (updV F 1 (.ref e2)) 2 (.int (nI (n + 1))))) := by
  refine XMet.of hl rfl rfl (Nat.le_of_ble_eq_true rfl) (fun Y O hh hQ => ?_)
  have hre2 : r ≠ e2 := fun q => by rw [q, he2] at hr; cases hr
  show SW Y 1 (n + max 1 (n / 2)) (h) 0 [.ref r, .ref x, .ref e, .int (nI n)] []
  refine sw_iload_n O (xx_dt dd_Jx4a65c_add_72be8 0 rfl) rfl ?_
  refine sw_aload_n O (xx_dt dd_Jx4a65c_add_72be8 1 rfl) rfl ?_
  refine sw_alen (t := 104) O (xx_dt dd_Jx4a65c_add_72be8 2 rfl) (by omega) (by omega) he ?_
  refine sw_icmp_ne (tgt := 11) O (xx_dt dd_Jx4a65c_add_72be8 3 rfl) (by decide) (fun q => absurd rfl q) (fun q => ?_)
  refine sw_aload_n O (xx_dt dd_Jx4a65c_add_72be8 4 rfl) rfl ?_
  refine xx_wid (k' := 0 + 1) (n' := 0 + (n + max 1 (n / 2))) (Nat.le_of_eq (Nat.zero_add _)) (Nat.le_of_eq (Nat.zero_add _)) (sw_callVx (k := 0) (n := 0) (k' := 1) (n' := (n + max 1 (n / 2))) (as := []) (st := []) (st2 := [.ref e2]) O (ct_growSF hl hr hF h1 he hn he2 h92 h3 hel h0n hS) ce_Jx4a65c_grow_d5877 ml_Jx4a65c_129 iv_Jx4a65c_grow_d5877 cl_Jx4a65c rfl (hr) (xx_dt dd_Jx4a65c_add_72be8 5 rfl) (by decide) rfl rfl (Nat.le_of_ble_eq_true rfl) rfl ?_)
  refine sw_astore_n (ls2 := [.ref r, .ref x, .ref e2, .int (nI n)]) O (xx_dt dd_Jx4a65c_add_72be8 6 rfl) (by decide) rfl ?_
  refine sw_aload_n O (xx_dt dd_Jx4a65c_add_72be8 7 rfl) rfl ?_
  refine sw_iload_n O (xx_dt dd_Jx4a65c_add_72be8 8 rfl) rfl ?_
  refine sw_aload_n O (xx_dt dd_Jx4a65c_add_72be8 9 rfl) rfl ?_
  refine sw_aastore (h2 := xx_up (xx_up (xx_up h e2 (104, (n + max 1 (n / 2)), fun j => if j < n then g j else .null)) r (6, 3, updV F 1 (.ref e2))) e2 (104, (n + max 1 (n / 2)), updV (fun j => if j < n then g j else .null) n (.ref x))) O (xx_dt dd_Jx4a65c_add_72be8 10 rfl) (by rw [xx_up_ne (Ne.symm hre2), xx_up_eq]) (pk_in n _ (by omega)) h92 ((hx.up (hx.nn he2)).up hxr) (by rw [nI_clamp (by omega)]) ?_
  refine sw_aload_n O (xx_dt dd_Jx4a65c_add_72be8 11 rfl) rfl ?_
  refine sw_iload_n O (xx_dt dd_Jx4a65c_add_72be8 12 rfl) rfl ?_
  refine sw_iconst (x := 1) O (xx_dt dd_Jx4a65c_add_72be8 13 rfl) (by decide) ?_
  refine sw_iadd O (xx_dt dd_Jx4a65c_add_72be8 14 rfl) ?_
  rw [nI_a1 n]
  refine sw_put (h2 := xx_up (xx_up (xx_up (xx_up h e2 (104, (n + max 1 (n / 2)), fun j => if j < n then g j else .null)) r (6, 3, updV F 1 (.ref e2))) e2 (104, (n + max 1 (n / 2)), updV (fun j => if j < n then g j else .null) n (.ref x))) r (6, 3, updV (updV F 1 (.ref e2)) 2 (.int (nI (n + 1))))) O (xx_dt dd_Jx4a65c_add_72be8 15 rfl) cl_Jx4a65c fl_Jx4a65c_48 (by rw [xx_up_ne hre2, xx_up_eq]) (by decide) h1 rfl (fun _ => ⟨rfl, rfl⟩) rfl ?_
  exact sw_ret O (xx_dt dd_Jx4a65c_add_72be8 16 rfl) rfl (by rw [hQ]; exact ⟨rfl, rfl⟩)
theorem ct_addC {l : Launch} {h : XH} (hl : l.stackTraces = false) {r e2 : Nat} {F f0 : Nat → Value} (hr : h r = some (6, 3, F)) (hF : F 1 = .ref 0) (h1 : 1000 ≤ r) (he : h 0 = some (104, 0, f0)) (he2 : h e2 = none) (h92 : 1000 ≤ e2) (hS : F 2 = .int (nI 0)) {x : Nat} (hx : xx_obO h x)  (hxr : x ≠ r) : XEx l m_Jx4a65c_add_72be8 3 1 10 [.ref r, .ref x, .ref 0, .int (nI 0)] (h) (none) (xx_up (xx_up (xx_up (xx_up h e2 (104, 10, fun _ => .null)) r (6, 3, updV F 1 (.ref e2))) e2 (104, 10, updV (fun _ => .null) 0 (.ref x))) r (6, 3, updV (updV F 1 (.ref e2)) 2 (.int (nI (0 + 1))))) := by
  refine XMet.of hl rfl rfl (Nat.le_of_ble_eq_true rfl) (fun Y O hh hQ => ?_)
  have hre2 : r ≠ e2 := fun q => by rw [q, he2] at hr; cases hr
  show SW Y 1 10 (h) 0 [.ref r, .ref x, .ref 0, .int (nI 0)] []
  refine sw_iload_n O (xx_dt dd_Jx4a65c_add_72be8 0 rfl) rfl ?_
  refine sw_aload_n O (xx_dt dd_Jx4a65c_add_72be8 1 rfl) rfl ?_
  refine sw_alen (t := 104) O (xx_dt dd_Jx4a65c_add_72be8 2 rfl) (by omega) (by omega) he ?_
  refine sw_icmp_ne (tgt := 11) O (xx_dt dd_Jx4a65c_add_72be8 3 rfl) (by decide) (fun q => absurd rfl q) (fun q => ?_)
  refine sw_aload_n O (xx_dt dd_Jx4a65c_add_72be8 4 rfl) rfl ?_
  refine xx_wid (k' := 0 + 1) (n' := 0 + 10) (Nat.le_of_eq (Nat.zero_add _)) (Nat.le_of_eq (Nat.zero_add _)) (sw_callVx (k := 0) (n := 0) (k' := 1) (n' := 10) (as := []) (st := []) (st2 := [.ref e2]) O (ct_growS0 hl hr hF h1 he he2 h92 hS) ce_Jx4a65c_grow_d5877 ml_Jx4a65c_129 iv_Jx4a65c_grow_d5877 cl_Jx4a65c rfl (hr) (xx_dt dd_Jx4a65c_add_72be8 5 rfl) (by decide) rfl rfl (Nat.le_of_ble_eq_true rfl) rfl ?_)
  refine sw_astore_n (ls2 := [.ref r, .ref x, .ref e2, .int (nI 0)]) O (xx_dt dd_Jx4a65c_add_72be8 6 rfl) (by decide) rfl ?_
  refine sw_aload_n O (xx_dt dd_Jx4a65c_add_72be8 7 rfl) rfl ?_
  refine sw_iload_n O (xx_dt dd_Jx4a65c_add_72be8 8 rfl) rfl ?_
  refine sw_aload_n O (xx_dt dd_Jx4a65c_add_72be8 9 rfl) rfl ?_
  refine sw_aastore (h2 := xx_up (xx_up (xx_up h e2 (104, 10, fun _ => .null)) r (6, 3, updV F 1 (.ref e2))) e2 (104, 10, updV (fun _ => .null) 0 (.ref x))) O (xx_dt dd_Jx4a65c_add_72be8 10 rfl) (by rw [xx_up_ne (Ne.symm hre2), xx_up_eq]) (pk_in 0 _ (by omega)) h92 ((hx.up (hx.nn he2)).up hxr) (by rw [nI_clamp (by omega)]) ?_
  refine sw_aload_n O (xx_dt dd_Jx4a65c_add_72be8 11 rfl) rfl ?_
  refine sw_iload_n O (xx_dt dd_Jx4a65c_add_72be8 12 rfl) rfl ?_
  refine sw_iconst (x := 1) O (xx_dt dd_Jx4a65c_add_72be8 13 rfl) (by decide) ?_
  refine sw_iadd O (xx_dt dd_Jx4a65c_add_72be8 14 rfl) ?_
  refine sw_put (h2 := xx_up (xx_up (xx_up (xx_up h e2 (104, 10, fun _ => .null)) r (6, 3, updV F 1 (.ref e2))) e2 (104, 10, updV (fun _ => .null) 0 (.ref x))) r (6, 3, updV (updV F 1 (.ref e2)) 2 (.int (nI (0 + 1))))) O (xx_dt dd_Jx4a65c_add_72be8 15 rfl) cl_Jx4a65c fl_Jx4a65c_48 (by rw [xx_up_ne hre2, xx_up_eq]) (by decide) h1 rfl (fun _ => ⟨rfl, rfl⟩) rfl ?_
  exact sw_ret O (xx_dt dd_Jx4a65c_add_72be8 16 rfl) rfl (by rw [hQ]; exact ⟨rfl, rfl⟩)
