/-! ===== the law's loop ===== -/
def sInt (s : Option (Nat × (Nat → Value))) : Prop := ∀ p, s = some p → ∀ j, j < p.1 → ∃ x : Int32, p.2 j = .int x
theorem hL_in {h0 : XH} {z : Int64} {τ σ : XS9} {n : Int64} {s : Option (Nat × (Nat → Value))} {c11 : XC} (h11 : h0 11 = some c11) {i : Nat} : ∀ v ∈ ([.ref 11, .ref 1000, .ref 5000, .ref 4500, .int (nI (5 * i)), xx_d, xx_d] : List Value), xx_in (hL h0 z τ σ n s) v := by
  intro v hv
  simp only [List.mem_cons, List.not_mem_nil, or_false] at hv
  rcases hv with rfl | rfl | rfl | rfl | rfl | rfl | rfl
  · show (hL h0 z τ σ n s 11).isSome = true
    rw [hL_lo (by omega), h11]; rfl
  · obtain ⟨f, e⟩ := hL_1000 (h0 := h0) (z := z) (τ := τ) (σ := σ) (n := n) (s := s)
    show (hL h0 z τ σ n s 1000).isSome = true
    rw [e]; rfl
  · exact in_mod
  · show (hL h0 z τ σ n s 4500).isSome = true
    rw [hL_4500]; rfl
  · trivial
  · trivial
  · trivial
theorem hL_in2 {h0 : XH} {z : Int64} {τ σ : XS9} {n : Int64} {s : Option (Nat × (Nat → Value))} {c11 : XC} (h11 : h0 11 = some c11) {i : Nat} {a b : Int32} : ∀ v ∈ ([.ref 11, .ref 1000, .ref 5000, .ref 4500, .int (nI (5 * i)), .int a, .int b] : List Value), xx_in (hL h0 z τ σ n s) v := by
  intro v hv
  simp only [List.mem_cons, List.not_mem_nil, or_false] at hv
  rcases hv with rfl | rfl | rfl | rfl | rfl | rfl | rfl
  · show (hL h0 z τ σ n s 11).isSome = true
    rw [hL_lo (by omega), h11]; rfl
  · obtain ⟨f, e⟩ := hL_1000 (h0 := h0) (z := z) (τ := τ) (σ := σ) (n := n) (s := s)
    show (hL h0 z τ σ n s 1000).isSome = true
    rw [e]; rfl
  · exact in_mod
  · show (hL h0 z τ σ n s 4500).isSome = true
    rw [hL_4500]; rfl
  · trivial
  · trivial
  · trivial
theorem mc_in {h0 : XH} {z : Int64} {τ σ : XS9} {c11 : XC} (h11 : h0 11 = some c11) {i : Nat} : ∀ v ∈ ([.ref 11, .ref 1000, .ref 5000, .ref 4500, .int (nI (5 * i)), xx_d, xx_d] : List Value), ∀ a : Nat, v = .ref a → a = 4500 ∨ ((setM z τ (setC σ h0)) a).isSome = true := by
  intro v hv a e
  simp only [List.mem_cons, List.not_mem_nil, or_false] at hv
  rcases hv with rfl | rfl | rfl | rfl | rfl | rfl | rfl
  · right; cases e; rw [setM_out (by omega), setC_out (by omega), h11]; rfl
  · right; cases e; rw [setM_out (by omega), ly_1000]; rfl
  · right; cases e; rw [lm_mod]; rfl
  · left; cases e; rfl
  · cases e
  · cases e
  · cases e
theorem n5 {len i : Nat} (h : len ≤ 2560) (hi : 5 * i ≤ 2560) : nI len - 5 < nI (5 * i) ↔ len < 5 * i + 5 := by
  have e1 : (nI len - 5).toInt = (len : Int) - 5 := by
    rcases Nat.lt_or_ge len 5 with q | q
    · have : ∀ a : Fin 5, (nI a.1 - 5).toInt = (a.1 : Int) - 5 := by decide +kernel
      exact this ⟨len, q⟩
    · obtain ⟨m, rfl⟩ : ∃ m, len = m + 5 := ⟨len - 5, by omega⟩
      have e2 : nI (m + 5) - 5 = nI m := by
        have := nI_plus m 5
        rw [← this]
        show nI m + 5 - 5 = nI m
        rw [Int32.add_sub_cancel]
      rw [e2, toI_nI (by omega)]
      omega
  rw [i_lt, e1, toI_nI (by omega)]
  omega
def IF_ask (l : Launch) (LI : XS9 → XS9 → Prop) : Prop := ∀ (z : Int64) (τ σ : XS9) (p0 p1 : Int32), LI τ σ → ∃ (o : Int32 ⊕ String) (σ' : XS9) (v : Int32) (z' : Int64) (τ' : XS9) (b : Option (Int32 × Nat)), (∀ h, okC h → XEo l m_X7_ask 7 1 6 [.ref 1000, .int p0, .int p1] (setC σ h) (xoi o) (setC σ' h)) ∧ (∀ E, o = .inr E → E = eIOB ∨ E = eIAE) ∧ (∀ h, okM h → XEx l m_X14_ask 9 1 1 [.ref 5000, .int p0, .int p1] (setM z τ h) (some (.int v)) (setM z' τ' (boxO h b))) ∧ (∀ p, b = some p → 10200 ≤ p.2 ∧ p.2 < 10300 ∧ (∀ s, lyQ z' (ctl τ') p.2 s = none) ∧ ∀ k, k < cn (τ' 5004 900) → xx_box (τ' 5004 k) (nmS τ' k) ≠ p.2) ∧ LI τ' σ' ∧ (τ' 5000 0 = lw_k [eIOB, eIAE] o ∧ ∀ w, o = .inl w → w = v)
theorem lc_13 {Y : XY} {l : Launch} {h0 : XH} {xs : Nat → Int32} {len i : Nat} {n : Int64} {s : Option (Nat × (Nat → Value))} {z : Int64} {τ σ : XS9} {LI : XS9 → XS9 → Prop} (O : xx_O Y m_L_law l 40) (hl : l.stackTraces = false) (hB : okB h0) (h11 : h0 11 = some (100, len, fun j => .int (xs j))) (hi : 5 * i + 5 ≤ len) (hlen : len ≤ 2560) (hI : LI τ σ) (hc0 : xx_cls h0) (hcb : ∀ τ σ, LI τ σ → cbd (ctl τ)) (hmeI : ∀ τ σ, LI τ σ → mem_eq τ τ) (hY0 : ∀ r, (xy_h Y r).isSome = true → r < 1000 ∧ (h0 r).isSome = true) (hSi : sInt s) (hif : IF_ask l LI) {k9 n9 : Nat} (kk : ∀ z τ σ n s, LI τ σ → sInt s → SW Y k9 n9 (hL h0 z τ σ n s) 2654 [.ref 11, .ref 1000, .ref 5000, .ref 4500, .int (nI (5 * i)), xx_d, xx_d] []) : SW Y (k9 + 700) (n9 + 10000) (hL h0 z τ σ n s) 1093 [.ref 11, .ref 1000, .ref 5000, .ref 4500, .int (nI (5 * i)), xx_d, xx_d] [] := by
  obtain ⟨kT, ekT⟩ : ∃ q, q = k9 + 700 := ⟨_, rfl⟩
  obtain ⟨nT, enT⟩ : ∃ q, q = n9 + 10000 := ⟨_, rfl⟩
  refine xx_wid (k' := kT) (n' := nT) (by omega) (by omega) ?_
  obtain ⟨o, σ', v, z', τ', b, hC, hE, hM, hb, hI', hT, hV⟩ := hif z τ σ (xs (5 * i + 1)) (xs (5 * i + 2)) hI
  refine sw_aload_n O (xx_dt dd_L_law_9 46 rfl) rfl ?_
  refine sw_aload_n O (xx_dt dd_L_law_9 47 rfl) rfl ?_
  refine sw_iload O (xx_dt dd_L_law_9 48 rfl) rfl ?_
  refine sw_iconst (x := 1) O (xx_dt dd_L_law_9 49 rfl) (by decide) ?_
  refine sw_iadd O (xx_dt dd_L_law_9 50 rfl) ?_
  rw [show nI (5 * i) + 1 = nI (5 * i + 1) from nI_plus (5 * i) 1]
  refine sw_iaload (v := .int (xs (5 * i + 1))) O (xx_dt dd_L_law_9 51 rfl) ((hL_lo (by omega)).trans h11) (pk_in (5 * i + 1) _ (by omega)) (by rw [nI_clamp (by omega)]) ?_
  refine sw_aload_n O (xx_dt dd_L_law_9 52 rfl) rfl ?_
  refine sw_iload O (xx_dt dd_L_law_9 53 rfl) rfl ?_
  refine sw_iconst (x := 2) O (xx_dt dd_L_law_9 54 rfl) (by decide) ?_
  refine sw_iadd O (xx_dt dd_L_law_9 55 rfl) ?_
  rw [show nI (5 * i) + 2 = nI (5 * i + 2) from nI_plus (5 * i) 2]
  refine sw_iaload (v := .int (xs (5 * i + 2))) O (xx_dt dd_L_law_9 56 rfl) ((hL_lo (by omega)).trans h11) (pk_in (5 * i + 2) _ (by omega)) (by rw [nI_clamp (by omega)]) ?_
  refine sw_aload_n O (xx_dt dd_L_law_9 57 rfl) rfl ?_
  rw [hL_c]
  refine xx_wid (k' := (k9 + 699) + 1) (n' := (n9 + 9994) + 6) (by omega) (by omega) (sw_callSH (k := k9 + 699) (n := n9 + 9994) (k' := 1) (n' := 6) (as := [.ref 1000, .int (xs (5 * i + 1)), .int (xs (5 * i + 2)), .ref 4500]) (st := []) (st2 := [.int (lw_k [eIOB, eIAE] o)]) O (lw_ask hl (hC _ ⟨h0, z, τ, n, s, hB, rfl⟩) (ly_1000 σ _) (F := fO n (sO s)) ((setC_out (by omega)).trans ((setM_out (by omega)).trans hO_4500)) hE) ch_L_ask mk_L_191 st_L_ask (xx_dt dd_L_law_9 58 rfl) (by decide) rfl rfl (Nat.le_of_ble_eq_true rfl) rfl ?_)
  rw [lw_g_e]
  refine sw_istore (ls2 := [.ref 11, .ref 1000, .ref 5000, .ref 4500, .int (nI (5 * i)), .int (lw_k [eIOB, eIAE] o), xx_d]) O (xx_dt dd_L_law_9 59 rfl) (by decide) rfl ?_
  obtain ⟨kT, ekT⟩ : ∃ q, q = k9 + 699 := ⟨_, rfl⟩
  obtain ⟨nT, enT⟩ : ∃ q, q = n9 + 9994 := ⟨_, rfl⟩
  refine xx_wid (k' := kT) (n' := nT) (by omega) (by omega) ?_
  show SW Y _ _ (setM z τ (setC σ' (hO h0 (lw_n n o Int32.toInt64) s))) 1112 [.ref 11, .ref 1000, .ref 5000, .ref 4500, .int (nI (5 * i)), .int (lw_k [eIOB, eIAE] o), xx_d] []
  refine sw_aload_n O (xx_dt dd_L_law_10 0 rfl) rfl ?_
  refine sw_aload_n O (xx_dt dd_L_law_10 1 rfl) rfl ?_
  refine sw_iload O (xx_dt dd_L_law_10 2 rfl) rfl ?_
  refine sw_iconst (x := 1) O (xx_dt dd_L_law_10 3 rfl) (by decide) ?_
  refine sw_iadd O (xx_dt dd_L_law_10 4 rfl) ?_
  rw [show nI (5 * i) + 1 = nI (5 * i + 1) from nI_plus (5 * i) 1]
  refine sw_iaload (v := .int (xs (5 * i + 1))) O (xx_dt dd_L_law_10 5 rfl) ((setM_out (by omega)).trans ((setC_out (by omega)).trans ((hO_o (by omega) (by omega) (by omega)).trans h11))) (pk_in (5 * i + 1) _ (by omega)) (by rw [nI_clamp (by omega)]) ?_
  refine sw_aload_n O (xx_dt dd_L_law_10 6 rfl) rfl ?_
  refine sw_iload O (xx_dt dd_L_law_10 7 rfl) rfl ?_
  refine sw_iconst (x := 2) O (xx_dt dd_L_law_10 8 rfl) (by decide) ?_
  refine sw_iadd O (xx_dt dd_L_law_10 9 rfl) ?_
  rw [show nI (5 * i) + 2 = nI (5 * i + 2) from nI_plus (5 * i) 2]
  refine sw_iaload (v := .int (xs (5 * i + 2))) O (xx_dt dd_L_law_10 10 rfl) ((setM_out (by omega)).trans ((setC_out (by omega)).trans ((hO_o (by omega) (by omega) (by omega)).trans h11))) (pk_in (5 * i + 2) _ (by omega)) (by rw [nI_clamp (by omega)]) ?_
  refine xx_wid (k' := (k9 + 698) + 1) (n' := (n9 + 9993) + 1) (by omega) (by omega) (sw_callVx (k := k9 + 698) (n := n9 + 9993) (k' := 1) (n' := 1) (as := [.int (xs (5 * i + 1)), .int (xs (5 * i + 2))]) (st := []) (st2 := [.int v]) O (hM _ ⟨h0, σ', _, s, hB, rfl⟩) ce_X14_ask ml_L_193 iv_X14_ask cl_X14 rfl lm_mod (xx_dt dd_L_law_10 11 rfl) (by decide) rfl rfl (Nat.le_of_ble_eq_true rfl) rfl ?_)
  refine sw_istore (ls2 := [.ref 11, .ref 1000, .ref 5000, .ref 4500, .int (nI (5 * i)), .int (lw_k [eIOB, eIAE] o), .int v]) O (xx_dt dd_L_law_10 12 rfl) (by decide) rfl ?_
  obtain ⟨d1, d2⟩ := drop_ask (z := z') (σ := σ') (n := (lw_n n o Int32.toInt64)) hB hc0 (hcb _ _ hI') hb hSi
  refine sw_cls (fun hcl => ?_)
  refine sw_drop (h2 := hL h0 z' τ' σ' (lw_n n o Int32.toInt64) s) d1 (d2 hcl) (fun r hr => by rw [hL_lo (hY0 r hr).1]; exact (hY0 r hr).2) (hL_in2 h11) (by intro v9 hv9; cases hv9) ?_
  show SW Y _ _ (setM z' τ' (setC σ' (hO h0 (lw_n n o Int32.toInt64) s))) 1130 [.ref 11, .ref 1000, .ref 5000, .ref 4500, .int (nI (5 * i)), .int (lw_k [eIOB, eIAE] o), .int v] []
  refine sw_aload_n O (xx_dt dd_L_law_10 13 rfl) rfl ?_
  obtain ⟨kT, ekT⟩ : ∃ q, q = k9 + 698 := ⟨_, rfl⟩
  obtain ⟨nT, enT⟩ : ∃ q, q = n9 + 9993 := ⟨_, rfl⟩
  refine xx_wid (k' := kT) (n' := nT) (by omega) (by omega) ?_
  refine sw_callVx (as := []) (st := []) (st2 := [.int (f_Mthrown τ')]) O (ct_X14_thrown hl (okM.bs ⟨h0, σ', _, s, hB, rfl⟩)) ce_X14_thrown ml_L_147 iv_X14_thrown cl_X14 rfl lm_mod (xx_dt dd_L_law_10 14 rfl) (by decide) rfl rfl (Nat.le_of_ble_eq_true rfl) rfl ?_
  refine sw_iload O (xx_dt dd_L_law_10 15 rfl) rfl ?_
  refine sw_icmp_eq (tgt := 1141) O (xx_dt dd_L_law_10 16 rfl) (by decide) (fun _ => ?_) (fun q9 => absurd (show f_Mthrown τ' = _ from hT) q9)
  refine sw_iload O (xx_dt dd_L_law_10 19 rfl) rfl ?_
  cases o with
  | inr E =>
    refine sw_if_ne (tgt := 1159) O (xx_dt dd_L_law_10 20 rfl) (by decide) (fun _ => ?_) (fun q9 => ?_)
    · refine sw_goto (tgt := 2654) O (xx_dt dd_L_law_10 29 rfl) (by decide) ?_
      refine sw_dum (ls2 := [.ref 11, .ref 1000, .ref 5000, .ref 4500, .int (nI (5 * i)), xx_d, xx_d]) ⟨.inr rfl, .inr rfl, .inr rfl, .inr rfl, .inr rfl, .inl rfl, .inl rfl, trivial⟩ ?_
      refine xx_wid (k' := k9) (n' := n9) (by omega) (by omega) ?_
      exact kk z' τ' σ' _ s hI' hSi
    · exfalso
      rcases hE E rfl with rfl | rfl
      · revert q9; decide
      · revert q9; decide
  | inl w =>
    obtain rfl := hV w rfl
    refine sw_if_ne (tgt := 1159) O (xx_dt dd_L_law_10 20 rfl) (by decide) (fun q9 => absurd rfl q9) (fun _ => ?_)
    refine sw_aload_n O (xx_dt dd_L_law_10 21 rfl) rfl ?_
    refine sw_get (v := .long (Int32.toInt64 w)) O (xx_dt dd_L_law_10 22 rfl) cl_X8 fl_L_13 ((setM_out (by omega)).trans ((setC_out (by omega)).trans hO_4500)) (by decide) rfl ?_
    refine sw_iload O (xx_dt dd_L_law_10 23 rfl) rfl ?_
    refine sw_i2l O (xx_dt dd_L_law_10 24 rfl) ?_
    refine sw_lcmp O (xx_dt dd_L_law_10 25 rfl) ?_
    refine sw_if_eq (tgt := 1159) O (xx_dt dd_L_law_10 26 rfl) (by decide) (fun _ => ?_) (fun q9 => absurd (lw_cmp _) q9)
    refine sw_goto (tgt := 2654) O (xx_dt dd_L_law_10 29 rfl) (by decide) ?_
    refine sw_dum (ls2 := [.ref 11, .ref 1000, .ref 5000, .ref 4500, .int (nI (5 * i)), xx_d, xx_d]) ⟨.inr rfl, .inr rfl, .inr rfl, .inr rfl, .inr rfl, .inl rfl, .inl rfl, trivial⟩ ?_
    refine xx_wid (k' := k9) (n' := n9) (by omega) (by omega) ?_
    exact kk z' τ' σ' _ s hI' hSi
def txR : Option (Nat × (Nat → Value)) → Nat
  | none => 6
  | some _ => 20102
def txH (z : Int64) (τ : XS9) (h : XH) : Option (Nat × (Nat → Value)) → XH
  | none => setM z τ h
  | some p => setM z τ (hTM h p.1 p.2)
/-- what is said of a chart: both sides throw, or both have the same text -/
def relT (b b2 : Option (Nat × (Nat → Value))) (t : Int32) : Prop := match b with
  | none => t = lw_k [eIOB] (.inr eIOB : Nat ⊕ String)
  | some p => t = lw_k [eIOB] (.inl 4002 : Nat ⊕ String) ∧ b2 = some p ∧ p.1 ≤ 16 ∧ ∀ j, j < p.1 → ∃ x : Int32, p.2 j = .int x ∧ fits .byte (.int x) = true
def relK (s b2 : Option (Nat × (Nat → Value))) (k : Int32) : Prop := k = 0 → ∃ c F G, s = some (c, F) ∧ b2 = some (c, G) ∧ c ≤ 16 ∧ ∀ j, j < c → F j = G j ∧ ∃ x : Int32, G j = .int x ∧ fits .byte (.int x) = true
theorem bs_TM {h : XH} {c : Nat} {G : Nat → Value} (hb : xx_bs h) : xx_bs (hTM h c G) := bs_up (bs_up hb (by omega) (by omega) (by omega)) (by omega) (by omega) (by omega)
def IF_chart (l : Launch) (LI : XS9 → XS9 → Prop) : Prop := ∀ (z : Int64) (τ σ : XS9) (p0 : Int32), LI τ σ → ∃ (b : Option (Nat × (Nat → Value))) (t : Int32) (b2 : Option (Nat × (Nat → Value))), (∀ h, okC h → XEo l m_X7_chart 7 4 40 [.ref 1000, .int p0] (setC σ h) (xor (match b with | none => .inr eIOB | some _ => .inl 4002)) (match b with | none => setC σ h | some p => setC σ (hS h p.1 p.2))) ∧ (∀ p, b = some p → ∀ j, j < p.1 → ∃ x : Int32, p.2 j = .int x) ∧ (∀ h, okM h → XEx l m_X14_chart 9 24 158 [.ref 5000, .int p0] (setM z τ h) (some (.ref (txR b2))) (txH z (u2 τ 5000 0 t) h b2)) ∧ LI (u2 τ 5000 0 t) σ ∧ relT b b2 t
theorem lc_26 {Y : XY} {l : Launch} {h0 : XH} {xs : Nat → Int32} {len i : Nat} {n : Int64} {s : Option (Nat × (Nat → Value))} {z : Int64} {τ σ : XS9} {LI : XS9 → XS9 → Prop} (O : xx_O Y m_L_law l 40) (hl : l.stackTraces = false) (hB : okB h0) (h11 : h0 11 = some (100, len, fun j => .int (xs j))) (hi : 5 * i + 5 ≤ len) (hlen : len ≤ 2560) (hI : LI τ σ) (hc0 : xx_cls h0) (hcb : ∀ τ σ, LI τ σ → cbd (ctl τ)) (hmeI : ∀ τ σ, LI τ σ → mem_eq τ τ) (hY0 : ∀ r, (xy_h Y r).isSome = true → r < 1000 ∧ (h0 r).isSome = true) (hSi : sInt s) (hif : IF_chart l LI) {k9 n9 : Nat} (kk : ∀ z τ σ n s, LI τ σ → sInt s → SW Y k9 n9 (hL h0 z τ σ n s) 2654 [.ref 11, .ref 1000, .ref 5000, .ref 4500, .int (nI (5 * i)), xx_d, xx_d] []) : SW Y (k9 + 700) (n9 + 10000) (hL h0 z τ σ n s) 2085 [.ref 11, .ref 1000, .ref 5000, .ref 4500, .int (nI (5 * i)), xx_d, xx_d] [] := by
  obtain ⟨kT, ekT⟩ : ∃ q, q = k9 + 700 := ⟨_, rfl⟩
  obtain ⟨nT, enT⟩ : ∃ q, q = n9 + 10000 := ⟨_, rfl⟩
  refine xx_wid (k' := kT) (n' := nT) (by omega) (by omega) ?_
  obtain ⟨b, t, b2, hC, hG, hM, hI', hT⟩ := hif z τ σ (xs (5 * i + 1)) hI
  have go : ∀ (s : Option (Nat × (Nat → Value))) (k : Int32), sInt s → t = k → relK s b2 k → SW Y (k9 + 696) (n9 + 9960) (hL h0 z τ σ n s) 2096 [.ref 11, .ref 1000, .ref 5000, .ref 4500, .int (nI (5 * i)), xx_d, xx_d] [.int k] := by
    intro s k hs9 ht9 hr9
    refine sw_istore (ls2 := [.ref 11, .ref 1000, .ref 5000, .ref 4500, .int (nI (5 * i)), .int k, xx_d]) O (xx_dt dd_L_law_20 21 rfl) (by decide) rfl ?_
    refine sw_cls (fun hclA => ?_)
    obtain ⟨kT, ekT⟩ : ∃ q, q = k9 + 696 := ⟨_, rfl⟩
    obtain ⟨nT, enT⟩ : ∃ q, q = n9 + 9960 := ⟨_, rfl⟩
    refine xx_wid (k' := kT) (n' := nT) (by omega) (by omega) ?_
    show SW Y _ _ (setM z τ (setC σ (hO h0 n s))) 2098 [.ref 11, .ref 1000, .ref 5000, .ref 4500, .int (nI (5 * i)), .int k, xx_d] []
    refine sw_aload_n O (xx_dt dd_L_law_20 22 rfl) rfl ?_
    refine sw_aload_n O (xx_dt dd_L_law_20 23 rfl) rfl ?_
    refine sw_iload O (xx_dt dd_L_law_20 24 rfl) rfl ?_
    refine sw_iconst (x := 1) O (xx_dt dd_L_law_20 25 rfl) (by decide) ?_
    refine sw_iadd O (xx_dt dd_L_law_20 26 rfl) ?_
    rw [show nI (5 * i) + 1 = nI (5 * i + 1) from nI_plus (5 * i) 1]
    refine sw_iaload (v := .int (xs (5 * i + 1))) O (xx_dt dd_L_law_20 27 rfl) ((setM_out (by omega)).trans ((setC_out (by omega)).trans ((hO_o (by omega) (by omega) (by omega)).trans h11))) (pk_in (5 * i + 1) _ (by omega)) (by rw [nI_clamp (by omega)]) ?_
    refine xx_wid (k' := (k9 + 672) + 24) (n' := (n9 + 9802) + 158) (by omega) (by omega) (sw_callVx (k := k9 + 672) (n := n9 + 9802) (k' := 24) (n' := 158) (as := [.int (xs (5 * i + 1))]) (st := []) (st2 := [.ref (txR b2)]) O (hM _ ⟨h0, σ, n, s, hB, rfl⟩) ce_X14_chart ml_L_233 iv_X14_chart cl_X14 rfl lm_mod (xx_dt dd_L_law_20 28 rfl) (by decide) rfl rfl (Nat.le_of_ble_eq_true rfl) rfl ?_)
    refine sw_astore (ls2 := [.ref 11, .ref 1000, .ref 5000, .ref 4500, .int (nI (5 * i)), .int k, .ref (txR b2)]) O (xx_dt dd_L_law_20 29 rfl) (by decide) rfl ?_
    cases b2 with
    | none =>
      show SW Y _ _ (setM z (u2 τ 5000 0 t) (setC σ (hO h0 n s))) 2110 [.ref 11, .ref 1000, .ref 5000, .ref 4500, .int (nI (5 * i)), .int k, .ref 6] []
      refine sw_aload_n O (xx_dt dd_L_law_20 30 rfl) rfl ?_
      obtain ⟨kT, ekT⟩ : ∃ q, q = k9 + 672 := ⟨_, rfl⟩
      obtain ⟨nT, enT⟩ : ∃ q, q = n9 + 9802 := ⟨_, rfl⟩
      refine xx_wid (k' := kT) (n' := nT) (by omega) (by omega) ?_
      refine sw_callVx (as := []) (st := []) (st2 := [.int (f_Mthrown (u2 τ 5000 0 t))]) O (ct_X14_thrown hl (okM.bs ⟨h0, σ, n, s, hB, rfl⟩)) ce_X14_thrown ml_L_147 iv_X14_thrown cl_X14 rfl lm_mod (xx_dt dd_L_law_20 31 rfl) (by decide) rfl rfl (Nat.le_of_ble_eq_true rfl) rfl ?_
      refine sw_iload O (xx_dt dd_L_law_20 32 rfl) rfl ?_
      refine sw_icmp_eq (tgt := 2121) O (xx_dt dd_L_law_20 33 rfl) (by decide) (fun _ => ?_) (fun q9 => absurd (show f_Mthrown (u2 τ 5000 0 t) = k from u2_at.trans ht9) q9)
      refine sw_iload O (xx_dt dd_L_law_20 36 rfl) rfl ?_
      refine sw_if_ne (tgt := 2140) O (xx_dt dd_L_law_20 37 rfl) (by decide) (fun _ => ?_) (fun q9 => ?_)
      · refine sw_goto (tgt := 2654) O (xx_dt dd_L_law_20 45 rfl) (by decide) ?_
        refine sw_dum (ls2 := [.ref 11, .ref 1000, .ref 5000, .ref 4500, .int (nI (5 * i)), xx_d, xx_d]) ⟨.inr rfl, .inr rfl, .inr rfl, .inr rfl, .inr rfl, .inl rfl, .inl rfl, trivial⟩ ?_
        refine xx_wid (k' := k9) (n' := n9) (by omega) (by omega) ?_
        exact kk z _ σ n s hI' hs9
      · obtain ⟨c, F, G, e1, e2, -⟩ := hr9 q9
        cases e2
    | some p =>
      have hclS : xx_cls (hL h0 z (u2 τ 5000 0 t) σ n s) := (mem_eq.int (r := 5000) (i := 0) (x := t) (hmeI _ _ hI) rfl).cls hclA
      show SW Y _ _ (setM z (u2 τ 5000 0 t) (hTM (setC σ (hO h0 n s)) p.1 p.2)) 2110 [.ref 11, .ref 1000, .ref 5000, .ref 4500, .int (nI (5 * i)), .int k, .ref 20102] []
      refine sw_aload_n O (xx_dt dd_L_law_20 30 rfl) rfl ?_
      obtain ⟨kT, ekT⟩ : ∃ q, q = k9 + 672 := ⟨_, rfl⟩
      obtain ⟨nT, enT⟩ : ∃ q, q = n9 + 9802 := ⟨_, rfl⟩
      refine xx_wid (k' := kT) (n' := nT) (by omega) (by omega) ?_
      refine sw_callVx (as := []) (st := []) (st2 := [.int (f_Mthrown (u2 τ 5000 0 t))]) O (ct_X14_thrown hl (bs_TM (okM.bs ⟨h0, σ, n, s, hB, rfl⟩))) ce_X14_thrown ml_L_147 iv_X14_thrown cl_X14 rfl lm_mod (xx_dt dd_L_law_20 31 rfl) (by decide) rfl rfl (Nat.le_of_ble_eq_true rfl) rfl ?_
      refine sw_iload O (xx_dt dd_L_law_20 32 rfl) rfl ?_
      refine sw_icmp_eq (tgt := 2121) O (xx_dt dd_L_law_20 33 rfl) (by decide) (fun _ => ?_) (fun q9 => absurd (show f_Mthrown (u2 τ 5000 0 t) = k from u2_at.trans ht9) q9)
      refine sw_iload O (xx_dt dd_L_law_20 36 rfl) rfl ?_
      refine sw_if_ne (tgt := 2140) O (xx_dt dd_L_law_20 37 rfl) (by decide) (fun _ => ?_) (fun q9 => ?_)
      · refine sw_goto (tgt := 2654) O (xx_dt dd_L_law_20 45 rfl) (by decide) ?_
        refine sw_dum (ls2 := [.ref 11, .ref 1000, .ref 5000, .ref 4500, .int (nI (5 * i)), xx_d, xx_d]) ⟨.inr rfl, .inr rfl, .inr rfl, .inr rfl, .inr rfl, .inl rfl, .inl rfl, trivial⟩ ?_
        refine xx_wid (k' := k9) (n' := n9) (by omega) (by omega) ?_
        refine sw_drop (h2 := hL h0 z (u2 τ 5000 0 t) σ n s) (hTM_drop (fun q a1 _ => (okM.lo (.inr (by omega))).trans (hB.2.2 q (by omega)))) hclS (fun r hr => by rw [hL_lo (hY0 r hr).1]; exact (hY0 r hr).2) (hL_in h11) (by intro v9 hv9; cases hv9) ?_
        exact kk z _ σ n s hI' hs9
      · obtain ⟨c, F, G, e1, e2, hc16, hFG⟩ := hr9 q9
        cases e1
        cases e2
        have hA : setM z (u2 τ 5000 0 t) (hTM (setC σ (hO h0 n (some (c, F)))) c G) 4502 = some (0, 4, xx_so 4503) := (setM_out (by omega)).trans ((xx_up_ne (by omega)).trans ((xx_up_ne (by omega)).trans ((setC_out (by omega)).trans ((xx_up_ne (by omega)).trans (xx_up_eq _ _ _)))))
        have hA2 : setM z (u2 τ 5000 0 t) (hTM (setC σ (hO h0 n (some (c, F)))) c G) 4503 = some (102, c, F) := (setM_out (by omega)).trans ((xx_up_ne (by omega)).trans ((xx_up_ne (by omega)).trans ((setC_out (by omega)).trans (xx_up_eq _ _ _))))
        have hA5 : setM z (u2 τ 5000 0 t) (hTM (setC σ (hO h0 n (some (c, F)))) c G) 4500 = some (14, 2, fO n (.ref 4502)) := (setM_out (by omega)).trans ((xx_up_ne (by omega)).trans ((xx_up_ne (by omega)).trans ((setC_out (by omega)).trans hO_4500)))
        have hD : setM z (u2 τ 5000 0 t) (hTM (setC σ (hO h0 n (some (c, F)))) c G) 20102 = some (0, 4, xx_so 20103) := (setM_out (by omega)).trans ((xx_up_ne (by omega)).trans (xx_up_eq _ _ _))
        have hD2 : setM z (u2 τ 5000 0 t) (hTM (setC σ (hO h0 n (some (c, F)))) c G) 20103 = some (102, c, fun j => if j < c then G j else .int 0) := (setM_out (by omega)).trans (xx_up_eq _ _ _)
        have hfF : ∀ j, j < c → ∃ x : Int32, F j = .int x ∧ fits .byte (.int x) = true := fun j hj => by
          rw [(hFG j hj).1]
          exact (hFG j hj).2
        have hfG : ∀ j, j < c → ∃ x : Int32, (fun j => if j < c then G j else Value.int 0) j = .int x ∧ fits .byte (.int x) = true := fun j hj => by
          show ∃ x : Int32, (if j < c then G j else Value.int 0) = .int x ∧ _
          rw [if_pos hj]
          exact (hFG j hj).2
        refine sw_aload_n O (xx_dt dd_L_law_20 38 rfl) rfl ?_
        refine sw_get (v := .ref 4502) O (xx_dt dd_L_law_20 39 rfl) cl_X8 fl_L_111 hA5 (by decide) rfl ?_
        refine sw_aload O (xx_dt dd_L_law_20 40 rfl) rfl ?_
        refine sw_callVx (as := [.ref 20102]) (st := []) (st2 := [.int 1]) O (tx_equals hl (t := 4502) (u := 4503) (m := c) (F := F) (t2 := 20102) (u2 := 20103) (F2 := fun j => if j < c then G j else Value.int 0) ⟨⟨_, hA, rfl, rfl⟩, hA2, hfF, hc16⟩ ⟨⟨_, hD, rfl, rfl⟩, hD2, hfG, hc16⟩ (by omega) (by omega) (by omega) (fun j hj => (hFG j hj).1.trans (if_pos hj).symm)) ce_J0_equals_9ea2d ml_L_234 iv_J0_equals_9ea2d cl_J0 rfl hA (xx_dt dd_L_law_20 41 rfl) (by decide) rfl rfl (Nat.le_of_ble_eq_true rfl) rfl ?_
        refine sw_if_ne (tgt := 2140) O (xx_dt dd_L_law_20 42 rfl) (by decide) (fun _ => ?_) (fun q8 => absurd q8 (by decide))
        refine sw_goto (tgt := 2654) O (xx_dt dd_L_law_20 45 rfl) (by decide) ?_
        refine sw_dum (ls2 := [.ref 11, .ref 1000, .ref 5000, .ref 4500, .int (nI (5 * i)), xx_d, xx_d]) ⟨.inr rfl, .inr rfl, .inr rfl, .inr rfl, .inr rfl, .inl rfl, .inl rfl, trivial⟩ ?_
        refine xx_wid (k' := k9) (n' := n9) (by omega) (by omega) ?_
        refine sw_drop (h2 := hL h0 z (u2 τ 5000 0 t) σ n (some (c, F))) (hTM_drop (fun q a1 _ => (okM.lo (.inr (by omega))).trans (hB.2.2 q (by omega)))) hclS (fun r hr => by rw [hL_lo (hY0 r hr).1]; exact (hY0 r hr).2) (hL_in h11) (by intro v9 hv9; cases hv9) ?_
        exact kk z _ σ n (some (c, F)) hI' hs9
  refine sw_aload_n O (xx_dt dd_L_law_20 13 rfl) rfl ?_
  refine sw_aload_n O (xx_dt dd_L_law_20 14 rfl) rfl ?_
  refine sw_iload O (xx_dt dd_L_law_20 15 rfl) rfl ?_
  refine sw_iconst (x := 1) O (xx_dt dd_L_law_20 16 rfl) (by decide) ?_
  refine sw_iadd O (xx_dt dd_L_law_20 17 rfl) ?_
  rw [show nI (5 * i) + 1 = nI (5 * i + 1) from nI_plus (5 * i) 1]
  refine sw_iaload (v := .int (xs (5 * i + 1))) O (xx_dt dd_L_law_20 18 rfl) ((hL_lo (by omega)).trans h11) (pk_in (5 * i + 1) _ (by omega)) (by rw [nI_clamp (by omega)]) ?_
  refine sw_aload_n O (xx_dt dd_L_law_20 19 rfl) rfl ?_
  rw [hL_c]
  cases b with
  | none =>
    refine xx_wid (k' := (k9 + 696) + 4) (n' := (n9 + 9960) + 40) (by omega) (by omega) (sw_callSH (k := k9 + 696) (n := n9 + 9960) (k' := 4) (n' := 40) (as := [.ref 1000, .int (xs (5 * i + 1)), .ref 4500]) (st := []) (st2 := [.int (lw_k [eIOB] (.inr eIOB : Nat ⊕ String))]) O (lw_chart hl (hC _ ⟨h0, z, τ, n, s, hB, rfl⟩) (ly_1000 σ _) (F := fO n (sO s)) ((setC_out (by omega)).trans ((setM_out (by omega)).trans hO_4500)) (fun E e => by cases e; rfl)) ch_L_chart mk_L_231 st_L_chart (xx_dt dd_L_law_20 20 rfl) (by decide) rfl rfl (Nat.le_of_ble_eq_true rfl) rfl ?_)
    show SW Y _ _ (setC σ (setM z τ (hO h0 n s))) 2096 [.ref 11, .ref 1000, .ref 5000, .ref 4500, .int (nI (5 * i)), xx_d, xx_d] _
    rw [← hL_c]
    exact go s _ hSi hT (fun q => absurd q (by decide))
  | some p =>
    refine xx_wid (k' := (k9 + 696) + 4) (n' := (n9 + 9960) + 40) (by omega) (by omega) (sw_callSH (k := k9 + 696) (n := n9 + 9960) (k' := 4) (n' := 40) (as := [.ref 1000, .int (xs (5 * i + 1)), .ref 4500]) (st := []) (st2 := [.int (lw_k [eIOB] (.inl 4002 : Nat ⊕ String))]) O (lw_chart hl (hC _ ⟨h0, z, τ, n, s, hB, rfl⟩) (ly_1000 σ _) (F := fO n (sO s)) ((setC_out (by omega)).trans ((xx_up_ne (by omega)).trans ((xx_up_ne (by omega)).trans ((setM_out (by omega)).trans hO_4500)))) (fun E e => by cases e)) ch_L_chart mk_L_231 st_L_chart (xx_dt dd_L_law_20 20 rfl) (by decide) rfl rfl (Nat.le_of_ble_eq_true rfl) rfl ?_)
    show SW Y _ _ (xx_up (setC σ (hS (setM z τ (hO h0 n s)) p.1 p.2)) 4500 (14, 2, updV (fO n (sO s)) 1 (.ref 4002))) 2096 [.ref 11, .ref 1000, .ref 5000, .ref 4500, .int (nI (5 * i)), xx_d, xx_d] _
    rw [← hS_up]
    have hG9 : ∀ j, j < p.1 → ∃ x : Int32, (fun j => if j < p.1 then p.2 j else Value.int 0) j = .int x := fun j hj => by
      obtain ⟨x, e⟩ := hG p rfl j hj
      exact ⟨x, by show (if j < p.1 then p.2 j else Value.int 0) = _; rw [if_pos hj]; exact e⟩
    refine sw_chartfix hB hc0 (hcb _ _ hI) hY0 hG9 (mc_in h11) (fun v hv a e => by simp only [List.mem_cons, List.not_mem_nil, or_false] at hv; rw [hv] at e; cases e) ?_
    exact go _ _ (fun q e j hj => by cases e; exact hG9 j hj) hT.1 (fun _ => ⟨p.1, _, p.2, rfl, hT.2.1, hT.2.2.1, fun j hj => ⟨if_pos hj, hT.2.2.2 j hj⟩⟩)
def IF_knock (l : Launch) (LI : XS9 → XS9 → Prop) : Prop := ∀ (z : Int64) (τ σ : XS9), LI τ σ → ∃ (y : Int32) (σ' : XS9) (v : Int32) (z' : Int64) (τ' : XS9), (∀ h, okC h → XEx l m_X7_knock 0 0 0 [.ref 1000] (setC σ h) (some (.int y)) (setC σ' h)) ∧ (∀ h, okM h → XEx l m_X14_knock 0 0 0 [.ref 5000] (setM z τ h) (some (.int v)) (setM z' τ' h)) ∧ LI τ' σ' ∧ y = v
theorem lc_34 {Y : XY} {l : Launch} {h0 : XH} {xs : Nat → Int32} {len i : Nat} {n : Int64} {s : Option (Nat × (Nat → Value))} {z : Int64} {τ σ : XS9} {LI : XS9 → XS9 → Prop} (O : xx_O Y m_L_law l 40) (hl : l.stackTraces = false) (hB : okB h0) (h11 : h0 11 = some (100, len, fun j => .int (xs j))) (hi : 5 * i + 5 ≤ len) (hlen : len ≤ 2560) (hI : LI τ σ) (hif : IF_knock l LI) {k9 n9 : Nat} (kk : ∀ z τ σ n, LI τ σ → SW Y k9 n9 (hL h0 z τ σ n s) 2654 [.ref 11, .ref 1000, .ref 5000, .ref 4500, .int (nI (5 * i)), xx_d, xx_d] []) : SW Y (k9 + 700) (n9 + 10000) (hL h0 z τ σ n s) 2614 [.ref 11, .ref 1000, .ref 5000, .ref 4500, .int (nI (5 * i)), xx_d, xx_d] [] := by
  obtain ⟨kT, ekT⟩ : ∃ q, q = k9 + 700 := ⟨_, rfl⟩
  obtain ⟨nT, enT⟩ : ∃ q, q = n9 + 10000 := ⟨_, rfl⟩
  refine xx_wid (k' := kT) (n' := nT) (by omega) (by omega) ?_
  obtain ⟨y, σ', v, z', τ', hC, hM, hI', hV⟩ := hif z τ σ hI
  refine sw_aload_n O (xx_dt dd_L_law_25 44 rfl) rfl ?_
  rw [hL_c]
  refine xx_wid (k' := (k9 + 700) + 0) (n' := (n9 + 10000) + 0) (by omega) (by omega) (sw_callVx (k := k9 + 700) (n := n9 + 10000) (k' := 0) (n' := 0) (as := []) (st := []) (st2 := [.int y]) O (hC _ ⟨h0, z, τ, n, s, hB, rfl⟩) ce_X7_knock ml_L_261 iv_X7_knock cl_X7 rfl (ly_1000 σ _) (xx_dt dd_L_law_25 45 rfl) (by decide) rfl rfl (Nat.le_of_ble_eq_true rfl) rfl ?_)
  refine sw_aload_n O (xx_dt dd_L_law_25 46 rfl) rfl ?_
  rw [← hL_c]
  obtain ⟨kT, ekT⟩ : ∃ q, q = k9 + 700 := ⟨_, rfl⟩
  obtain ⟨nT, enT⟩ : ∃ q, q = n9 + 10000 := ⟨_, rfl⟩
  refine xx_wid (k' := kT) (n' := nT) (by omega) (by omega) ?_
  show SW Y _ _ (setM z τ (setC σ' (hO h0 n s))) 2619 [.ref 11, .ref 1000, .ref 5000, .ref 4500, .int (nI (5 * i)), xx_d, xx_d] [.ref 5000, .int y]
  refine xx_wid (k' := (k9 + 700) + 0) (n' := (n9 + 10000) + 0) (by omega) (by omega) (sw_callVx (k := k9 + 700) (n := n9 + 10000) (k' := 0) (n' := 0) (as := []) (st := [.int y]) (st2 := [.int v, .int y]) O (hM _ ⟨h0, σ', n, s, hB, rfl⟩) ce_X14_knock ml_L_264 iv_X14_knock cl_X14 rfl lm_mod (xx_dt dd_L_law_25 47 rfl) (by decide) rfl rfl (Nat.le_of_ble_eq_true rfl) rfl ?_)
  subst hV
  refine sw_icmp_eq (tgt := 2654) O (xx_dt dd_L_law_25 48 rfl) (by decide) (fun _ => ?_) (fun q9 => absurd rfl q9)
  refine xx_wid (k' := k9) (n' := n9) (by omega) (by omega) ?_
  exact kk z' τ' σ' n hI'
def IF_isSound (l : Launch) (LI : XS9 → XS9 → Prop) : Prop := ∀ (z : Int64) (τ σ : XS9), LI τ σ → ∃ (y : Int32) (σ' : XS9) (v : Int32) (z' : Int64) (τ' : XS9), (∀ h, okC h → XEx l m_X7_isSound 6 0 0 [.ref 1000] (setC σ h) (some (.int y)) (setC σ' h)) ∧ (∀ h, okM h → XEx l m_X14_isSound 13 495 8668 [.ref 5000] (setM z τ h) (some (.int v)) (setM z' τ' h)) ∧ LI τ' σ' ∧ y = v
theorem lc_35 {Y : XY} {l : Launch} {h0 : XH} {xs : Nat → Int32} {len i : Nat} {n : Int64} {s : Option (Nat × (Nat → Value))} {z : Int64} {τ σ : XS9} {LI : XS9 → XS9 → Prop} (O : xx_O Y m_L_law l 40) (hl : l.stackTraces = false) (hB : okB h0) (h11 : h0 11 = some (100, len, fun j => .int (xs j))) (hi : 5 * i + 5 ≤ len) (hlen : len ≤ 2560) (hI : LI τ σ) (hif : IF_isSound l LI) {k9 n9 : Nat} (kk : ∀ z τ σ n, LI τ σ → SW Y k9 n9 (hL h0 z τ σ n s) 2654 [.ref 11, .ref 1000, .ref 5000, .ref 4500, .int (nI (5 * i)), xx_d, xx_d] []) : SW Y (k9 + 700) (n9 + 10000) (hL h0 z τ σ n s) 2627 [.ref 11, .ref 1000, .ref 5000, .ref 4500, .int (nI (5 * i)), xx_d, xx_d] [] := by
  obtain ⟨kT, ekT⟩ : ∃ q, q = k9 + 700 := ⟨_, rfl⟩
  obtain ⟨nT, enT⟩ : ∃ q, q = n9 + 10000 := ⟨_, rfl⟩
  refine xx_wid (k' := kT) (n' := nT) (by omega) (by omega) ?_
  obtain ⟨y, σ', v, z', τ', hC, hM, hI', hV⟩ := hif z τ σ hI
  refine sw_aload_n O (xx_dt dd_L_law_25 51 rfl) rfl ?_
  rw [hL_c]
  refine xx_wid (k' := (k9 + 700) + 0) (n' := (n9 + 10000) + 0) (by omega) (by omega) (sw_callVx (k := k9 + 700) (n := n9 + 10000) (k' := 0) (n' := 0) (as := []) (st := []) (st2 := [.int y]) O (hC _ ⟨h0, z, τ, n, s, hB, rfl⟩) ce_X7_isSound ml_L_265 iv_X7_isSound cl_X7 rfl (ly_1000 σ _) (xx_dt dd_L_law_25 52 rfl) (by decide) rfl rfl (Nat.le_of_ble_eq_true rfl) rfl ?_)
  refine sw_aload_n O (xx_dt dd_L_law_25 53 rfl) rfl ?_
  rw [← hL_c]
  obtain ⟨kT, ekT⟩ : ∃ q, q = k9 + 700 := ⟨_, rfl⟩
  obtain ⟨nT, enT⟩ : ∃ q, q = n9 + 10000 := ⟨_, rfl⟩
  refine xx_wid (k' := kT) (n' := nT) (by omega) (by omega) ?_
  show SW Y _ _ (setM z τ (setC σ' (hO h0 n s))) 2632 [.ref 11, .ref 1000, .ref 5000, .ref 4500, .int (nI (5 * i)), xx_d, xx_d] [.ref 5000, .int y]
  refine xx_wid (k' := (k9 + 205) + 495) (n' := (n9 + 1332) + 8668) (by omega) (by omega) (sw_callVx (k := k9 + 205) (n := n9 + 1332) (k' := 495) (n' := 8668) (as := []) (st := [.int y]) (st2 := [.int v, .int y]) O (hM _ ⟨h0, σ', n, s, hB, rfl⟩) ce_X14_isSound ml_L_269 iv_X14_isSound cl_X14 rfl lm_mod (xx_dt dd_L_law_25 54 rfl) (by decide) rfl rfl (Nat.le_of_ble_eq_true rfl) rfl ?_)
  subst hV
  refine sw_icmp_eq (tgt := 2654) O (xx_dt dd_L_law_25 55 rfl) (by decide) (fun _ => ?_) (fun q9 => absurd rfl q9)
  refine xx_wid (k' := k9) (n' := n9) (by omega) (by omega) ?_
  exact kk z' τ' σ' n hI'
def IF_digest (l : Launch) (LI : XS9 → XS9 → Prop) : Prop := ∀ (z : Int64) (τ σ : XS9), LI τ σ → ∃ (y : Int64) (σ' : XS9) (v : Int64) (z' : Int64) (τ' : XS9), (∀ h, okC h → XEx l m_X7_digest 14 2 20 [.ref 1000] (setC σ h) (some (.long y)) (setC σ' h)) ∧ (∀ h, okM h → XEx l m_X14_digest 22 625 9590 [.ref 5000] (setM z τ h) (some (.long v)) (setM z' τ' h)) ∧ LI τ' σ' ∧ y = v
theorem lc_36 {Y : XY} {l : Launch} {h0 : XH} {xs : Nat → Int32} {len i : Nat} {n : Int64} {s : Option (Nat × (Nat → Value))} {z : Int64} {τ σ : XS9} {LI : XS9 → XS9 → Prop} (O : xx_O Y m_L_law l 40) (hl : l.stackTraces = false) (hB : okB h0) (h11 : h0 11 = some (100, len, fun j => .int (xs j))) (hi : 5 * i + 5 ≤ len) (hlen : len ≤ 2560) (hI : LI τ σ) (hif : IF_digest l LI) {k9 n9 : Nat} (kk : ∀ z τ σ n, LI τ σ → SW Y k9 n9 (hL h0 z τ σ n s) 2654 [.ref 11, .ref 1000, .ref 5000, .ref 4500, .int (nI (5 * i)), xx_d, xx_d] []) : SW Y (k9 + 700) (n9 + 10000) (hL h0 z τ σ n s) 2640 [.ref 11, .ref 1000, .ref 5000, .ref 4500, .int (nI (5 * i)), xx_d, xx_d] [] := by
  obtain ⟨kT, ekT⟩ : ∃ q, q = k9 + 700 := ⟨_, rfl⟩
  obtain ⟨nT, enT⟩ : ∃ q, q = n9 + 10000 := ⟨_, rfl⟩
  refine xx_wid (k' := kT) (n' := nT) (by omega) (by omega) ?_
  obtain ⟨y, σ', v, z', τ', hC, hM, hI', hV⟩ := hif z τ σ hI
  refine sw_aload_n O (xx_dt dd_L_law_25 58 rfl) rfl ?_
  rw [hL_c]
  refine xx_wid (k' := (k9 + 698) + 2) (n' := (n9 + 9980) + 20) (by omega) (by omega) (sw_callVx (k := k9 + 698) (n := n9 + 9980) (k' := 2) (n' := 20) (as := []) (st := []) (st2 := [.long y]) O (hC _ ⟨h0, z, τ, n, s, hB, rfl⟩) ce_X7_digest ml_L_270 iv_X7_digest cl_X7 rfl (ly_1000 σ _) (xx_dt dd_L_law_25 59 rfl) (by decide) rfl rfl (Nat.le_of_ble_eq_true rfl) rfl ?_)
  refine sw_aload_n O (xx_dt dd_L_law_26 0 rfl) rfl ?_
  rw [← hL_c]
  obtain ⟨kT, ekT⟩ : ∃ q, q = k9 + 698 := ⟨_, rfl⟩
  obtain ⟨nT, enT⟩ : ∃ q, q = n9 + 9980 := ⟨_, rfl⟩
  refine xx_wid (k' := kT) (n' := nT) (by omega) (by omega) ?_
  show SW Y _ _ (setM z τ (setC σ' (hO h0 n s))) 2645 [.ref 11, .ref 1000, .ref 5000, .ref 4500, .int (nI (5 * i)), xx_d, xx_d] [.ref 5000, .long y]
  refine xx_wid (k' := (k9 + 73) + 625) (n' := (n9 + 390) + 9590) (by omega) (by omega) (sw_callVx (k := k9 + 73) (n := n9 + 390) (k' := 625) (n' := 9590) (as := []) (st := [.long y]) (st2 := [.long v, .long y]) O (hM _ ⟨h0, σ', n, s, hB, rfl⟩) ce_X14_digest ml_L_274 iv_X14_digest cl_X14 rfl lm_mod (xx_dt dd_L_law_26 1 rfl) (by decide) rfl rfl (Nat.le_of_ble_eq_true rfl) rfl ?_)
  subst hV
  refine sw_lcmp O (xx_dt dd_L_law_26 2 rfl) ?_
  refine sw_if_eq (tgt := 2654) O (xx_dt dd_L_law_26 3 rfl) (by decide) (fun _ => ?_) (fun q9 => absurd (lw_cmp _) q9)
  refine xx_wid (k' := k9) (n' := n9) (by omega) (by omega) ?_
  exact kk z' τ' σ' n hI'
theorem law_loop {Y : XY} {l : Launch} {h0 : XH} {xs : Nat → Int32} {len : Nat} {LI : XS9 → XS9 → Prop} (O : xx_O Y m_L_law l 40) (hl : l.stackTraces = false) (hB : okB h0) (h11 : h0 11 = some (100, len, fun j => .int (xs j))) (hlen : len ≤ 2560) (hc0 : xx_cls h0) (hcb : ∀ τ σ, LI τ σ → cbd (ctl τ)) (hmeI : ∀ τ σ, LI τ σ → mem_eq τ τ) (hY0 : ∀ r, (xy_h Y r).isSome = true → r < 1000 ∧ (h0 r).isSome = true) (hQ1 : ∀ g, xy_Q Y (.inl (some (.int 1))) g) (i_region : IF_region l LI) (i_border : IF_border l LI) (i_bidder : IF_bidder l LI) (i_rules : IF_rules l LI) (i_step : IF_step l LI) (i_open : IF_open l LI) (i_wish : IF_wish l LI) (i_waive : IF_waive l LI) (i_close : IF_close l LI) (i_offer : IF_offer l LI) (i_settle : IF_settle l LI) (i_fail : IF_fail l LI) (i_station : IF_station l LI) (i_ask : IF_ask l LI) (i_packs : IF_packs l LI) (i_channel : IF_channel l LI) (i_clear : IF_clear l LI) (i_ofRegion : IF_ofRegion l LI) (i_ofBidder : IF_ofBidder l LI) (i_wants : IF_wants l LI) (i_priceIn : IF_priceIn l LI) (i_codeIn : IF_codeIn l LI) (i_ofPackage : IF_ofPackage l LI) (i_wins : IF_wins l LI) (i_pays : IF_pays l LI) (i_holder : IF_holder l LI) (i_chart : IF_chart l LI) (i_sale : IF_sale l LI) (i_worth : IF_worth l LI) (i_wouldPay : IF_wouldPay l LI) (i_objects : IF_objects l LI) (i_most : IF_most l LI) (i_contradicts : IF_contradicts l LI) (i_anew : IF_anew l LI) (i_knock : IF_knock l LI) (i_isSound : IF_isSound l LI) (i_digest : IF_digest l LI) : ∀ (f i : Nat), i + f = len / 5 → ∀ (z : Int64) (τ σ : XS9) (n : Int64) (s : Option (Nat × (Nat → Value))), LI τ σ → sInt s → SW Y (700 * f) (10000 * f) (hL h0 z τ σ n s) 27 [.ref 11, .ref 1000, .ref 5000, .ref 4500, .int (nI (5 * i)), xx_d, xx_d] []
  | 0, i, e, z, τ, σ, n, s, hI, hSi => by
    refine sw_iload O (xx_dt dd_L_law_0 14 rfl) rfl ?_
    refine sw_aload_n O (xx_dt dd_L_law_0 15 rfl) rfl ?_
    refine sw_alen (t := 100) O (xx_dt dd_L_law_0 16 rfl) (by omega) (by omega) ((hL_lo (by omega)).trans h11) ?_
    refine sw_iconst (x := 5) O (xx_dt dd_L_law_0 17 rfl) (by decide) ?_
    refine sw_isub O (xx_dt dd_L_law_0 18 rfl) ?_
    refine sw_icmp_gt (tgt := 2660) O (xx_dt dd_L_law_0 19 rfl) (by decide) (fun _ => ?_) (fun q => absurd ((n5 hlen (by omega)).mpr (by omega)) q)
    refine sw_iconst (x := 1) O (xx_dt dd_L_law_26 8 rfl) (by decide) ?_
    exact sw_iret O (xx_dt dd_L_law_26 9 rfl) rfl rfl (hQ1 _)
  | f + 1, i, e, z, τ, σ, n, s, hI, hSi => by
    have hi : 5 * i + 5 ≤ len := by omega
    have kk : ∀ z τ σ n s, LI τ σ → sInt s → SW Y (700 * f) (10000 * f) (hL h0 z τ σ n s) 2654 [.ref 11, .ref 1000, .ref 5000, .ref 4500, .int (nI (5 * i)), xx_d, xx_d] [] := by
      intro z τ σ n s hI hSi
      refine sw_iinc (y := nI (5 * (i + 1))) (ls2 := [.ref 11, .ref 1000, .ref 5000, .ref 4500, .int (nI (5 * (i + 1))), xx_d, xx_d]) O (xx_dt dd_L_law_26 6 rfl) rfl (by have := nI_plus (5 * i) 5; exact this) (by decide) rfl ?_
      refine sw_goto (tgt := 27) O (xx_dt dd_L_law_26 7 rfl) (by decide) ?_
      exact law_loop O hl hB h11 hlen hc0 hcb hmeI hY0 hQ1 i_region i_border i_bidder i_rules i_step i_open i_wish i_waive i_close i_offer i_settle i_fail i_station i_ask i_packs i_channel i_clear i_ofRegion i_ofBidder i_wants i_priceIn i_codeIn i_ofPackage i_wins i_pays i_holder i_chart i_sale i_worth i_wouldPay i_objects i_most i_contradicts i_anew i_knock i_isSound i_digest f (i + 1) (by omega) z τ σ n s hI hSi
    refine sw_iload O (xx_dt dd_L_law_0 14 rfl) rfl ?_
    refine sw_aload_n O (xx_dt dd_L_law_0 15 rfl) rfl ?_
    refine sw_alen (t := 100) O (xx_dt dd_L_law_0 16 rfl) (by omega) (by omega) ((hL_lo (by omega)).trans h11) ?_
    refine sw_iconst (x := 5) O (xx_dt dd_L_law_0 17 rfl) (by decide) ?_
    refine sw_isub O (xx_dt dd_L_law_0 18 rfl) ?_
    refine sw_icmp_gt (tgt := 2660) O (xx_dt dd_L_law_0 19 rfl) (by decide) (fun q => absurd ((n5 hlen (by omega)).mp q) (by omega)) (fun _ => ?_)
    refine sw_aload_n O (xx_dt dd_L_law_0 20 rfl) rfl ?_
    refine sw_iload O (xx_dt dd_L_law_0 21 rfl) rfl ?_
    refine sw_iaload (v := .int (xs (5 * i))) O (xx_dt dd_L_law_0 22 rfl) ((hL_lo (by omega)).trans h11) (pk_in (5 * i) _ (by omega)) (by rw [nI_clamp (by omega)]) ?_
    refine sw_bipush (x := 63) O (xx_dt dd_L_law_0 23 rfl) (by decide) ?_
    refine sw_iand O (xx_dt dd_L_law_0 24 rfl) ?_
    obtain ⟨j, hj, ej⟩ := pk_andE (xs (5 * i)) (m := 63) 6 (by decide)
    rw [ej]
    refine xx_wid (k' := 700 * f + 700) (n' := 10000 * f + 10000) (by omega) (by omega) ?_
    rcases Nat.lt_or_ge j 37 with h37 | h37
    · match j, h37 with
      | 0, _ =>
        refine sw_tableIn (off := 161) (tgt := 204) O (xx_dt dd_L_law_0 25 rfl) (by decide) (by decide) rfl (by decide) ?_
        exact lc_0 O hl hB h11 hi hlen hI i_region (fun z τ σ n hI => kk z τ σ n s hI hSi)
      | 1, _ =>
        refine sw_tableIn (off := 242) (tgt := 285) O (xx_dt dd_L_law_0 25 rfl) (by decide) (by decide) rfl (by decide) ?_
        exact lc_1 O hl hB h11 hi hlen hI i_border (fun z τ σ n hI => kk z τ σ n s hI hSi)
      | 2, _ =>
        refine sw_tableIn (off := 311) (tgt := 354) O (xx_dt dd_L_law_0 25 rfl) (by decide) (by decide) rfl (by decide) ?_
        exact lc_2 O hl hB h11 hi hlen hI i_bidder (fun z τ σ n hI => kk z τ σ n s hI hSi)
      | 3, _ =>
        refine sw_tableIn (off := 404) (tgt := 447) O (xx_dt dd_L_law_0 25 rfl) (by decide) (by decide) rfl (by decide) ?_
        exact lc_3 O hl hB h11 hi hlen hI i_rules (fun z τ σ n hI => kk z τ σ n s hI hSi)
      | 4, _ =>
        refine sw_tableIn (off := 489) (tgt := 532) O (xx_dt dd_L_law_0 25 rfl) (by decide) (by decide) rfl (by decide) ?_
        exact lc_4 O hl hB h11 hi hlen hI i_step (fun z τ σ n hI => kk z τ σ n s hI hSi)
      | 5, _ =>
        refine sw_tableIn (off := 546) (tgt := 589) O (xx_dt dd_L_law_0 25 rfl) (by decide) (by decide) rfl (by decide) ?_
        exact lc_5 O hl hB h11 hi hlen hI i_open (fun z τ σ n hI => kk z τ σ n s hI hSi)
      | 6, _ =>
        refine sw_tableIn (off := 591) (tgt := 634) O (xx_dt dd_L_law_0 25 rfl) (by decide) (by decide) rfl (by decide) ?_
        exact lc_6 O hl hB h11 hi hlen hI i_wish (fun z τ σ n hI => kk z τ σ n s hI hSi)
      | 7, _ =>
        refine sw_tableIn (off := 672) (tgt := 715) O (xx_dt dd_L_law_0 25 rfl) (by decide) (by decide) rfl (by decide) ?_
        exact lc_7 O hl hB h11 hi hlen hI i_waive (fun z τ σ n hI => kk z τ σ n s hI hSi)
      | 8, _ =>
        refine sw_tableIn (off := 729) (tgt := 772) O (xx_dt dd_L_law_0 25 rfl) (by decide) (by decide) rfl (by decide) ?_
        exact lc_8 O hl hB h11 hi hlen hI i_close (fun z τ σ n hI => kk z τ σ n s hI hSi)
      | 9, _ =>
        refine sw_tableIn (off := 786) (tgt := 829) O (xx_dt dd_L_law_0 25 rfl) (by decide) (by decide) rfl (by decide) ?_
        exact lc_9 O hl hB h11 hi hlen hI i_offer (fun z τ σ n hI => kk z τ σ n s hI hSi)
      | 10, _ =>
        refine sw_tableIn (off := 867) (tgt := 910) O (xx_dt dd_L_law_0 25 rfl) (by decide) (by decide) rfl (by decide) ?_
        exact lc_10 O hl hB h11 hi hlen hI i_settle (fun z τ σ n hI => kk z τ σ n s hI hSi)
      | 11, _ =>
        refine sw_tableIn (off := 924) (tgt := 967) O (xx_dt dd_L_law_0 25 rfl) (by decide) (by decide) rfl (by decide) ?_
        exact lc_11 O hl hB h11 hi hlen hI i_fail (fun z τ σ n hI => kk z τ σ n s hI hSi)
      | 12, _ =>
        refine sw_tableIn (off := 981) (tgt := 1024) O (xx_dt dd_L_law_0 25 rfl) (by decide) (by decide) rfl (by decide) ?_
        exact lc_12 O hl hB h11 hi hlen hI i_station (fun z τ σ n hI => kk z τ σ n s hI hSi)
      | 13, _ =>
        refine sw_tableIn (off := 1050) (tgt := 1093) O (xx_dt dd_L_law_0 25 rfl) (by decide) (by decide) rfl (by decide) ?_
        exact lc_13 O hl hB h11 hi hlen hI hc0 hcb hmeI hY0 hSi i_ask kk
      | 14, _ =>
        refine sw_tableIn (off := 1119) (tgt := 1162) O (xx_dt dd_L_law_0 25 rfl) (by decide) (by decide) rfl (by decide) ?_
        exact lc_14 O hl hB h11 hi hlen hI i_packs (fun z τ σ n hI => kk z τ σ n s hI hSi)
      | 15, _ =>
        refine sw_tableIn (off := 1195) (tgt := 1238) O (xx_dt dd_L_law_0 25 rfl) (by decide) (by decide) rfl (by decide) ?_
        exact lc_15 O hl hB h11 hi hlen hI i_channel (fun z τ σ n hI => kk z τ σ n s hI hSi)
      | 16, _ =>
        refine sw_tableIn (off := 1276) (tgt := 1319) O (xx_dt dd_L_law_0 25 rfl) (by decide) (by decide) rfl (by decide) ?_
        exact lc_16 O hl hB h11 hi hlen hI i_clear (fun z τ σ n hI => kk z τ σ n s hI hSi)
      | 17, _ =>
        refine sw_tableIn (off := 1333) (tgt := 1376) O (xx_dt dd_L_law_0 25 rfl) (by decide) (by decide) rfl (by decide) ?_
        exact lc_17 O hl hB h11 hi hlen hI i_ofRegion (fun z τ σ n hI => kk z τ σ n s hI hSi)
      | 18, _ =>
        refine sw_tableIn (off := 1402) (tgt := 1445) O (xx_dt dd_L_law_0 25 rfl) (by decide) (by decide) rfl (by decide) ?_
        exact lc_18 O hl hB h11 hi hlen hI i_ofBidder (fun z τ σ n hI => kk z τ σ n s hI hSi)
      | 19, _ =>
        refine sw_tableIn (off := 1471) (tgt := 1514) O (xx_dt dd_L_law_0 25 rfl) (by decide) (by decide) rfl (by decide) ?_
        exact lc_19 O hl hB h11 hi hlen hI i_wants (fun z τ σ n hI => kk z τ σ n s hI hSi)
      | 20, _ =>
        refine sw_tableIn (off := 1568) (tgt := 1611) O (xx_dt dd_L_law_0 25 rfl) (by decide) (by decide) rfl (by decide) ?_
        exact lc_20 O hl hB h11 hi hlen hI i_priceIn (fun z τ σ n hI => kk z τ σ n s hI hSi)
      | 21, _ =>
        refine sw_tableIn (off := 1637) (tgt := 1680) O (xx_dt dd_L_law_0 25 rfl) (by decide) (by decide) rfl (by decide) ?_
        exact lc_21 O hl hB h11 hi hlen hI i_codeIn (fun z τ σ n hI => kk z τ σ n s hI hSi)
      | 22, _ =>
        refine sw_tableIn (off := 1734) (tgt := 1777) O (xx_dt dd_L_law_0 25 rfl) (by decide) (by decide) rfl (by decide) ?_
        exact lc_22 O hl hB h11 hi hlen hI i_ofPackage (fun z τ σ n hI => kk z τ σ n s hI hSi)
      | 23, _ =>
        refine sw_tableIn (off := 1831) (tgt := 1874) O (xx_dt dd_L_law_0 25 rfl) (by decide) (by decide) rfl (by decide) ?_
        exact lc_23 O hl hB h11 hi hlen hI i_wins (fun z τ σ n hI => kk z τ σ n s hI hSi)
      | 24, _ =>
        refine sw_tableIn (off := 1888) (tgt := 1931) O (xx_dt dd_L_law_0 25 rfl) (by decide) (by decide) rfl (by decide) ?_
        exact lc_24 O hl hB h11 hi hlen hI i_pays (fun z τ σ n hI => kk z τ σ n s hI hSi)
      | 25, _ =>
        refine sw_tableIn (off := 1973) (tgt := 2016) O (xx_dt dd_L_law_0 25 rfl) (by decide) (by decide) rfl (by decide) ?_
        exact lc_25 O hl hB h11 hi hlen hI i_holder (fun z τ σ n hI => kk z τ σ n s hI hSi)
      | 26, _ =>
        refine sw_tableIn (off := 2042) (tgt := 2085) O (xx_dt dd_L_law_0 25 rfl) (by decide) (by decide) rfl (by decide) ?_
        exact lc_26 O hl hB h11 hi hlen hI hc0 hcb hmeI hY0 hSi i_chart kk
      | 27, _ =>
        refine sw_tableIn (off := 2100) (tgt := 2143) O (xx_dt dd_L_law_0 25 rfl) (by decide) (by decide) rfl (by decide) ?_
        exact lc_27 O hl hB h11 hi hlen hI i_sale (fun z τ σ n hI => kk z τ σ n s hI hSi)
      | 28, _ =>
        refine sw_tableIn (off := 2157) (tgt := 2200) O (xx_dt dd_L_law_0 25 rfl) (by decide) (by decide) rfl (by decide) ?_
        exact lc_28 O hl hB h11 hi hlen hI i_worth (fun z τ σ n hI => kk z τ σ n s hI hSi)
      | 29, _ =>
        refine sw_tableIn (off := 2214) (tgt := 2257) O (xx_dt dd_L_law_0 25 rfl) (by decide) (by decide) rfl (by decide) ?_
        exact lc_29 O hl hB h11 hi hlen hI i_wouldPay (fun z τ σ n hI => kk z τ σ n s hI hSi)
      | 30, _ =>
        refine sw_tableIn (off := 2283) (tgt := 2326) O (xx_dt dd_L_law_0 25 rfl) (by decide) (by decide) rfl (by decide) ?_
        exact lc_30 O hl hB h11 hi hlen hI i_objects (fun z τ σ n hI => kk z τ σ n s hI hSi)
      | 31, _ =>
        refine sw_tableIn (off := 2352) (tgt := 2395) O (xx_dt dd_L_law_0 25 rfl) (by decide) (by decide) rfl (by decide) ?_
        exact lc_31 O hl hB h11 hi hlen hI i_most (fun z τ σ n hI => kk z τ σ n s hI hSi)
      | 32, _ =>
        refine sw_tableIn (off := 2421) (tgt := 2464) O (xx_dt dd_L_law_0 25 rfl) (by decide) (by decide) rfl (by decide) ?_
        exact lc_32 O hl hB h11 hi hlen hI i_contradicts (fun z τ σ n hI => kk z τ σ n s hI hSi)
      | 33, _ =>
        refine sw_tableIn (off := 2478) (tgt := 2521) O (xx_dt dd_L_law_0 25 rfl) (by decide) (by decide) rfl (by decide) ?_
        exact lc_33 O hl hB h11 hi hlen hI i_anew (fun z τ σ n hI => kk z τ σ n s hI hSi)
      | 34, _ =>
        refine sw_tableIn (off := 2571) (tgt := 2614) O (xx_dt dd_L_law_0 25 rfl) (by decide) (by decide) rfl (by decide) ?_
        exact lc_34 O hl hB h11 hi hlen hI i_knock (fun z τ σ n hI => kk z τ σ n s hI hSi)
      | 35, _ =>
        refine sw_tableIn (off := 2584) (tgt := 2627) O (xx_dt dd_L_law_0 25 rfl) (by decide) (by decide) rfl (by decide) ?_
        exact lc_35 O hl hB h11 hi hlen hI i_isSound (fun z τ σ n hI => kk z τ σ n s hI hSi)
      | 36, _ =>
        refine sw_tableIn (off := 2597) (tgt := 2640) O (xx_dt dd_L_law_0 25 rfl) (by decide) (by decide) rfl (by decide) ?_
        exact lc_36 O hl hB h11 hi hlen hI i_digest (fun z τ σ n hI => kk z τ σ n s hI hSi)
      | k + 37, h9 => exact absurd h9 (by omega)
    · refine sw_tableOut (tgt := 2654) O (xx_dt dd_L_law_0 25 rfl) (.inr (by rw [toI_nI (by omega)]; omega)) (by decide) ?_
      exact xx_wid (k' := 700 * f) (n' := 10000 * f) (by omega) (by omega) (kk z τ σ n s hI hSi)
