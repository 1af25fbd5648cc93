/-! ===== the law from its entry on ===== -/
theorem ct_X8_init {l : Launch} {h : XH} (hl : l.stackTraces = false) {r : Nat}  : XEx l m_X8_init 1 0 0 [.ref r] (h) (none) (h) := by
  refine XMet.of hl rfl rfl (Nat.le_of_ble_eq_true rfl) (fun Y O hh hQ => ?_)
  show SW Y 0 0 (h) 0 [.ref r] []
  refine sw_aload_n O (xx_dt dd_X8_init 0 rfl) rfl ?_
  refine sw_objInit O oi_X8_1 (xx_dt dd_X8_init 1 rfl) (by omega) (Nat.le_of_ble_eq_true rfl) ?_
  exact sw_ret O (xx_dt dd_X8_init 2 rfl) rfl (by rw [hQ]; exact ⟨rfl, rfl⟩)
theorem xx_bs.C {h : XH} {σ : XS9} (b : xx_bs h) : xx_bs (setC σ h) :=
  ⟨b.1.imp fun f0 e => (setC_out (by omega)).trans e, b.2.1.imp fun c3 e => (setC_out (by omega)).trans e, (setC_out (by omega)).trans b.2.2.1, fun j hj => (setC_out (by omega)).trans (b.2.2.2.1 j hj), (setC_out (by omega)).trans b.2.2.2.2.1, (setC_out (by omega)).trans b.2.2.2.2.2⟩
theorem setC_in {σ : XS9} {h : XH} {c : XC} : setC σ (xx_up h 1000 c) = setC σ h := by
  funext q
  unfold setC
  by_cases a : 1000 ≤ q ∧ q < 4000
  · rw [if_pos a, if_pos a]
  · rw [if_neg a, if_neg a]
    exact xx_up_ne (by omega)
theorem fO_new : (fun j => defaultValue (tyX8 j)) = fO 0 .null := by
  funext k
  match k with
  | 0 => rfl
  | 1 => rfl
  | k + 2 => rfl
section
variable {Y : XY} {l : Launch} {h0 : XH} {xs : Nat → Int32} {len : Nat} {LI : XS9 → XS9 → Prop}
theorem law_begin {k n : Nat} (O : xx_O Y m_L_law l 40) (hl : l.stackTraces = false) (hB : okB h0) (kk : SW Y k n (hL h0 0 s0M s0C 0 none) 27 [.ref 11, .ref 1000, .ref 5000, .ref 4500, .int (nI (5 * 0)), xx_d, xx_d] []) : SW Y (k + 511) (n + 3665) h0 0 [.ref 11, xx_d, xx_d, xx_d, xx_d, xx_d, xx_d] [] := by
  refine xx_wid (k' := k + 510 + 1) (n' := n + 3653 + 12) (by omega) (by omega) (sw_new (k := k + 510) (n := n + 3653) (r := 1000) O (xx_dt dd_L_law_0 0 rfl) cl_X7 nw_L_8 (hB.2.2 1000 (by omega)) (by omega) ?_)
  rw [xx_blk_up]
  refine sw_dup O (xx_dt dd_L_law_0 1 rfl) rfl ?_
  refine xx_wid (k' := k + 9 + 501) (n' := n + 48 + 3605) (by omega) (by omega) (sw_callIx (k := k + 9) (n := n + 48) (k' := 501) (n' := 3605) (as := []) (st := [.ref 1000]) (st2 := [.ref 1000]) O (ct_X7_init hl (fun q h1 h2 h3 => (xx_up_ne h3).trans (hB.2.2 q h1)) (xx_up_eq _ _ _)) ce_X7_init ml_L_136 ii_X7_init (xx_dt dd_L_law_0 2 rfl) (by decide) rfl rfl (Nat.le_of_ble_eq_true rfl) rfl ?_)
  rw [setC_in]
  refine sw_astore_n (ls2 := [.ref 11, .ref 1000, xx_d, xx_d, xx_d, xx_d, xx_d]) O (xx_dt dd_L_law_0 3 rfl) (by decide) rfl ?_
  have hbC : xx_bs (setC s0C h0) := hB.1.C
  have hfC : ∀ r, 4000 ≤ r → setC s0C h0 r = none := fun r hr => (setC_out (by omega)).trans (hB.2.2 r (by omega))
  refine xx_wid (k' := k + 8 + 1) (n' := n + 31 + 17) (by omega) (by omega) (sw_new (k := k + 8) (n := n + 31) (r := 5000) O (xx_dt dd_L_law_0 4 rfl) cl_X14 nw_L_137 (hfC 5000 (by omega)) (by omega) ?_)
  rw [xx_blk_up]
  refine sw_dup O (xx_dt dd_L_law_0 5 rfl) rfl ?_
  refine xx_wid (k' := k + 1 + 7) (n' := n + 2 + 29) (by omega) (by omega) (sw_callIx (k := k + 1) (n := n + 2) (k' := 7) (n' := 29) (as := []) (st := [.ref 5000]) (st2 := [.ref 5000]) O (ct_X14_init hl hbC (fun r h1 h2 => hfC r (by omega))) ce_X14_init ml_L_139 ii_X14_init (xx_dt dd_L_law_0 6 rfl) (by decide) rfl rfl (Nat.le_of_ble_eq_true rfl) rfl ?_)
  refine sw_astore_n (ls2 := [.ref 11, .ref 1000, .ref 5000, xx_d, xx_d, xx_d, xx_d]) O (xx_dt dd_L_law_0 7 rfl) (by decide) rfl ?_
  refine sw_new (k := k) (n := n) (r := 4500) O (xx_dt dd_L_law_0 8 rfl) cl_X8 nw_L_14 ((setM_out (by omega)).trans (hfC 4500 (by omega))) (by omega) ?_
  rw [xx_blk_up]
  refine sw_dup O (xx_dt dd_L_law_0 9 rfl) rfl ?_
  refine sw_callIx (k := k) (n := n) (k' := 0) (n' := 0) (as := []) (st := [.ref 4500]) (st2 := [.ref 4500]) O (ct_X8_init hl) ce_X8_init ml_L_140 ii_X8_init (xx_dt dd_L_law_0 10 rfl) (by decide) rfl rfl (Nat.le_of_ble_eq_true rfl) rfl ?_
  refine sw_astore_n (ls2 := [.ref 11, .ref 1000, .ref 5000, .ref 4500, xx_d, xx_d, xx_d]) O (xx_dt dd_L_law_0 11 rfl) (by decide) rfl ?_
  refine sw_iconst (x := 0) O (xx_dt dd_L_law_0 12 rfl) (by decide) ?_
  refine sw_istore (ls2 := [.ref 11, .ref 1000, .ref 5000, .ref 4500, .int (nI (5 * 0)), xx_d, xx_d]) O (xx_dt dd_L_law_0 13 rfl) (by decide) rfl ?_
  have e : hL h0 0 s0M s0C 0 none = xx_up (setM 0 s0M (setC s0C h0)) 4500 (14, 2, fun j => defaultValue (tyX8 j)) := by
    unfold hL hO
    rw [setC_up (by omega), setM_up (.inl (by omega)), fO_new]
  rw [e] at kk
  exact kk
theorem law_all (O : xx_O Y m_L_law l 40) (hl : l.stackTraces = false) (hB : okB h0) (h11 : h0 11 = some (100, len, fun j => .int (xs j))) (hlen : len ≤ 2560) (hc0 : xx_cls h0) (hcb : ∀ τ σ, LI τ σ → cbd (ctl τ)) (hmeI : ∀ τ σ, LI τ σ → mem_eq τ τ) (hY0 : ∀ r, (xy_h Y r).isSome = true → r < 1000 ∧ (h0 r).isSome = true) (hQ1 : ∀ g, xy_Q Y (.inl (some (.int 1))) g) (hI0 : LI s0M s0C) (i_region : IF_region l LI) (i_border : IF_border l LI) (i_bidder : IF_bidder l LI) (i_rules : IF_rules l LI) (i_step : IF_step l LI) (i_open : IF_open l LI) (i_wish : IF_wish l LI) (i_waive : IF_waive l LI) (i_close : IF_close l LI) (i_offer : IF_offer l LI) (i_settle : IF_settle l LI) (i_fail : IF_fail l LI) (i_station : IF_station l LI) (i_ask : IF_ask l LI) (i_packs : IF_packs l LI) (i_channel : IF_channel l LI) (i_clear : IF_clear l LI) (i_ofRegion : IF_ofRegion l LI) (i_ofBidder : IF_ofBidder l LI) (i_wants : IF_wants l LI) (i_priceIn : IF_priceIn l LI) (i_codeIn : IF_codeIn l LI) (i_ofPackage : IF_ofPackage l LI) (i_wins : IF_wins l LI) (i_pays : IF_pays l LI) (i_holder : IF_holder l LI) (i_chart : IF_chart l LI) (i_sale : IF_sale l LI) (i_worth : IF_worth l LI) (i_wouldPay : IF_wouldPay l LI) (i_objects : IF_objects l LI) (i_most : IF_most l LI) (i_contradicts : IF_contradicts l LI) (i_anew : IF_anew l LI) (i_knock : IF_knock l LI) (i_isSound : IF_isSound l LI) (i_digest : IF_digest l LI) : SW Y (700 * (len / 5) + 511) (10000 * (len / 5) + 3665) h0 0 [.ref 11, xx_d, xx_d, xx_d, xx_d, xx_d, xx_d] [] :=
  law_begin O hl hB (law_loop O hl hB h11 hlen hc0 hcb hmeI hY0 hQ1 i_region i_border i_bidder i_rules i_step i_open i_wish i_waive i_close i_offer i_settle i_fail i_station i_ask i_packs i_channel i_clear i_ofRegion i_ofBidder i_wants i_priceIn i_codeIn i_ofPackage i_wins i_pays i_holder i_chart i_sale i_worth i_wouldPay i_objects i_most i_contradicts i_anew i_knock i_isSound i_digest (len / 5) 0 (Nat.zero_add _) 0 s0M s0C 0 none hI0 (fun p e => by cases e))
end
