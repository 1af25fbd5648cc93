section
/-! ===== the law from its entry on ===== -/
theorem ct_X8_init {l : Launch} {h : XH} (hl : l.stackTraces = false) {r : Nat}  : XEx l m_X8_init 1 0 0 [.ref r] (h) (none) (h) := by
  refine XMet.of hl rfl rfl (Nat.le_of_ble_eq_true rfl) (fun Y O hh hQ => ?_)
  show SW Y 0 0 (h) 0 [.ref r] []
  refine sw_aload_n O (xx_dt dd_X8_init 0 rfl) rfl ?_
  refine sw_objInit O oi_X8_1 (xx_dt dd_X8_init 1 rfl) (by omega) (Nat.le_of_ble_eq_true rfl) ?_
  exact sw_ret O (xx_dt dd_X8_init 2 rfl) rfl (by rw [hQ]; exact ⟨rfl, rfl⟩)
theorem xx_bs.C {h : XH} {σ : XS9} (b : xx_bs h) : xx_bs (setC σ h) :=
  ⟨b.1.imp fun f0 e => (setC_out (by omega)).trans e, b.2.1.imp fun c3 e => (setC_out (by omega)).trans e, (setC_out (by omega)).trans b.2.2.1, fun j hj => (setC_out (by omega)).trans (b.2.2.2.1 j hj), (setC_out (by omega)).trans b.2.2.2.2.1, (setC_out (by omega)).trans b.2.2.2.2.2⟩
theorem setC_in {σ : XS9} {h : XH} {c : XC} : setC σ (xx_up h 1000 c) = setC σ h := by
  funext q
  unfold setC
  by_cases a : 1000 ≤ q ∧ q < 4000
  · rw [if_pos a, if_pos a]
  · rw [if_neg a, if_neg a]
    exact xx_up_ne (by omega)
theorem fO_new : (fun j => defaultValue (tyX8 j)) = fO 0 .null := by
  funext k
  match k with
  | 0 => rfl
  | 1 => rfl
  | k + 2 => rfl
section
variable {Y : XY} {l : Launch} {h0 : XH} {xs : Nat → Int32} {len : Nat} {LI : XS9 → XS9 → Prop}
theorem law_begin {k n : Nat} (O : xx_O Y m_L_law l 40) (hl : l.stackTraces = false) (hB : okB h0) (kk : SW Y k n (hL h0 0 s0M s0C 0 none) 27 [.ref 11, .ref 1000, .ref 5000, .ref 4500, .int (nI (5 * 0)), xx_d, xx_d] []) : SW Y (k + 511) (n + 3665) h0 0 [.ref 11, xx_d, xx_d, xx_d, xx_d, xx_d, xx_d] [] := by
  refine xx_wid (k' := k + 510 + 1) (n' := n + 3653 + 12) (by omega) (by omega) (sw_new (k := k + 510) (n := n + 3653) (r := 1000) O (xx_dt dd_L_law_0 0 rfl) cl_X7 nw_L_8 (hB.2.2 1000 (by omega)) (by omega) ?_)
  rw [xx_blk_up]
  refine sw_dup O (xx_dt dd_L_law_0 1 rfl) rfl ?_
  refine xx_wid (k' := k + 9 + 501) (n' := n + 48 + 3605) (by omega) (by omega) (sw_callIx (k := k + 9) (n := n + 48) (k' := 501) (n' := 3605) (as := []) (st := [.ref 1000]) (st2 := [.ref 1000]) O (ct_X7_init hl (fun q h1 h2 h3 => (xx_up_ne h3).trans (hB.2.2 q h1)) (xx_up_eq _ _ _)) ce_X7_init ml_L_136 ii_X7_init (xx_dt dd_L_law_0 2 rfl) (by decide) rfl rfl (Nat.le_of_ble_eq_true rfl) rfl ?_)
  rw [setC_in]
  refine sw_astore_n (ls2 := [.ref 11, .ref 1000, xx_d, xx_d, xx_d, xx_d, xx_d]) O (xx_dt dd_L_law_0 3 rfl) (by decide) rfl ?_
  have hbC : xx_bs (setC s0C h0) := hB.1.C
  have hfC : ∀ r, 4000 ≤ r → setC s0C h0 r = none := fun r hr => (setC_out (by omega)).trans (hB.2.2 r (by omega))
  refine xx_wid (k' := k + 8 + 1) (n' := n + 31 + 17) (by omega) (by omega) (sw_new (k := k + 8) (n := n + 31) (r := 5000) O (xx_dt dd_L_law_0 4 rfl) cl_X14 nw_L_137 (hfC 5000 (by omega)) (by omega) ?_)
  rw [xx_blk_up]
  refine sw_dup O (xx_dt dd_L_law_0 5 rfl) rfl ?_
  refine xx_wid (k' := k + 1 + 7) (n' := n + 2 + 29) (by omega) (by omega) (sw_callIx (k := k + 1) (n := n + 2) (k' := 7) (n' := 29) (as := []) (st := [.ref 5000]) (st2 := [.ref 5000]) O (ct_X14_init hl hbC (fun r h1 h2 => hfC r (by omega))) ce_X14_init ml_L_139 ii_X14_init (xx_dt dd_L_law_0 6 rfl) (by decide) rfl rfl (Nat.le_of_ble_eq_true rfl) rfl ?_)
  refine sw_astore_n (ls2 := [.ref 11, .ref 1000, .ref 5000, xx_d, xx_d, xx_d, xx_d]) O (xx_dt dd_L_law_0 7 rfl) (by decide) rfl ?_
  refine sw_new (k := k) (n := n) (r := 4500) O (xx_dt dd_L_law_0 8 rfl) cl_X8 nw_L_14 ((setM_out (by omega)).trans (hfC 4500 (by omega))) (by omega) ?_
  rw [xx_blk_up]
  refine sw_dup O (xx_dt dd_L_law_0 9 rfl) rfl ?_
  refine sw_callIx (k := k) (n := n) (k' := 0) (n' := 0) (as := []) (st := [.ref 4500]) (st2 := [.ref 4500]) O (ct_X8_init hl) ce_X8_init ml_L_140 ii_X8_init (xx_dt dd_L_law_0 10 rfl) (by decide) rfl rfl (Nat.le_of_ble_eq_true rfl) rfl ?_
  refine sw_astore_n (ls2 := [.ref 11, .ref 1000, .ref 5000, .ref 4500, xx_d, xx_d, xx_d]) O (xx_dt dd_L_law_0 11 rfl) (by decide) rfl ?_
  refine sw_iconst (x := 0) O (xx_dt dd_L_law_0 12 rfl) (by decide) ?_
  refine sw_istore (ls2 := [.ref 11, .ref 1000, .ref 5000, .ref 4500, .int (nI (5 * 0)), xx_d, xx_d]) O (xx_dt dd_L_law_0 13 rfl) (by decide) rfl ?_
  have e : hL h0 0 s0M s0C 0 none = xx_up (setM 0 s0M (setC s0C h0)) 4500 (14, 2, fun j => defaultValue (tyX8 j)) := by
    unfold hL hO
    rw [setC_up (by omega), setM_up (.inl (by omega)), fO_new]
  rw [e] at kk
  exact kk
theorem law_all (O : xx_O Y m_L_law l 40) (hl : l.stackTraces = false) (hB : okB h0) (h11 : h0 11 = some (100, len, fun j => .int (xs j))) (hlen : len ≤ 2560) (hc0 : xx_cls h0) (hcb : ∀ τ σ, LI τ σ → cbd (ctl τ)) (hmeI : ∀ τ σ, LI τ σ → mem_eq τ τ) (hY0 : ∀ r, (xy_h Y r).isSome = true → r < 1000 ∧ (h0 r).isSome = true) (hQ1 : ∀ g, xy_Q Y (.inl (some (.int 1))) g) (hI0 : LI s0M s0C) (i_region : IF_region l LI) (i_border : IF_border l LI) (i_bidder : IF_bidder l LI) (i_rules : IF_rules l LI) (i_step : IF_step l LI) (i_open : IF_open l LI) (i_wish : IF_wish l LI) (i_waive : IF_waive l LI) (i_close : IF_close l LI) (i_offer : IF_offer l LI) (i_settle : IF_settle l LI) (i_fail : IF_fail l LI) (i_station : IF_station l LI) (i_ask : IF_ask l LI) (i_packs : IF_packs l LI) (i_channel : IF_channel l LI) (i_clear : IF_clear l LI) (i_ofRegion : IF_ofRegion l LI) (i_ofBidder : IF_ofBidder l LI) (i_wants : IF_wants l LI) (i_priceIn : IF_priceIn l LI) (i_codeIn : IF_codeIn l LI) (i_ofPackage : IF_ofPackage l LI) (i_wins : IF_wins l LI) (i_pays : IF_pays l LI) (i_holder : IF_holder l LI) (i_chart : IF_chart l LI) (i_sale : IF_sale l LI) (i_worth : IF_worth l LI) (i_wouldPay : IF_wouldPay l LI) (i_objects : IF_objects l LI) (i_most : IF_most l LI) (i_contradicts : IF_contradicts l LI) (i_anew : IF_anew l LI) (i_knock : IF_knock l LI) (i_isSound : IF_isSound l LI) (i_digest : IF_digest l LI) : SW Y (700 * (len / 5) + 511) (10000 * (len / 5) + 3665) h0 0 [.ref 11, xx_d, xx_d, xx_d, xx_d, xx_d, xx_d] [] :=
  law_begin O hl hB (law_loop O hl hB h11 hlen hc0 hcb hmeI hY0 hQ1 i_region i_border i_bidder i_rules i_step i_open i_wish i_waive i_close i_offer i_settle i_fail i_station i_ask i_packs i_channel i_clear i_ofRegion i_ofBidder i_wants i_priceIn i_codeIn i_ofPackage i_wins i_pays i_holder i_chart i_sale i_worth i_wouldPay i_objects i_most i_contradicts i_anew i_knock i_isSound i_digest (len / 5) 0 (Nat.zero_add _) 0 s0M s0C 0 none hI0 (fun p e => by cases e))
end
end
section
/-! ===== the whole law over interfaces ===== -/
def R_law : String := "WavesaleLaw"
def lw_P (b : Addr) (xs : List Int32) (args : Array Value) (s : State) : Prop := args = #[.ref b] ∧ s.IntsAt b xs ∧ xs.length ≤ 2560 ∧ (Jvm.Cond.and given_1 narrow_1).before args s = true
def lw_Q (_ : Array Value) (s : State) (o : Outcome) (t : State) : Prop := o = .returned (some (.int 1)) ∧ Framed s o t [] 601024 7293034
def lw_Z (below : List Frame) (a : Array Value) (s : State) : State → Prop := fun t => ∃ o, t.status = .running ∧ Ended t below o ∧ lw_Q a s o t
def lw_At (p : Program) (s : State) (m : MethodId) (meth : Method) (c : Code) (b L : Nat) (xs : Nat → Int32) : Prop :=
  p.tables.exec = Jvm.exec ∧ c.code = code ∧ meth.sig.returnType = ret ∧ c.maxLocals = 7 ∧ s.vm.findClass R_law = some m.cls ∧ (∀ w ∈ lw_tbl, w.before #[Value.ref b] s = true) ∧ va_X b L xs s s.heap ∧ b < s.heap.size ∧ meth.locks = false ∧ (Jvm.Cond.and given_1 narrow_1).before #[Value.ref b] s = true ∧ meth.name = "law"
set_option maxRecDepth 100000 in
theorem law_whole {p : Program} {e : Env} {s : State} {m : MethodId} {below : List Frame} {meth : Method} {c : Code} (l : Launch) (hflags : l.flags = flags0) {b L : Nat} {xs : Nat → Int32} (hL : L ≤ 2560) (C0 : lw_At p s m meth c b L xs) {LI : XS9 → XS9 → Prop} (hcb : ∀ τ σ, LI τ σ → cbd (ctl τ)) (hmeI : ∀ τ σ, LI τ σ → mem_eq τ τ) (hI0 : LI s0M s0C)
    (i_region : IF_region l LI) (i_border : IF_border l LI) (i_bidder : IF_bidder l LI) (i_rules : IF_rules l LI) (i_step : IF_step l LI) (i_open : IF_open l LI) (i_wish : IF_wish l LI) (i_waive : IF_waive l LI) (i_close : IF_close l LI) (i_offer : IF_offer l LI) (i_settle : IF_settle l LI) (i_fail : IF_fail l LI) (i_station : IF_station l LI) (i_ask : IF_ask l LI) (i_packs : IF_packs l LI) (i_channel : IF_channel l LI) (i_clear : IF_clear l LI) (i_ofRegion : IF_ofRegion l LI) (i_ofBidder : IF_ofBidder l LI) (i_wants : IF_wants l LI) (i_priceIn : IF_priceIn l LI) (i_codeIn : IF_codeIn l LI) (i_ofPackage : IF_ofPackage l LI) (i_wins : IF_wins l LI) (i_pays : IF_pays l LI) (i_holder : IF_holder l LI) (i_chart : IF_chart l LI) (i_sale : IF_sale l LI) (i_worth : IF_worth l LI) (i_wouldPay : IF_wouldPay l LI) (i_objects : IF_objects l LI) (i_most : IF_most l LI) (i_contradicts : IF_contradicts l LI) (i_anew : IF_anew l LI) (i_knock : IF_knock l LI) (i_isSound : IF_isSound l LI) (i_digest : IF_digest l LI) : W p l e room_1 s m #[Value.ref b] below meth c s.heap [] 0 0 (lw_Z below #[Value.ref b] s) (entryFrame m ([Value.ref b] : List Value).toArray 7) := by
  obtain ⟨hx, hb, hr, hml, hown, hts, hX, hbl, hlocks, hgv, hnm⟩ := C0
  have H : stH #[Value.ref b] s := ⟨hts, hgv⟩
  obtain ⟨D, hDH, hDE, hK, hN, hS⟩ := st_D H hX
  have hl : l.stackTraces = false := by
    unfold Launch.stackTraces
    rw [hflags]
    rfl
  have O : xx_O ((p, l, e, room_1, s, m, #[Value.ref b], below, meth, c), D, xd_E D, h0S L xs, fun o _ => o = .inl (some (.int 1))) m_L_law l 40 :=
    ⟨hx, hb, hml, hr, hlocks, H.gw, hown, hK, hN, hl, hnm, rfl, Nat.le_of_ble_eq_true rfl, Nat.le_of_ble_eq_true rfl, fun E h9 q => (by cases q), fun a ha => by rw [hDH]⟩
  have sw := law_all O hl h0S_ok rfl hL h0S_cls hcb hmeI (fun r hr => ⟨Nat.not_le.mp fun q => (by
    have hr : (h0S L xs r).isSome = true := hr
    rw [h0S_hi q] at hr
    cases hr), hr⟩) (fun g => rfl) hI0 i_region i_border i_bidder i_rules i_step i_open i_wish i_waive i_close i_offer i_settle i_fail i_station i_ask i_packs i_channel i_clear i_ofRegion i_ofBidder i_wants i_priceIn i_codeIn i_ofPackage i_wins i_pays i_holder i_chart i_sale i_worth i_wouldPay i_objects i_most i_contradicts i_anew i_knock i_isSound i_digest
  have e11 : ([Value.ref 11].map (xx_v (xd_E D))) = [Value.ref b] := by
    show [Value.ref (xd_E D 11)] = _
    rw [hDE]
  have hent := lv_entry [Value.ref b] (n := 7) (Nat.le_of_ble_eq_true rfl)
  have hent2 : lv_has ((lg_sl [Value.ref b] ++ List.replicate (7 - (lg_sl [Value.ref b]).length) Slot.unset).toArray) 7 (lv_args 0 ([Value.ref 11].map (xx_v (xd_E D)))) := by
    rw [e11]
    exact hent
  have hls : xx_L (xd_E D) c.maxLocals [.ref 11, xx_d, xx_d, xx_d, xx_d, xx_d, xx_d] ((lg_sl [Value.ref b] ++ List.replicate (7 - (lg_sl [Value.ref b]).length) Slot.unset).toArray) := by
    rw [hml]
    exact xx_L.entry hent2
  have hin : ∀ v ∈ [Value.ref 11, xx_d, xx_d, xx_d, xx_d, xx_d, xx_d], xx_in (h0S L xs) v := by
    intro v hv
    rcases List.mem_cons.mp hv with rfl | hv
    · exact rfl
    · have : v = xx_d := by simpa using hv
      rw [this]
      exact trivial
  have g1 : 0 + (700 * (L / 5) + 511) ≤ 601024 := by omega
  have g2 : 0 + (10000 * (L / 5) + 3665) ≤ 7293034 := by omega
  have hx9 := sw (xd_E D) (fun _ => none) s.heap [] 0 0 _ ⟨hS, fun r hr => ⟨hr, rfl⟩, fun z hz => absurd hz List.not_mem_nil, g1, g2, hls, hin, fun v hv => absurd hv List.not_mem_nil⟩
  rw [lg_entry_eq]
  intro T hT X
  obtain ⟨t, a1, o, b1, b2, b3⟩ := hx9 T hT X
  refine ⟨t, a1, o, b1, b2, ?_⟩
  rcases b3 with ⟨hq, Lc, hF, hfree⟩ | ⟨q, rfl, E, ce, L9, hXc, -⟩
  · obtain ⟨v, h', ρ', ow', rfl, hQ, -⟩ := hq
    cases hQ
    obtain ⟨s1, s2, s3, s4, s5, s6⟩ := hF.2.2
    refine ⟨rfl, ⟨_, rfl⟩, hF.2.1, s1, s2, s3, s4, s5, fun a c9 ha => ?_⟩
    obtain ⟨c', e1, e2, e3, e4⟩ := s6 a c9 ha
    refine ⟨c', e1, e2, e3, fun i _ => e4 i (fun hm => ?_)⟩
    have h8 : (xd_H D).size ≤ a := hfree _ hm
    have h9 := (Array.getElem?_eq_some_iff.mp ha).1
    rw [hDH] at h8
    exact absurd h9 (Nat.not_lt.mpr h8)
  · obtain ⟨h', ρ', ow', hQ, -⟩ := hXc
    cases hQ
end
section
/-! ===== pure facts: what holds of the class's memory at all times ===== -/
/-- a number from 0 to m -/
def bd (m : Nat) (v : Int32) : Prop := v = nI (cn v) ∧ cn v ≤ m
theorem bd.nat {m n : Nat} (h : n ≤ m) (hm : m < 2147483648) : bd m (nI n) := by
  have e : cn (nI n) = n := cn_nI (by omega)
  exact ⟨by rw [e], by rw [e]; exact h⟩
theorem bd.le {m n : Nat} {v : Int32} (h : bd m v) (hm : m ≤ n) : bd n v := ⟨h.1, Nat.le_trans h.2 hm⟩
theorem bd.zero {m : Nat} : bd m 0 := ⟨rfl, Nat.zero_le _⟩
theorem bd.bt {m : Nat} {v lo hi : Int32} (h : n_bt v lo hi) (hl : 0 ≤ lo) (hm : hi = nI m) (hm2 : m < 2147483648) : bd m v := by
  obtain ⟨e, e2⟩ := cn_of (Int32.le_trans hl h.1)
  refine ⟨e, ?_⟩
  have h2 := Int32.le_iff_toInt_le.mp h.2
  rw [hm, toI_nI hm2] at h2
  omega
theorem bd.lt {x : Int32} {R m : Nat} (h : n_lt x R) (hm : R ≤ m + 1) : bd m x := ⟨h.1, by have := h.2; omega⟩
/-- a block's holder: nobody, or a bidder -/
def hd (v : Int32) : Prop := v = -1 ∨ bd 9 v
/-- the places that the invariant speaks of -/
def ky (q i : Nat) : Prop := (q = 1000 ∧ i = 9) ∨ (q = 1001 ∧ (i = 4 ∨ i = 9)) ∨ (q = 1006 ∧ i = 1) ∨ q = 1010 ∨ q = 1017 ∨ (1020 ≤ q ∧ q ≤ 1036) ∨ (1141 ≤ q ∧ q ≤ 1145) ∨ q = 1151 ∨ (q = 2000 ∧ i = 9)
def JC (σ : XS9) : Prop := bd 5 (σ 1001 4) ∧ bd 6 (σ 1001 9) ∧ bd 60 (σ 2000 9) ∧ bd 10 (σ 1006 1) ∧ bd 2 (σ 1000 9) ∧ (∀ i, i < 6 → bd 3 (σ 1017 i)) ∧ (∀ i, i < 6 → bd 6 (σ 1020 i)) ∧ (∀ r, r < 5 → bd 5 (σ 1010 r)) ∧ XCD σ ∧ (∀ i, i < 10 → bd 4 (σ 1151 i)) ∧ (∀ i k, i < 6 → k < 6 → 0 ≤ σ (1031 + i) k) ∧ ∀ r k, r < 5 → k < 5 → hd (σ (1141 + r) k)
theorem JC.of {σ σ' : XS9} (h : JC σ) (e : ∀ q i, ky q i → σ' q i = σ q i) : JC σ' := by
  obtain ⟨h1, h2, h3, h4, h5, h6, h7, h8, h9, h10, h11, h12⟩ := h
  refine ⟨by rw [e _ _ (by unfold ky; omega)]; exact h1, by rw [e _ _ (by unfold ky; omega)]; exact h2, by rw [e _ _ (by unfold ky; omega)]; exact h3, by rw [e _ _ (by unfold ky; omega)]; exact h4, by rw [e _ _ (by unfold ky; omega)]; exact h5, fun i hi => ?_, fun i hi => ?_, fun i hi => ?_, fun i k hi hk => ?_, fun i hi => ?_, fun i k hi hk => ?_, fun r k hr hk => ?_⟩
  · rw [e _ _ (by unfold ky; omega)]; exact h6 i hi
  · rw [e _ _ (by unfold ky; omega)]; exact h7 i hi
  · rw [e _ _ (by unfold ky; omega)]; exact h8 i hi
  · rw [e _ _ (by unfold ky; omega)]; exact h9 i k hi hk
  · rw [e _ _ (by unfold ky; omega)]; exact h10 i hi
  · rw [e _ _ (by unfold ky; omega)]; exact h11 i k hi hk
  · rw [e _ _ (by unfold ky; omega)]; exact h12 r k hr hk
theorem JC.set {σ : XS9} (h : JC σ) {q i : Nat} {x : Int32} (hq : ¬ ky q i) : JC (u2 σ q i x) := h.of fun q9 i9 hk => by
  by_cases e : q9 = q
  · subst e
    exact u2_oi (fun e2 => hq (by rw [← e2]; exact hk))
  · rw [u2_ne e]
theorem JC.rows {σ σ' : XS9} (h : JC σ) (e : ∀ q, (q = 1000 ∨ q = 1001 ∨ q = 1006 ∨ q = 1010 ∨ q = 1017 ∨ (1020 ≤ q ∧ q ≤ 1036) ∨ (1141 ≤ q ∧ q ≤ 1145) ∨ q = 1151 ∨ q = 2000) → σ' q = σ q) : JC σ' := h.of fun q i hk => by
  rw [e q (by unfold ky at hk; omega)]
theorem JC.init : JC s0C := by
  refine ⟨⟨by decide, by decide⟩, ⟨by decide, by decide⟩, ⟨by decide, by decide⟩, ⟨by decide, by decide⟩, ⟨by decide, by decide⟩, fun i hi => ?_, fun i hi => ?_, fun i hi => ?_, fun i k hi hk => ?_, fun i hi => ?_, fun i k hi hk => ?_, fun r k hr hk => ?_⟩
  · rw [s0C_z (by decide) (by decide) (by omega) (by decide)]; exact bd.zero
  · rw [s0C_z (by decide) (by decide) (by omega) (by decide)]; exact bd.zero
  · rw [s0C_z (by decide) (by decide) (by omega) (by decide)]; exact bd.zero
  · rw [s0C_z (by omega) (by omega) (by omega) (by omega)]; exact Int32.le_refl _
  · rw [s0C_z (by decide) (by decide) (by omega) (by decide)]; exact bd.zero
  · rw [s0C_z (by omega) (by omega) (by omega) (by omega)]; exact Int32.le_refl _
  · left
    unfold s0C
    rw [if_neg (by omega), if_neg (by omega), if_pos (by omega)]
/-! the class's methods keep it -/
theorem ky.n {q i : Nat} (h : ¬ (q = 1000 ∨ q = 1001 ∨ q = 1006 ∨ q = 1010 ∨ q = 1017 ∨ (1020 ≤ q ∧ q ≤ 1036) ∨ (1141 ≤ q ∧ q ≤ 1145) ∨ q = 1151 ∨ q = 2000)) : ¬ ky q i := fun k => by
  unfold ky at k
  omega
section
variable {σ : XS9} {R B C K w : Nat}
theorem JC.begin (h : JC σ) : JC (g_begin σ 2000) := by
  have e : ∀ q, q ≠ 2000 → (q < 2001 ∨ 2006 < q) → g_begin σ 2000 q = σ q := fun q a b => fr_begin (by omega)
  have e9 : g_begin σ 2000 2000 9 = 0 := by
    unfold g_begin
    rw [u2_oi (by decide)]
    exact u2_at
  obtain ⟨h1, h2, h3, h4, h5, h6, h7, h8, h9, h10, h11, h12⟩ := h
  refine ⟨by rw [e _ (by omega) (by omega)]; exact h1, by rw [e _ (by omega) (by omega)]; exact h2, by rw [e9]; exact bd.zero, by rw [e _ (by omega) (by omega)]; exact h4, by rw [e _ (by omega) (by omega)]; exact h5, fun i hi => ?_, fun i hi => ?_, fun i hi => ?_, fun i k hi hk => ?_, fun i hi => ?_, fun i k hi hk => ?_, fun r k hr hk => ?_⟩
  · rw [e _ (by omega) (by omega)]; exact h6 i hi
  · rw [e _ (by omega) (by omega)]; exact h7 i hi
  · rw [e _ (by omega) (by omega)]; exact h8 i hi
  · rw [e _ (by omega) (by omega)]; exact h9 i k hi hk
  · rw [e _ (by omega) (by omega)]; exact h10 i hi
  · rw [e _ (by omega) (by omega)]; exact h11 i k hi hk
  · rw [e _ (by omega) (by omega)]; exact h12 r k hr hk
/-- one place of a row is written with what the row may hold -/
theorem JC.put {q i : Nat} {x : Int32} (h : JC σ) (hx : (q = 1001 ∧ i = 4 ∧ bd 5 x) ∨ (q = 1001 ∧ i = 9 ∧ bd 6 x) ∨ (q = 1006 ∧ i = 1 ∧ bd 10 x) ∨ (q = 1000 ∧ i = 9 ∧ bd 2 x) ∨ (q = 1017 ∧ bd 3 x) ∨ (q = 1020 ∧ bd 6 x) ∨ (q = 1010 ∧ bd 5 x) ∨ (1022 ≤ q ∧ q < 1028 ∧ 0 ≤ x) ∨ (q = 1151 ∧ bd 4 x) ∨ (1031 ≤ q ∧ q < 1037 ∧ 0 ≤ x) ∨ (1141 ≤ q ∧ q ≤ 1145 ∧ hd x)) : JC (u2 σ q i x) := by
  have e : ∀ q9 i9, (q9 = q → i9 ≠ i) → u2 σ q i x q9 i9 = σ q9 i9 := fun q9 i9 hn => by
    by_cases e : q9 = q
    · subst e
      exact u2_oi (hn rfl)
    · rw [u2_ne e]
  have g : ∀ (P : Int32 → Prop) q9 i9, P (σ q9 i9) → (q9 = q → i9 = i → P x) → P (u2 σ q i x q9 i9) := fun P q9 i9 h1 h2 => by
    by_cases e1 : q9 = q
    · by_cases e2 : i9 = i
      · subst e1
        subst e2
        rw [u2_at]
        exact h2 rfl rfl
      · rw [e _ _ (fun _ => e2)]
        exact h1
    · rw [e _ _ (fun z => absurd z e1)]
      exact h1
  obtain ⟨h1, h2, h3, h4, h5, h6, h7, h8, h9, h10, h11, h12⟩ := h
  refine ⟨g _ _ _ h1 (fun a b => ?_), g _ _ _ h2 (fun a b => ?_), g _ _ _ h3 (fun a b => ?_), g _ _ _ h4 (fun a b => ?_), g _ _ _ h5 (fun a b => ?_), fun i hi => g _ _ _ (h6 i hi) (fun a b => ?_), fun i hi => g _ _ _ (h7 i hi) (fun a b => ?_), fun i hi => g _ _ _ (h8 i hi) (fun a b => ?_), fun i k hi hk => g (fun v => 0 ≤ v) _ _ (h9 i k hi hk) (fun a b => ?_), fun i hi => g _ _ _ (h10 i hi) (fun a b => ?_), fun i k hi hk => g (fun v => 0 ≤ v) _ _ (h11 i k hi hk) (fun a b => ?_), fun r k hr hk => g _ _ _ (h12 r k hr hk) (fun a b => ?_)⟩ <;> (rcases hx with ⟨z1, z2, z⟩ | ⟨z1, z2, z⟩ | ⟨z1, z2, z⟩ | ⟨z1, z2, z⟩ | ⟨z1, z⟩ | ⟨z1, z⟩ | ⟨z1, z⟩ | ⟨z1, z2, z⟩ | ⟨z1, z⟩ | ⟨z1, z2, z⟩ | ⟨z1, z2, z⟩ <;> first | exact z | (exfalso; omega))
theorem JC.region {x y z : Int32} (h : JC σ) (hR6 : R ≤ 5) : JC (g_region σ x y z R) := by
  unfold g_region
  split
  · rename_i hx
    split
    · split
      · split
        · split
          · rename_i hR9
            have hR5 : R < 5 := (nI_ltI (a := R) (b := 5) (by omega) (by omega)).mp hR9
            refine JC.begin ?_
            unfold g_addRegion
            refine JC.put (JC.set (q := 1012) (JC.set (q := 1011) (JC.put h (.inr (.inr (.inr (.inr (.inr (.inr (.inl ⟨rfl, bd.bt hx (by decide) rfl (by decide)⟩)))))))) (ky.n (by decide))) (ky.n (by decide))) (.inl ⟨rfl, rfl, bd.nat (by omega) (by decide)⟩)
          · exact h
        · exact h
      · exact h
    · exact h
  · exact h
theorem JC.bidder {x y z v : Int32} (h : JC σ) (hB6 : B ≤ 6) : JC (g_bidder σ x y z v B) := by
  unfold g_bidder
  split
  · split
    · split
      · split
        · rename_i hv
          split
          · split
            · rename_i hB9
              have hB5 : B < 6 := (nI_ltI (a := B) (b := 6) (by omega) (by omega)).mp hB9
              refine JC.begin ?_
              unfold g_addBidder
              exact JC.put (JC.put (JC.set (q := 1016) (JC.set (q := 1015) (JC.set (q := 1014) h (ky.n (by decide))) (ky.n (by decide))) (ky.n (by decide))) (q := 1017) (.inr (.inr (.inr (.inr (.inl ⟨rfl, bd.bt hv (by decide) rfl (by decide)⟩)))))) (.inr (.inl ⟨rfl, rfl, bd.nat (by omega) (by decide)⟩))
            · exact h
          · exact h
        · exact h
      · exact h
    · exact h
  · exact h
theorem JC.border {x y : Int32} (h : JC σ) : JC (g_border σ x y R) := by
  unfold g_border
  split
  · split
    · split
      · exact h
      · split
        · unfold g_addBorder
          exact JC.set (q := 1013) (JC.set (q := 1013) h (ky.n (by decide))) (ky.n (by decide))
        · exact h
    · exact h
  · exact h
theorem JC.rules {x y : Int32} (h : JC σ) : JC (g_rules σ x y) := by
  have k1 : ∀ i, (i = 10 ∨ i = 11) → ¬ ky 1001 i := fun i hi k => by unfold ky at k; omega
  unfold g_rules
  split
  · split
    · exact JC.set (JC.set h (k1 10 (.inl rfl))) (k1 11 (.inr rfl))
    · exact h
  · exact h
theorem ky1000 {i : Nat} (hi : i ≠ 9) : ¬ ky 1000 i := fun k => by unfold ky at k; omega
theorem JC.step {x : Int32} (h : JC σ) : JC (g_step σ x) := by
  unfold g_step
  split
  · split
    · exact JC.set h (ky1000 (by decide))
    · split
      · exact JC.set h (ky1000 (by decide))
      · exact h
  · exact h
theorem JC.opn (h : JC σ) : JC (g_open σ R B) := by
  unfold g_open
  split
  · split
    · exact h
    · split
      · exact h
      · exact JC.set h (ky1000 (by decide))
  · exact h
theorem JC.wish {x y z : Int32} (h : JC σ) : JC (g_wish σ x y z R B) := by
  unfold g_wish
  split
  · split
    · split
      · split
        · split
          · exact h
          · exact JC.set (q := 2003) h (ky.n (by decide))
        · exact h
      · exact h
    · exact h
  · exact h
theorem JC.waive {x : Int32} (h : JC σ) : JC (g_waive σ x B) := by
  have k1 : ¬ ky 2000 12 := fun k => by unfold ky at k; omega
  unfold g_waive
  split
  · split
    · split
      · exact h
      · split
        · unfold g_useWaiver
          exact JC.set (q := 2000) (JC.set (q := 2005) h (ky.n (by decide))) k1
        · exact h
    · exact h
  · exact h
theorem JC.station {x y : Int32} (h : JC σ) (hR5 : R ≤ 5) (hC10 : C ≤ 10) : JC (g_station σ x y R C) := by
  unfold g_station
  split
  · rename_i hx
    split
    · split
      · rename_i hC9
        have hC5 : C < 10 := (nI_ltI (a := C) (b := 10) (by omega) (by omega)).mp hC9
        unfold g_add
        refine JC.put (JC.set (q := 1150) (JC.put h (q := 1151) (.inr (.inr (.inr (.inr (.inr (.inr (.inr (.inr (.inl ⟨rfl, ?_⟩)))))))))) (ky.n (by decide))) (.inr (.inr (.inl ⟨rfl, rfl, bd.nat (by omega) (by decide)⟩)))
        exact bd.nat (by have := hx.2; omega) (by decide)
      · exact h
    · exact h
  · exact h
theorem JC.ask {x y : Int32} (h : JC σ) : JC (g_ask σ x y C) := by
  unfold g_ask
  split
  · split
    · exact JC.set (q := 1150) h (ky.n (by decide))
    · exact h
  · exact h
theorem JC.pack {x : Int32} {ch : Nat} {rg : Nat → Nat} (h : JC σ) : JC (g_pack σ x ch C rg) := h.rows fun q hq => fr_packM (by omega)
theorem JC.cheapest {ch : Nat} {rg : Nat → Nat} (h : JC σ) : JC (g_cheapest σ ch C rg) := h.rows fun q hq => fr_cheapest (by omega)
theorem JC.packs {x y : Int32} {rg : Nat → Nat} (h : JC σ) : JC (g_packs σ x y C rg) := by
  unfold g_packs
  split
  · split
    · exact h.pack
    · exact h
  · exact h
theorem JC.channel {x y z : Int32} {rg : Nat → Nat} (h : JC σ) : JC (g_channel σ x y z C rg) := by
  unfold g_channel
  split
  · split
    · split
      · exact h.pack
      · exact h
    · exact h
  · exact h
theorem JC.clear {x : Int32} {rg : Nat → Nat} (h : JC σ) : JC (g_clear σ x C rg) := by
  unfold g_clear
  split
  · exact h.cheapest
  · exact h
theorem JC.runLog {x y : Int32} {j r : Nat} (h : JC σ) (hK60 : K ≤ 60) : JC (g_runLog σ 3000 2000 x j r y B R K) := h.rows fun q hq => fr_runLog hK60 (by omega)
theorem JC.anew {x y z v : Int32} (h : JC σ) (hK60 : K ≤ 60) : JC (g_anew σ x y z v R B K) := by
  unfold g_anew
  split
  · split
    · split
      · split
        · exact h.runLog hK60
        · exact h
      · exact h
    · exact h
  · exact h
theorem JC.isSound (h : JC σ) (hK60 : K ≤ 60) : JC (g_isSound σ R B w K) := h.runLog hK60
theorem JC.digest {rg : Nat → Nat} (h : JC σ) (hK60 : K ≤ 60) : JC (g_digest σ K B R C w rg) := by
  unfold g_digest g_dgS
  split
  · exact JC.isSound h.cheapest.cheapest hK60
  · exact JC.isSound h hK60
theorem JC.knock (h : JC σ) : JC (g_knock σ) := JC.set h (ky1000 (by decide))
theorem JC.addM {i : Nat} {x y : Int32} {gr cnt : Nat → Nat} (h : JC σ) (hi : i < 6) (hg : ∀ i, i < 6 → gr i < 4) (hc : cnt i ≤ 6) (hx : 0 ≤ x) (hy : 0 ≤ y) : JC (g_addM σ i x y R B gr cnt) := by
  have hgi := hg i hi
  have hp : 2 ^ i < 64 := by
    have := Nat.pow_lt_pow_right (a := 2) (by decide) hi
    exact this
  unfold g_addM
  split
  · rename_i q
    have hc6 : cnt i < 6 := (nI_ltI (a := cnt i) (b := 6) (by omega) (by omega)).mp q
    have A : JC (u2 (u2 (u2 σ (1022 + i) (cnt i) x) (1031 + i) (cnt i) y) 1020 i (nI (cnt i + 1))) :=
      JC.put (JC.put (JC.put h (.inr (.inr (.inr (.inr (.inr (.inr (.inr (.inl ⟨by omega, by omega, hx⟩))))))))) (.inr (.inr (.inr (.inr (.inr (.inr (.inr (.inr (.inr (.inl ⟨by omega, by omega, hy⟩))))))))))) (.inr (.inr (.inr (.inr (.inr (.inl ⟨rfl, bd.nat (by omega) (by decide)⟩))))))
    generalize u2 (u2 (u2 σ (1022 + i) (cnt i) x) (1031 + i) (cnt i) y) 1020 i (nI (cnt i + 1)) = s at A ⊢
    split
    · exact A.rows fun q hq => fr_findWinners (by omega)
    · refine A.rows fun q hq => ?_
      rw [fr_findWinners (by omega), fr_giveBack (by omega), fr_pickFrom ⟨hg, hp, by omega, by omega, by omega, by omega, by omega⟩, fr_take (by omega)]
  · exact h
theorem JC.find (h : JC σ) : JC (g_find σ) := h.rows fun q hq => fr_find (by omega)
theorem JC.offer {x y z : Int32} {gr cnt : Nat → Nat} (h : JC σ) (hB6 : B ≤ 6) (hg : ∀ i, i < 6 → gr i < 4) (hc : ∀ i, i < 6 → cnt i ≤ 6) : JC (g_offer σ x y z R B gr cnt) := by
  unfold g_offer
  split
  · rename_i hx
    have hx6 : cn x < 6 := by have := hx.2; omega
    split
    · exact h
    · rename_i hy
      have hy0 : 0 ≤ y := by
        refine Int32.not_lt.mp fun q => hy ?_
        unfold f_isCode
        rw [if_pos q]
      split
      · rename_i hz
        split
        · split
          · exact h
          · split
            · exact h
            · exact (h.addM hx6 hg (hc _ hx6) hy0 hz).find
        · exact h
      · exact h
  · exact h
def hdI (s : XS9) : Prop := ∀ r k, r < 5 → k < 5 → hd (s (1141 + r) k)
theorem hd.six {n : Nat} : hd (nI (n % 6)) := .inr (bd.nat (by omega) (by decide))
theorem hdI.u2 {s : XS9} (h : hdI s) {q k : Nat} {x : Int32} (hx : hd x) : hdI (u2 s q k x) := fun r9 k9 hr hk => by
  by_cases e : 1141 + r9 = q
  · by_cases e2 : k9 = k
    · rw [e, e2, u2_at]
      exact hx
    · rw [e, u2_oi e2, ← e]
      exact h r9 k9 hr hk
  · rw [u2_ne e]
    exact h r9 k9 hr hk
theorem hdI.fill {s : XS9} (h : hdI s) {a n : Nat} {x : Int32} (hx : hd x) : hdI (g_fill s a n x) := by
  unfold g_fill x_fill_5
  exact xit_inv hdI (N := n) (fun i3 s3 _ hP3 => hP3.u2 hx) n 0 _ (Nat.zero_add _) h
theorem hdI.turn62 {s s0 : XS9} {s2 : XS9 × Nat} {i : Nat} (h : hdI s0) {r t : Nat} {sp : Nat → Nat} : hdI (x_giveByTurn_62 s r t sp i s2 s0) := by
  unfold x_giveByTurn_62
  generalize min (s2.2 + cbw s2.1 ((t + i) % 6) r) (sp r) - s2.2 = n9
  exact xit_inv hdI (N := n9) (fun i3 s3 _ hP3 => hP3.u2 hd.six) n9 0 _ (Nat.zero_add _) h
theorem hdI.turn {s : XS9} (h : hdI s) {r t : Nat} {sp : Nat → Nat} : hdI (g_giveByTurn s r t sp) := by
  unfold g_giveByTurn x_giveByTurn_20
  generalize 6 = n9
  exact xit_inv (fun s : XS9 × Nat => hdI s.1) (N := n9) (fun i s2 _ hP => hdI.turn62 (s := s) hP) n9 0 _ (Nat.zero_add _) (hdI.fill h (.inl rfl))
theorem hdI.give25 {s : XS9} {s0 : XS9 × Nat × Int32} (h : hdI s0.1) {sp : Nat → Nat} {i : Nat} : hdI (x_give_25 s R sp i s0).1 := by
  unfold x_give_25
  generalize 6 = n9
  refine xit_inv (fun s : XS9 × Nat × Int32 => hdI s.1) (N := n9) (fun i3 s3 _ hP3 => ?_) n9 0 _ (Nat.zero_add _) h
  have e := hP3.turn (r := i) (t := i3) (sp := sp)
  generalize g_giveByTurn s3.1 i i3 sp = g9 at e ⊢
  split
  · exact e
  · exact e
theorem hdI.give {s : XS9} (h : hdI s) {sp : Nat → Nat} : hdI (g_give s R sp) := by
  unfold g_give x_give_7
  refine xit_inv hdI (N := R) (fun i s2 _ hP => ?_) R 0 _ (Nat.zero_add _) (fun r k hr hk => by rw [u2_ne (by omega)]; exact h r k hr hk)
  have e : hdI (x_give_25 s R sp i (s2, 0, 25)).1 := hdI.give25 hP
  generalize x_give_25 s R sp i (s2, 0, 25) = y9 at e ⊢
  have e2 := e.turn (r := i) (t := y9.2.1) (sp := sp)
  generalize g_giveByTurn y9.1 i y9.2.1 sp = z9 at e2 ⊢
  intro r k hr hk
  rw [u2_ne (by omega)]
  exact e2 r k hr hk
theorem JC.give {sp : Nat → Nat} (h : JC σ) (hR5 : R ≤ 5) : JC (g_give σ R sp) := by
  have e : ∀ q, q ≠ 1005 → (q < 1141 ∨ 1145 < q) → g_give σ R sp q = σ q := fun q a b => fr_give hR5 ⟨a, b⟩
  have hh : hdI (g_give σ R sp) := hdI.give (s := σ) (R := R) h.2.2.2.2.2.2.2.2.2.2.2
  obtain ⟨h1, h2, h3, h4, h5, h6, h7, h8, h9, h10, h11, h12⟩ := h
  refine ⟨by rw [e _ (by omega) (by omega)]; exact h1, by rw [e _ (by omega) (by omega)]; exact h2, by rw [e _ (by omega) (by omega)]; exact h3, by rw [e _ (by omega) (by omega)]; exact h4, by rw [e _ (by omega) (by omega)]; exact h5, fun i hi => ?_, fun i hi => ?_, fun i hi => ?_, fun i k hi hk => ?_, fun i hi => ?_, fun i k hi hk => ?_, hh⟩
  · rw [e _ (by omega) (by omega)]; exact h6 i hi
  · rw [e _ (by omega) (by omega)]; exact h7 i hi
  · rw [e _ (by omega) (by omega)]; exact h8 i hi
  · rw [e _ (by omega) (by omega)]; exact h9 i k hi hk
  · rw [e _ (by omega) (by omega)]; exact h10 i hi
  · rw [e _ (by omega) (by omega)]; exact h11 i k hi hk
theorem JC.settle {x : Int32} {sp : Nat → Nat} (h : JC σ) (hR5 : R ≤ 5) : JC (g_settle σ x R sp) := by
  unfold g_settle
  split
  · rename_i hx
    split
    · exact JC.give (JC.set (JC.put h (.inr (.inr (.inr (.inl ⟨rfl, rfl, bd.bt hx (by decide) rfl (by decide)⟩))))) (ky1000 (by decide))) hR5
    · exact h
  · exact h
theorem JC.leaveOut {i : Nat} (h : JC σ) : JC (g_leaveOut σ i) := h.rows fun q hq => fr_leaveOut (by omega)
theorem JC.fail {x : Int32} {sp : Nat → Nat} (h : JC σ) (hR5 : R ≤ 5) : JC (g_fail σ x R B sp) := by
  unfold g_fail
  split
  · split
    · split
      · exact h
      · exact JC.give (JC.set h (ky1000 (by decide))).leaveOut.find hR5
    · exact h
  · exact h
end
end
section
/-! ===== pure facts: the class's clock ===== -/
theorem many_eq {n r : Nat} (hn : n ≤ 7775) (hr : r < 5) : f_many (nI n) r = nI (n / 6 ^ r % 6) := by
  have d : ∀ a, a ≤ 7775 → nI a / 6 = nI (a / 6) := fun a ha => div6 (by omega)
  have e : ∀ a, a ≤ 7775 → nI a - nI a / 6 * 6 = nI (a % 6) := fun a ha => mod6x (by omega)
  match r, hr with
  | 0, _ =>
    show nI n - nI n / 6 * 6 = _
    rw [e n hn, Nat.pow_zero, Nat.div_one]
  | 1, _ =>
    show nI n / 6 - nI n / 6 / 6 * 6 = _
    rw [d n hn, e _ (by omega), Nat.pow_one]
  | 2, _ =>
    show nI n / 6 / 6 - nI n / 6 / 6 / 6 * 6 = _
    rw [d n hn, d _ (by omega), e _ (by omega), Nat.div_div_eq_div_mul]
  | 3, _ =>
    show nI n / 6 / 6 / 6 - nI n / 6 / 6 / 6 / 6 * 6 = _
    rw [d n hn, d _ (by omega), d _ (by omega), e _ (by omega), Nat.div_div_eq_div_mul, Nat.div_div_eq_div_mul]
  | 4, _ =>
    show nI n / 6 / 6 / 6 / 6 - nI n / 6 / 6 / 6 / 6 / 6 * 6 = _
    rw [d n hn, d _ (by omega), d _ (by omega), d _ (by omega), e _ (by omega), Nat.div_div_eq_div_mul, Nat.div_div_eq_div_mul, Nat.div_div_eq_div_mul]
theorem rep_eq {n k p d : Nat} (hd : d * p ≤ n) : nI n + (nI k - nI d) * nI p = nI (n - d * p + k * p) := by
  rw [Int32.sub_mul, nI_mul, nI_mul, ← nI_plus, ← nI_minus hd, Int32.sub_eq_add_neg, Int32.sub_eq_add_neg, Int32.add_assoc, Int32.add_comm (nI (k * p))]
theorem bd.many {c : Int32} (h : bd 7775 c) {r : Nat} (hr : r < 5) : bd 5 (f_many c r) := by
  rw [h.1, many_eq h.2 hr]
  exact bd.nat (by omega) (by decide)
theorem bd.replaced {c m : Int32} (h : bd 7775 c) {r : Nat} (hr : r < 5) (hm : bd 5 m) : bd 7775 (f_replaced c r m) := by
  unfold f_replaced
  have h2 := h.2
  have m2 := hm.2
  rw [h.1, many_eq h2 hr, hm.1]
  generalize cn c = n at h2
  generalize cn m = k at m2
  match r, hr with
  | 0, _ =>
    rw [show x_replaced_5 (nI n) 0 (nI k) 1 = nI 1 from rfl, rep_eq (by simp only [Nat.pow_zero]; omega)]
    exact bd.nat (by simp only [Nat.pow_zero]; omega) (by decide)
  | 1, _ =>
    rw [show x_replaced_5 (nI n) 1 (nI k) 1 = nI 6 from rfl, rep_eq (by simp only [Nat.pow_one]; omega)]
    exact bd.nat (by simp only [Nat.pow_one]; omega) (by decide)
  | 2, _ =>
    rw [show x_replaced_5 (nI n) 2 (nI k) 1 = nI 36 from rfl, rep_eq (by show n / 36 % 6 * 36 ≤ n; omega)]
    exact bd.nat (by show n - n / 36 % 6 * 36 + k * 36 ≤ 7775; omega) (by decide)
  | 3, _ =>
    rw [show x_replaced_5 (nI n) 3 (nI k) 1 = nI 216 from rfl, rep_eq (by show n / 216 % 6 * 216 ≤ n; omega)]
    exact bd.nat (by show n - n / 216 % 6 * 216 + k * 216 ≤ 7775; omega) (by decide)
  | 4, _ =>
    rw [show x_replaced_5 (nI n) 4 (nI k) 1 = nI 1296 from rfl, rep_eq (by show n / 1296 % 6 * 1296 ≤ n; omega)]
    exact bd.nat (by show n - n / 1296 % 6 * 1296 + k * 1296 ≤ 7775; omega) (by decide)
theorem tot_step {c a p : Int32} {m : Nat} (hc : bd 7775 c) (ha : bd m a) (hp : bd 9999 p) (hm : m ≤ 1000000) : bd 7775 (c / 6) ∧ bd (m + 49995) (a + (c - c / 6 * 6) * p) := by
  have c2 := hc.2
  have a2 := ha.2
  have p2 := hp.2
  rw [hc.1, ha.1, hp.1]
  generalize cn c = n at c2
  generalize cn a = k at a2
  generalize cn p = q at p2
  rw [mod6x (by omega), div6 (by omega), nI_mul, nI_plus]
  have h6 : n % 6 ≤ 5 := by omega
  have hmul : n % 6 * q ≤ 5 * 9999 := Nat.mul_le_mul h6 p2
  exact ⟨bd.nat (by omega) (by decide), bd.nat (by omega) (by omega)⟩
theorem bd.total {c : Int32} (h : bd 7775 c) {f : Nat → Int32} (hf : ∀ r, r < 5 → bd 9999 (f r)) : bd 249975 (f_total c 5 f) := by
  have s0 := tot_step h (bd.zero (m := 0)) (hf 0 (by decide)) (by decide)
  have s1 := tot_step s0.1 s0.2 (hf 1 (by decide)) (by decide)
  have s2 := tot_step s1.1 s1.2 (hf 2 (by decide)) (by decide)
  have s3 := tot_step s2.1 s2.2 (hf 3 (by decide)) (by decide)
  have s4 := tot_step s3.1 s3.2 (hf 4 (by decide)) (by decide)
  exact s4.2
/-- the clock's numbers: codes that are held and wished, prices now and in the log; first prices and the step -/
def KB (σ : XS9) : Prop := (∀ i, i < 6 → bd 7775 (σ 2002 i)) ∧ (∀ i, i < 6 → bd 7775 (σ 2003 i)) ∧ (∀ r, r < 5 → bd 9999 (σ 2001 r)) ∧ (∀ k r, k < 60 → r < 5 → bd 9999 (σ (2101 + k) r)) ∧ (∀ r, r < 5 → bd 999 (σ 1012 r)) ∧ bd 20 (σ 1000 8)
theorem KB.of {σ σ' : XS9} (h : KB σ) (e : ∀ q, (q = 2001 ∨ q = 2002 ∨ q = 2003 ∨ (2101 ≤ q ∧ q ≤ 2160) ∨ q = 1012) → σ' q = σ q) (e8 : σ' 1000 8 = σ 1000 8) : KB σ' := by
  obtain ⟨h1, h2, h3, h4, h5, h6⟩ := h
  refine ⟨fun i hi => ?_, fun i hi => ?_, fun i hi => ?_, fun k r hk hr => ?_, fun r hr => ?_, by rw [e8]; exact h6⟩
  · rw [e _ (by omega)]; exact h1 i hi
  · rw [e _ (by omega)]; exact h2 i hi
  · rw [e _ (by omega)]; exact h3 i hi
  · rw [e _ (by omega)]; exact h4 k r hk hr
  · rw [e _ (by omega)]; exact h5 r hr
theorem KB.rows {σ σ' : XS9} (h : KB σ) (e : ∀ q, (q = 2001 ∨ q = 2002 ∨ q = 2003 ∨ (2101 ≤ q ∧ q ≤ 2160) ∨ q = 1012 ∨ q = 1000) → σ' q = σ q) : KB σ' := h.of (fun q hq => e q (by omega)) (by rw [e _ (by omega)])
theorem KB.set {σ : XS9} (h : KB σ) {q i : Nat} {x : Int32} (hq : ¬ (q = 2001 ∨ q = 2002 ∨ q = 2003 ∨ (2101 ≤ q ∧ q ≤ 2160) ∨ q = 1012 ∨ (q = 1000 ∧ i = 8))) : KB (u2 σ q i x) := by
  refine h.of (fun q9 h9 => u2_ne (by omega)) ?_
  by_cases e : q = 1000
  · subst e
    exact u2_oi (by omega)
  · rw [u2_ne (by omega)]
theorem KB.put {σ : XS9} {q i : Nat} {x : Int32} (h : KB σ) (hx : ((q = 2002 ∨ q = 2003) ∧ bd 7775 x) ∨ ((q = 2001 ∨ (2101 ≤ q ∧ q ≤ 2160)) ∧ bd 9999 x) ∨ (q = 1012 ∧ bd 999 x) ∨ (q = 1000 ∧ i = 8 ∧ bd 20 x)) : KB (u2 σ q i x) := by
  have g : ∀ (P : Int32 → Prop) q9 i9, P (σ q9 i9) → (q9 = q → i9 = i → P x) → P (u2 σ q i x q9 i9) := fun P q9 i9 h1 h2 => by
    by_cases e1 : q9 = q
    · by_cases e2 : i9 = i
      · subst e1
        subst e2
        rw [u2_at]
        exact h2 rfl rfl
      · rw [show u2 σ q i x q9 i9 = σ q9 i9 from by subst e1; exact u2_oi e2]
        exact h1
    · rw [u2_ne e1]
      exact h1
  obtain ⟨h1, h2, h3, h4, h5, h6⟩ := h
  refine ⟨fun i hi => g _ _ _ (h1 i hi) (fun a b => ?_), fun i hi => g _ _ _ (h2 i hi) (fun a b => ?_), fun i hi => g _ _ _ (h3 i hi) (fun a b => ?_), fun k r hk hr => g _ _ _ (h4 k r hk hr) (fun a b => ?_), fun r hr => g _ _ _ (h5 r hr) (fun a b => ?_), g _ _ _ h6 (fun a b => ?_)⟩ <;> (rcases hx with ⟨z1, z⟩ | ⟨z1, z⟩ | ⟨z1, z⟩ | ⟨z1, z2, z⟩ <;> first | exact z | (exfalso; omega))
theorem KB.row {σ : XS9} {q : Nat} {f : Nat → Int32} (h : KB σ) (hx : ¬ (q = 2001 ∨ q = 2002 ∨ q = 2003 ∨ (2101 ≤ q ∧ q ≤ 2160) ∨ q = 1012 ∨ q = 1000) ∨ ((q = 2002 ∨ q = 2003) ∧ ∀ i, i < 6 → bd 7775 (f i)) ∨ ((q = 2001 ∨ (2101 ≤ q ∧ q ≤ 2160)) ∧ ∀ i, i < 5 → bd 9999 (f i))) : KB (uR σ q f) := by
  have g : ∀ (P : Int32 → Prop) q9 i9, P (σ q9 i9) → (q9 = q → P (f i9)) → P (uR σ q f q9 i9) := fun P q9 i9 h1 h2 => by
    by_cases e1 : q9 = q
    · subst e1
      rw [uR_eq]
      exact h2 rfl
    · rw [uR_ne e1]
      exact h1
  obtain ⟨h1, h2, h3, h4, h5, h6⟩ := h
  refine ⟨fun i hi => g _ _ _ (h1 i hi) (fun a => ?_), fun i hi => g _ _ _ (h2 i hi) (fun a => ?_), fun i hi => g _ _ _ (h3 i hi) (fun a => ?_), fun k r hk hr => g _ _ _ (h4 k r hk hr) (fun a => ?_), fun r hr => g _ _ _ (h5 r hr) (fun a => ?_), g _ _ _ h6 (fun a => ?_)⟩ <;> (rcases hx with z | ⟨z1, z⟩ | ⟨z1, z⟩ <;> first | exact z _ ‹_› | (exfalso; omega))
theorem cpy_lo {f g : Nat → Int32} {n j : Nat} (h : j < n) : va_cpy f g 0 0 n j = f j := by
  unfold va_cpy
  rw [if_pos (by omega), Nat.zero_add, Nat.sub_zero]
theorem KB.fill {s : XS9} (h : KB s) {a n : Nat} {x : Int32} (ha : ((a = 2002 ∨ a = 2003) ∧ bd 7775 x) ∨ ¬ (a = 2001 ∨ a = 2002 ∨ a = 2003 ∨ (2101 ≤ a ∧ a ≤ 2160) ∨ a = 1012 ∨ a = 1000)) : KB (g_fill s a n x) := by
  unfold g_fill x_fill_5
  refine xit_inv KB (N := n) (fun i3 s3 _ hP3 => ?_) n 0 _ (Nat.zero_add _) h
  rcases ha with ha | ha
  · exact hP3.put (.inl ha)
  · exact hP3.set (by omega)
theorem KB.begin {s : XS9} (h : KB s) : KB (g_begin s 2000) := by
  have z : bd 7775 0 := bd.zero
  unfold g_begin
  refine KB.set (q := 2000) (KB.set (q := 2000) (KB.fill (KB.fill (KB.fill (KB.fill (KB.row (KB.row h (q := 2001) ?_) (q := 2004) (.inl (by decide))) (.inl ⟨.inl rfl, z⟩)) (.inl ⟨.inr rfl, z⟩)) (.inr (by decide))) (.inr (by decide))) (by decide)) (by decide)
  exact .inr (.inr ⟨.inl rfl, fun i hi => by rw [cpy_lo hi]; exact (h.2.2.2.2.1 i hi).le (by decide)⟩)
theorem KB.undo {s : XS9} (h : KB s) {B K : Nat} (hB6 : B ≤ 6) : KB (g_undoContradictions s 2000 B K) := by
  unfold g_undoContradictions x_undoContradictions_2
  refine xit_inv KB (N := B) (fun i s2 hi hP => ?_) B 0 _ (Nat.zero_add _) h
  (try dsimp only)
  split
  · exact hP
  · exact (hP.set (q := 2006) (by omega)).put (.inl ⟨.inr rfl, hP.1 i (by omega)⟩)
theorem KB.lower {s : XS9} (h : KB s) {B : Nat} : KB (g_lowerEligible s 2000 B) := h.rows fun q hq => fr_lowerEligible (by omega)
theorem KB.held2 {s s0 : XS9} (h : KB s0) {r B : Nat} (hr : r < 5) (hB6 : B ≤ 6) : KB (x_moveHeld_2 s 2000 r B s0) := by
  unfold x_moveHeld_2
  refine xit_inv KB (N := B) (fun i s2 hi hP => ?_) B 0 _ (Nat.zero_add _) h
  (try dsimp only)
  split
  · exact hP
  · exact hP.put (.inl ⟨.inl rfl, (hP.1 i (by omega)).replaced hr ((hP.2.1 i (by omega)).many hr)⟩)
theorem held_amt {h w o : Int32} (hh : bd 5 h) (hw : bd 5 w) (ho : ¬ o ≤ 0) : bd 5 (h - (if (h - w) < o then (h - w) else o)) := by
  have h2 := hh.2
  have w2 := hw.2
  have o0 : 0 ≤ o := Int32.le_of_lt (Int32.not_le.mp ho)
  obtain ⟨e1, e2⟩ := cn_of o0
  rw [hh.1, hw.1]
  generalize cn h = a at h2
  generalize cn w = b at w2
  by_cases hab : b ≤ a
  · rw [nI_minus hab]
    split
    · rw [nI_minus (by omega)]
      exact bd.nat (by omega) (by decide)
    · rename_i q
      have q2 : o ≤ nI (a - b) := Int32.not_lt.mp q
      have q3 := Int32.le_iff_toInt_le.mp q2
      rw [toI_nI (by omega)] at q3
      rw [e1, nI_minus (by omega)]
      exact bd.nat (by omega) (by decide)
  · have e : nI a - nI b = - nI (b - a) := by
      rw [← nI_minus (by omega : a ≤ b), Int32.neg_sub]
    have lt : nI a - nI b < o := by
      rw [e]
      have hb : -nI (b - a) ≤ 0 := by
        have : ∀ k : Fin 6, -nI k.1 ≤ 0 := by decide
        exact this ⟨b - a, by omega⟩
      exact Int32.lt_of_le_of_lt hb (Int32.not_le.mp ho)
    rw [if_pos lt, e, Int32.sub_neg, nI_plus]
    exact bd.nat (by omega) (by decide)
theorem KB.held80 {s : XS9} {s0 : XS9 × Int32} (h : KB s0.1) {r B : Nat} (hr : r < 5) (hB6 : B ≤ 6) : KB (x_moveHeld_80 s 2000 r B s0).1 := by
  unfold x_moveHeld_80
  refine xitB_inv (fun s : XS9 × Int32 => KB s.1) (N := B) (fun i s2 hi hP => ⟨fun s' e => ?_, fun s' e => ?_⟩) B 0 _ (Nat.zero_add _) h
  · (try dsimp only at e)
    split at e
    · cases e
    · rename_i q
      rw [← Sum.inl.inj e]
      exact hP.put (.inl ⟨.inl rfl, (hP.1 i (by omega)).replaced hr (held_amt ((hP.1 i (by omega)).many hr) ((hP.2.1 i (by omega)).many hr) q)⟩)
  · (try dsimp only at e)
    split at e
    · rw [← Sum.inr.inj e]
      exact hP
    · cases e
theorem KB.held {s : XS9} (h : KB s) {r B : Nat} (hr : r < 5) (hB6 : B ≤ 6) : KB (g_moveHeld s 2000 r B) := by
  unfold g_moveHeld
  exact KB.held80 (KB.held2 (s := s) h hr hB6) hr hB6
theorem raise_amt {p x : Int32} (hp : bd 9999 p) (hx : bd 20 x) : bd 9999 (if (p + (if 1 < ((p * x) / 100) then ((p * x) / 100) else 1)) < 9999 then (p + (if 1 < ((p * x) / 100) then ((p * x) / 100) else 1)) else 9999) := by
  have p2 := hp.2
  have x2 := hx.2
  rw [hp.1, hx.1]
  generalize cn p = a at p2
  generalize cn x = b at x2
  have hab : a * b ≤ 9999 * 20 := Nat.mul_le_mul p2 x2
  rw [nI_mul, show (100 : Int32) = nI 100 from rfl, nI_div (by omega) (by decide) (by decide)]
  have hv : ∃ v, v ≤ 2000 ∧ (if 1 < nI (a * b / 100) then nI (a * b / 100) else 1) = nI v := by
    split
    · exact ⟨a * b / 100, by omega, rfl⟩
    · exact ⟨1, by decide, rfl⟩
  obtain ⟨v, hv1, hv2⟩ := hv
  rw [hv2, nI_plus]
  split
  · rename_i q
    exact bd.nat (Nat.le_of_lt ((nI_ltI (a := a + v) (b := 9999) (by omega) (by omega)).mp q)) (by decide)
  · exact bd.nat (n := 9999) (Nat.le_refl _) (by decide)
theorem KB.raise {s : XS9} (h : KB s) {x : Int32} {R : Nat} (hx : bd 20 x) (hR5 : R ≤ 5) : KB (g_raisePrices s 2000 x R) := by
  unfold g_raisePrices x_raisePrices_5
  refine xit_inv (fun s : XS9 × Int32 => KB s.1) (N := R) (fun i s2 hi hP => ?_) R 0 _ (Nat.zero_add _) h
  (try dsimp only)
  split
  · exact hP
  · exact hP.put (.inr (.inl ⟨.inl rfl, raise_amt (hP.2.2.1 i (by omega)) hx⟩))
theorem KB.held92 {s s0 : XS9} (h : KB s0) {x : Int32} {B R K : Nat} (hR5 : R ≤ 5) (hB6 : B ≤ 6) : KB (x_closeRound_92 s 2000 x B R K s0) := by
  unfold x_closeRound_92
  exact xit_inv KB (N := R) (fun i s2 hi hP => hP.held (by omega) hB6) R 0 _ (Nat.zero_add _) h
theorem KB.closeRound {s : XS9} (h : KB s) {x : Int32} {B R K : Nat} (hx : bd 20 x) (hR5 : R ≤ 5) (hB6 : B ≤ 6) (hK60 : K ≤ 60) : KB (g_closeRound s 2000 x B R K) := by
  unfold g_closeRound
  split
  · rename_i hK
    have A : K < 60 → KB (uR (uR (u2 (u2 s (2000 + 7) K x) (2000 + 8) K (s 2000 12)) (2000 + 101 + K) (va_cpy (s (2000 + 1)) (s (2000 + 101 + K)) 0 0 5)) (2000 + 201 + K) (va_cpy (s (2000 + 3)) (s (2000 + 201 + K)) 0 0 6)) := fun hk =>
      KB.row (KB.row (KB.set (q := 2008) (KB.set (q := 2007) h (by omega)) (by omega)) (.inr (.inr ⟨.inr (by omega), fun i hi => by rw [cpy_lo hi]; exact h.2.2.1 i hi⟩))) (.inl (by omega))
    have hk : K < 60 := (nI_ltI (a := K) (b := 60) (by omega) (by omega)).mp hK
    have A := A hk
    generalize uR (uR (u2 (u2 s (2000 + 7) K x) (2000 + 8) K (s 2000 12)) (2000 + 101 + K) (va_cpy (s (2000 + 1)) (s (2000 + 101 + K)) 0 0 5)) (2000 + 201 + K) (va_cpy (s (2000 + 3)) (s (2000 + 201 + K)) 0 0 6) = t at A ⊢
    have fin : ∀ u, KB u → KB (u2 (u2 (uR (uR (g_raisePrices u 2000 x R) (2000 + 301 + K) (va_cpy (u (2000 + 2)) (u (2000 + 301 + K)) 0 0 6)) (2000 + 3) (va_cpy (u (2000 + 2)) (u (2000 + 3)) 0 0 6)) 2000 12 0) 2000 9 (nI (K + 1))) := fun u hu =>
      KB.set (KB.set (KB.row (KB.row (hu.raise hx hR5) (.inl (by omega))) (.inr (.inl ⟨.inr rfl, fun i hi => by rw [cpy_lo hi]; exact hu.1 i hi⟩))) (by decide)) (by decide)
    split
    · exact fin _ (KB.held92 A.lower hR5 hB6)
    · exact fin _ (KB.held92 (A.undo hB6).lower hR5 hB6)
  · exact h
theorem bd.ge0 {m : Nat} {v : Int32} (h : bd m v) (hm : m < 2147483648) : 0 ≤ v := by
  rw [h.1]
  exact xx_ge0 _ (by have := h.2; omega)
theorem JC.closeRound {s : XS9} (h : JC s) {x : Int32} {B R : Nat} : JC (g_closeRound s 2000 x B R (cn (s 2000 9))) := by
  have h60 := h.2.2.1.2
  have e : ∀ q, q ≠ 2000 → q < 2001 → g_closeRound s 2000 x B R (cn (s 2000 9)) q = s q := fun q a b => fr_closeRound (by omega)
  obtain ⟨h1, h2, h3, h4, h5, h6, h7, h8, h9, h10, h11, h12⟩ := h
  refine ⟨by rw [e _ (by omega) (by omega)]; exact h1, by rw [e _ (by omega) (by omega)]; exact h2, by rw [rounds_closeRound' h60 h3.1]; exact bd.nat (by omega) (by decide), by rw [e _ (by omega) (by omega)]; exact h4, by rw [e _ (by omega) (by omega)]; exact h5, fun i hi => ?_, fun i hi => ?_, fun i hi => ?_, fun i k hi hk => ?_, fun i hi => ?_, fun i k hi hk => ?_, fun r k hr hk => ?_⟩
  · rw [e _ (by omega) (by omega)]; exact h6 i hi
  · rw [e _ (by omega) (by omega)]; exact h7 i hi
  · rw [e _ (by omega) (by omega)]; exact h8 i hi
  · rw [e _ (by omega) (by omega)]; exact h9 i k hi hk
  · rw [e _ (by omega) (by omega)]; exact h10 i hi
  · rw [e _ (by omega) (by omega)]; exact h11 i k hi hk
  · rw [e _ (by omega) (by omega)]; exact h12 r k hr hk
theorem KB.addM {s : XS9} (h : KB s) {i : Nat} {x y : Int32} {R B : Nat} {gr cnt : Nat → Nat} (hi : i < 6) (hg : ∀ i, i < 6 → gr i < 4) (hc : cnt i ≤ 6) : KB (g_addM s i x y R B gr cnt) := h.rows fun q hq => fr_addM ⟨hi, by omega, hg⟩ hc
theorem KB.find {s : XS9} (h : KB s) : KB (g_find s) := h.rows fun q hq => fr_find (by omega)
theorem JK.endClock {s : XS9} (hJ : JC s) (hK : KB s) {R B K : Nat} {gr : Nat → Nat} (hB6 : B ≤ 6) (hK60 : K < 60) (hg : ∀ i, i < 6 → gr i < 4) : JC (g_endClock s R B K gr) ∧ KB (g_endClock s R B K gr) := by
  unfold g_endClock
  have e : JC (x_endClock_7 s R B K gr (u2 s 1000 7 2)) ∧ KB (x_endClock_7 s R B K gr (u2 s 1000 7 2)) := by
    unfold x_endClock_7
    refine xit_inv (fun s => JC s ∧ KB s) (N := B) (fun i s7 hi hP => ?_) B 0 _ (Nat.zero_add _) ⟨hJ.set (ky1000 (by decide)), hK.set (by decide)⟩
    (try dsimp only)
    split
    · exact hP
    · have hi6 : i < 6 := by omega
      have h2 := hP.2.1 i hi6
      have hc := (hP.1.2.2.2.2.2.2.1 i hi6).2
      refine ⟨hP.1.addM hi6 hg hc (h2.ge0 (by decide)) (bd.ge0 (m := 249975) ?_ (by decide)), hP.2.addM hi6 hg hc⟩
      unfold f_lastValue
      exact h2.total (fun r hr => hP.2.2.2.2.1 K r hK60 hr)
  exact ⟨e.1.find, e.2.find⟩
theorem JK.close {σ : XS9} (hJ : JC σ) (hK : KB σ) {x : Int32} {R B : Nat} {gr : Nat → Nat} (hR5 : R ≤ 5) (hB6 : B ≤ 6) (hg : ∀ i, i < 6 → gr i < 4) : JC (g_close σ x R B gr) ∧ KB (g_close σ x R B gr) := by
  unfold g_close
  split
  · split
    · unfold x_close_14
      refine xitB_inv (fun s => JC s ∧ KB s) (N := cn x) (fun i s hi hP => ?_) (cn x) 0 _ (Nat.zero_add _) ⟨hJ, hK⟩
      have C1 : JC (g_closeRound s 2000 (s 1000 8) B R (cn (s 2000 9))) ∧ KB (g_closeRound s 2000 (s 1000 8) B R (cn (s 2000 9))) := ⟨hP.1.closeRound, hP.2.closeRound hP.2.2.2.2.2.2 hR5 hB6 hP.1.2.2.1.2⟩
      refine ⟨fun s' e => ?_, fun s' e => ?_⟩
      · by_cases c1 : s 1000 7 = 1
        · rw [if_pos c1] at e
          by_cases c2 : f_closeRound s 2000 (s 1000 8) B R (cn (s 2000 9)) = 0
          · rw [if_pos c2] at e
            rw [← Sum.inl.inj e]
            exact C1
          · rw [if_neg c2] at e
            rw [← Sum.inl.inj e]
            exact JK.endClock C1.1 C1.2 hB6 (by omega) hg
        · rw [if_neg c1] at e
          exact absurd e (by intro e; cases e)
      · by_cases c1 : s 1000 7 = 1
        · rw [if_pos c1] at e
          by_cases c2 : f_closeRound s 2000 (s 1000 8) B R (cn (s 2000 9)) = 0
          · rw [if_pos c2] at e
            exact absurd e (by intro e; cases e)
          · rw [if_neg c2] at e
            exact absurd e (by intro e; cases e)
        · rw [if_neg c1] at e
          rw [← Sum.inr.inj e]
          exact hP
    · exact ⟨hJ, hK⟩
  · exact ⟨hJ, hK⟩
theorem KB.init : KB s0C := by
  have z : ∀ q, q ≠ 1001 → q ≠ 1042 → ¬ ((1051 ≤ q ∧ q ≤ 1114) ∨ q = 1043 ∨ q = 1040 ∨ (1141 ≤ q ∧ q ≤ 1145)) → q ≠ 1000 → ∀ i m, bd m (s0C q i) := fun q a b c d i m => by
    rw [s0C_z a b c d]
    exact bd.zero
  refine ⟨fun i _ => z _ (by omega) (by omega) (by omega) (by omega) _ _, fun i _ => z _ (by omega) (by omega) (by omega) (by omega) _ _, fun i _ => z _ (by omega) (by omega) (by omega) (by omega) _ _, fun k r _ _ => z _ (by omega) (by omega) (by omega) (by omega) _ _, fun i _ => z _ (by omega) (by omega) (by omega) (by omega) _ _, ?_⟩
  exact ⟨by decide, by decide⟩
section
variable {σ : XS9} {R B C K w : Nat}
theorem KB.region {x y z : Int32} (h : KB σ) : KB (g_region σ x y z R) := by
  unfold g_region
  split
  · split
    · split
      · rename_i hz
        split
        · split
          · refine KB.begin ?_
            unfold g_addRegion
            exact KB.set (q := 1001) (KB.put (KB.set (q := 1011) (KB.set (q := 1010) h (by omega)) (by omega)) (.inr (.inr (.inl ⟨rfl, bd.bt hz (by decide) rfl (by decide)⟩)))) (by omega)
          · exact h
        · exact h
      · exact h
    · exact h
  · exact h
theorem KB.bidder {x y z v : Int32} (h : KB σ) : KB (g_bidder σ x y z v B) := by
  unfold g_bidder
  split
  · split
    · split
      · split
        · split
          · split
            · refine KB.begin ?_
              unfold g_addBidder
              exact KB.set (q := 1001) (KB.set (q := 1017) (KB.set (q := 1016) (KB.set (q := 1015) (KB.set (q := 1014) h (by omega)) (by omega)) (by omega)) (by omega)) (by omega)
            · exact h
          · exact h
        · exact h
      · exact h
    · exact h
  · exact h
theorem KB.border {x y : Int32} (h : KB σ) : KB (g_border σ x y R) := by
  unfold g_border
  split
  · split
    · split
      · exact h
      · split
        · unfold g_addBorder
          exact KB.set (q := 1013) (KB.set (q := 1013) h (by omega)) (by omega)
        · exact h
    · exact h
  · exact h
theorem KB.rules {x y : Int32} (h : KB σ) : KB (g_rules σ x y) := by
  unfold g_rules
  split
  · split
    · exact KB.set (q := 1001) (KB.set (q := 1001) h (by omega)) (by omega)
    · exact h
  · exact h
theorem KB.step {x : Int32} (h : KB σ) : KB (g_step σ x) := by
  unfold g_step
  split
  · rename_i hx
    have p : KB (u2 σ 1000 8 x) := h.put (.inr (.inr (.inr ⟨rfl, rfl, bd.bt hx (by decide) rfl (by decide)⟩)))
    split
    · exact p
    · split
      · exact p
      · exact h
  · exact h
theorem KB.opn (h : KB σ) : KB (g_open σ R B) := by
  unfold g_open
  split
  · split
    · exact h
    · split
      · exact h
      · exact KB.set (q := 1000) h (by omega)
  · exact h
theorem KB.wish {x y z : Int32} (h : KB σ) (hR5 : R ≤ 5) (hB6 : B ≤ 6) : KB (g_wish σ x y z R B) := by
  unfold g_wish
  split
  · rename_i hx
    split
    · rename_i hy
      split
      · rename_i hz
        have z1 : bd 5 (nI (cn z)) := by
          have b := bd.bt hz (by decide) (m := 5) rfl (by decide)
          rw [← b.1]
          exact b
        split
        · split
          · exact h
          · have hx2 := hx.2
            have hy2 := hy.2
            exact h.put (.inl ⟨.inr rfl, (h.2.1 (cn x) (by omega)).replaced (by omega) z1⟩)
        · exact h
      · exact h
    · exact h
  · exact h
theorem KB.waive {x : Int32} (h : KB σ) : KB (g_waive σ x B) := by
  unfold g_waive
  split
  · split
    · split
      · exact h
      · split
        · unfold g_useWaiver
          exact KB.set (q := 2000) (KB.set (q := 2005) h (by omega)) (by omega)
        · exact h
    · exact h
  · exact h
theorem KB.station {x y : Int32} (h : KB σ) : KB (g_station σ x y R C) := by
  unfold g_station
  split
  · split
    · split
      · unfold g_add
        exact KB.set (q := 1006) (KB.set (q := 1150) (KB.set (q := 1151) h (by omega)) (by omega)) (by omega)
      · exact h
    · exact h
  · exact h
theorem KB.ask {x y : Int32} (h : KB σ) : KB (g_ask σ x y C) := by
  unfold g_ask
  split
  · split
    · exact KB.set (q := 1150) h (by omega)
    · exact h
  · exact h
theorem KB.pack {x : Int32} {ch : Nat} {rg : Nat → Nat} (h : KB σ) : KB (g_pack σ x ch C rg) := h.rows fun q hq => fr_packM (by omega)
theorem KB.cheapest {ch : Nat} {rg : Nat → Nat} (h : KB σ) : KB (g_cheapest σ ch C rg) := h.rows fun q hq => fr_cheapest (by omega)
theorem KB.packs {x y : Int32} {rg : Nat → Nat} (h : KB σ) : KB (g_packs σ x y C rg) := by
  unfold g_packs
  split
  · split
    · exact h.pack
    · exact h
  · exact h
theorem KB.channel {x y z : Int32} {rg : Nat → Nat} (h : KB σ) : KB (g_channel σ x y z C rg) := by
  unfold g_channel
  split
  · split
    · split
      · exact h.pack
      · exact h
    · exact h
  · exact h
theorem KB.clear {x : Int32} {rg : Nat → Nat} (h : KB σ) : KB (g_clear σ x C rg) := by
  unfold g_clear
  split
  · exact h.cheapest
  · exact h
theorem KB.runLog {x y : Int32} {j r : Nat} (h : KB σ) (hK60 : K ≤ 60) : KB (g_runLog σ 3000 2000 x j r y B R K) := h.rows fun q hq => fr_runLog hK60 (by omega)
theorem KB.anew {x y z v : Int32} (h : KB σ) (hK60 : K ≤ 60) : KB (g_anew σ x y z v R B K) := by
  unfold g_anew
  split
  · split
    · split
      · split
        · exact h.runLog hK60
        · exact h
      · exact h
    · exact h
  · exact h
theorem KB.isSound (h : KB σ) (hK60 : K ≤ 60) : KB (g_isSound σ R B w K) := h.runLog hK60
theorem KB.digest {rg : Nat → Nat} (h : KB σ) (hK60 : K ≤ 60) : KB (g_digest σ K B R C w rg) := by
  unfold g_digest g_dgS
  split
  · exact KB.isSound h.cheapest.cheapest hK60
  · exact KB.isSound h hK60
theorem KB.knock (h : KB σ) : KB (g_knock σ) := KB.set (q := 1000) h (by omega)
theorem KB.offer {x y z : Int32} {gr cnt : Nat → Nat} (h : KB σ) (hB6 : B ≤ 6) (hg : ∀ i, i < 6 → gr i < 4) (hc : ∀ i, i < 6 → cnt i ≤ 6) : KB (g_offer σ x y z R B gr cnt) := by
  unfold g_offer
  split
  · rename_i hx
    have hx6 : cn x < 6 := by have := hx.2; omega
    split
    · exact h
    · split
      · split
        · split
          · exact h
          · split
            · exact h
            · exact (h.addM hx6 hg (hc _ hx6)).find
        · exact h
      · exact h
  · exact h
theorem KB.give {sp : Nat → Nat} (h : KB σ) (hR5 : R ≤ 5) : KB (g_give σ R sp) := h.rows fun q hq => fr_give hR5 ⟨by omega, by omega⟩
theorem KB.settle {x : Int32} {sp : Nat → Nat} (h : KB σ) (hR5 : R ≤ 5) : KB (g_settle σ x R sp) := by
  unfold g_settle
  split
  · split
    · exact KB.give (KB.set (q := 1000) (KB.set (q := 1000) h (by omega)) (by omega)) hR5
    · exact h
  · exact h
theorem KB.leaveOut {i : Nat} (h : KB σ) : KB (g_leaveOut σ i) := h.rows fun q hq => fr_leaveOut (by omega)
theorem KB.fail {x : Int32} {sp : Nat → Nat} (h : KB σ) (hR5 : R ≤ 5) : KB (g_fail σ x R B sp) := by
  unfold g_fail
  split
  · split
    · split
      · exact h
      · exact KB.give (KB.set (q := 1000) h (by omega)).leaveOut.find hR5
    · exact h
  · exact h
end
end
