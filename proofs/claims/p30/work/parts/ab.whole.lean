/-! ===== the whole law over interfaces ===== -/
def R_law : String := "WavesaleLaw"
def lw_P (b : Addr) (xs : List Int32) (args : Array Value) (s : State) : Prop := args = #[.ref b] ∧ s.IntsAt b xs ∧ xs.length ≤ 2560 ∧ (Jvm.Cond.and given_1 narrow_1).before args s = true
def lw_Q (_ : Array Value) (s : State) (o : Outcome) (t : State) : Prop := o = .returned (some (.int 1)) ∧ Framed s o t [] 601024 7293034
def lw_Z (below : List Frame) (a : Array Value) (s : State) : State → Prop := fun t => ∃ o, t.status = .running ∧ Ended t below o ∧ lw_Q a s o t
def lw_At (p : Program) (s : State) (m : MethodId) (meth : Method) (c : Code) (b L : Nat) (xs : Nat → Int32) : Prop :=
  p.tables.exec = Jvm.exec ∧ c.code = code ∧ meth.sig.returnType = ret ∧ c.maxLocals = 7 ∧ s.vm.findClass R_law = some m.cls ∧ (∀ w ∈ lw_tbl, w.before #[Value.ref b] s = true) ∧ va_X b L xs s s.heap ∧ b < s.heap.size ∧ meth.locks = false ∧ (Jvm.Cond.and given_1 narrow_1).before #[Value.ref b] s = true ∧ meth.name = "law"
set_option maxRecDepth 100000 in
theorem law_whole {p : Program} {e : Env} {s : State} {m : MethodId} {below : List Frame} {meth : Method} {c : Code} (l : Launch) (hflags : l.flags = flags0) {b L : Nat} {xs : Nat → Int32} (hL : L ≤ 2560) (C0 : lw_At p s m meth c b L xs) {LI : XS9 → XS9 → Prop} (hcb : ∀ τ σ, LI τ σ → cbd (ctl τ)) (hmeI : ∀ τ σ, LI τ σ → mem_eq τ τ) (hI0 : LI s0M s0C)
    (i_region : IF_region l LI) (i_border : IF_border l LI) (i_bidder : IF_bidder l LI) (i_rules : IF_rules l LI) (i_step : IF_step l LI) (i_open : IF_open l LI) (i_wish : IF_wish l LI) (i_waive : IF_waive l LI) (i_close : IF_close l LI) (i_offer : IF_offer l LI) (i_settle : IF_settle l LI) (i_fail : IF_fail l LI) (i_station : IF_station l LI) (i_ask : IF_ask l LI) (i_packs : IF_packs l LI) (i_channel : IF_channel l LI) (i_clear : IF_clear l LI) (i_ofRegion : IF_ofRegion l LI) (i_ofBidder : IF_ofBidder l LI) (i_wants : IF_wants l LI) (i_priceIn : IF_priceIn l LI) (i_codeIn : IF_codeIn l LI) (i_ofPackage : IF_ofPackage l LI) (i_wins : IF_wins l LI) (i_pays : IF_pays l LI) (i_holder : IF_holder l LI) (i_chart : IF_chart l LI) (i_sale : IF_sale l LI) (i_worth : IF_worth l LI) (i_wouldPay : IF_wouldPay l LI) (i_objects : IF_objects l LI) (i_most : IF_most l LI) (i_contradicts : IF_contradicts l LI) (i_anew : IF_anew l LI) (i_knock : IF_knock l LI) (i_isSound : IF_isSound l LI) (i_digest : IF_digest l LI) : W p l e room_1 s m #[Value.ref b] below meth c s.heap [] 0 0 (lw_Z below #[Value.ref b] s) (entryFrame m ([Value.ref b] : List Value).toArray 7) := by
  obtain ⟨hx, hb, hr, hml, hown, hts, hX, hbl, hlocks, hgv, hnm⟩ := C0
  have H : stH #[Value.ref b] s := ⟨hts, hgv⟩
  obtain ⟨D, hDH, hDE, hK, hN, hS⟩ := st_D H hX
  have hl : l.stackTraces = false := by
    unfold Launch.stackTraces
    rw [hflags]
    rfl
  have O : xx_O ((p, l, e, room_1, s, m, #[Value.ref b], below, meth, c), D, xd_E D, h0S L xs, fun o _ => o = .inl (some (.int 1))) m_L_law l 40 :=
    ⟨hx, hb, hml, hr, hlocks, H.gw, hown, hK, hN, hl, hnm, rfl, Nat.le_of_ble_eq_true rfl, Nat.le_of_ble_eq_true rfl, fun E h9 q => (by cases q), fun a ha => by rw [hDH]⟩
  have sw := law_all O hl h0S_ok rfl hL h0S_cls hcb hmeI (fun r hr => ⟨Nat.not_le.mp fun q => (by
    have hr : (h0S L xs r).isSome = true := hr
    rw [h0S_hi q] at hr
    cases hr), hr⟩) (fun g => rfl) hI0 i_region i_border i_bidder i_rules i_step i_open i_wish i_waive i_close i_offer i_settle i_fail i_station i_ask i_packs i_channel i_clear i_ofRegion i_ofBidder i_wants i_priceIn i_codeIn i_ofPackage i_wins i_pays i_holder i_chart i_sale i_worth i_wouldPay i_objects i_most i_contradicts i_anew i_knock i_isSound i_digest
  have e11 : ([Value.ref 11].map (xx_v (xd_E D))) = [Value.ref b] := by
    show [Value.ref (xd_E D 11)] = _
    rw [hDE]
  have hent := lv_entry [Value.ref b] (n := 7) (Nat.le_of_ble_eq_true rfl)
  have hent2 : lv_has ((lg_sl [Value.ref b] ++ List.replicate (7 - (lg_sl [Value.ref b]).length) Slot.unset).toArray) 7 (lv_args 0 ([Value.ref 11].map (xx_v (xd_E D)))) := by
    rw [e11]
    exact hent
  have hls : xx_L (xd_E D) c.maxLocals [.ref 11, xx_d, xx_d, xx_d, xx_d, xx_d, xx_d] ((lg_sl [Value.ref b] ++ List.replicate (7 - (lg_sl [Value.ref b]).length) Slot.unset).toArray) := by
    rw [hml]
    exact xx_L.entry hent2
  have hin : ∀ v ∈ [Value.ref 11, xx_d, xx_d, xx_d, xx_d, xx_d, xx_d], xx_in (h0S L xs) v := by
    intro v hv
    rcases List.mem_cons.mp hv with rfl | hv
    · exact rfl
    · have : v = xx_d := by simpa using hv
      rw [this]
      exact trivial
  have g1 : 0 + (700 * (L / 5) + 511) ≤ 601024 := by omega
  have g2 : 0 + (10000 * (L / 5) + 3665) ≤ 7293034 := by omega
  have hx9 := sw (xd_E D) (fun _ => none) s.heap [] 0 0 _ ⟨hS, fun r hr => ⟨hr, rfl⟩, fun z hz => absurd hz List.not_mem_nil, g1, g2, hls, hin, fun v hv => absurd hv List.not_mem_nil⟩
  rw [lg_entry_eq]
  intro T hT X
  obtain ⟨t, a1, o, b1, b2, b3⟩ := hx9 T hT X
  refine ⟨t, a1, o, b1, b2, ?_⟩
  rcases b3 with ⟨hq, Lc, hF, hfree⟩ | ⟨q, rfl, E, ce, L9, hXc, -⟩
  · obtain ⟨v, h', ρ', ow', rfl, hQ, -⟩ := hq
    cases hQ
    obtain ⟨s1, s2, s3, s4, s5, s6⟩ := hF.2.2
    refine ⟨rfl, ⟨_, rfl⟩, hF.2.1, s1, s2, s3, s4, s5, fun a c9 ha => ?_⟩
    obtain ⟨c', e1, e2, e3, e4⟩ := s6 a c9 ha
    refine ⟨c', e1, e2, e3, fun i _ => e4 i (fun hm => ?_)⟩
    have h8 : (xd_H D).size ≤ a := hfree _ hm
    have h9 := (Array.getElem?_eq_some_iff.mp ha).1
    rw [hDH] at h8
    exact absurd h9 (Nat.not_lt.mpr h8)
  · obtain ⟨h', ρ', ow', hQ, -⟩ := hXc
    cases hQ
