/-! ===== the market is kept: calls of the other kinds ===== -/
section
variable {τ τ2 σ σ2 : XS9} {R B C K g w : Nat} {gr cnt sp pk tn rg : Nat → Nat} {cd : Nat → Nat → Nat} {x y z v u : Int32}
theorem nkx {q i : Nat} (h : (q < 1020 ∧ q ≠ 1000 ∧ q ≠ 1003 ∧ q ≠ 1005) ∨ 1145 < q) : ¬ kx q i := fun k => by unfold kx at k; omega
theorem VX.region : VX σ (g_region σ x y z R) := by
  unfold g_region
  (repeat' split) <;> first | with_reducible exact VX.rfl' | (unfold g_addRegion; exact ((((VX.set (nkx (by omega))).trans (VX.set (nkx (by omega)))).trans (VX.set (nkx (by omega)))).trans (VX.set (nkx (by omega)))).trans (VX.rows fun q hq => fr_begin (by omega))) | exact VX.rfl'
theorem VX.bidder : VX σ (g_bidder σ x y z v B) := by
  unfold g_bidder
  (repeat' split) <;> first | with_reducible exact VX.rfl' | (unfold g_addBidder; exact (((((VX.set (nkx (by omega))).trans (VX.set (nkx (by omega)))).trans (VX.set (nkx (by omega)))).trans (VX.set (nkx (by omega)))).trans (VX.set (nkx (by omega)))).trans (VX.rows fun q hq => fr_begin (by omega))) | exact VX.rfl'
theorem VX.border : VX σ (g_border σ x y R) := by
  unfold g_border
  (repeat' split) <;> first | with_reducible exact VX.rfl' | (unfold g_addBorder; exact (VX.set (nkx (by omega))).trans (VX.set (nkx (by omega)))) | exact VX.rfl'
theorem VX.rules : VX σ (g_rules σ x y) := by
  unfold g_rules
  (repeat' split) <;> first | with_reducible exact VX.rfl' | exact (VX.set (nkx (by omega))).trans (VX.set (nkx (by omega))) | exact VX.rfl'
theorem VX.step : VX σ (g_step σ x) := by
  unfold g_step
  (repeat' split) <;> first | with_reducible exact VX.rfl' | exact VX.set (fun k => by unfold kx at k; omega) | exact VX.rfl'
theorem VX.opn : VX σ (g_open σ R B) := by
  unfold g_open
  (repeat' split) <;> first | with_reducible exact VX.rfl' | exact VX.set (fun k => by unfold kx at k; omega) | exact VX.rfl'
theorem VX.wish : VX σ (g_wish σ x y z R B) := by
  unfold g_wish
  (repeat' split) <;> first | with_reducible exact VX.rfl' | exact VX.set (nkx (by omega)) | exact VX.rfl'
theorem VX.waive : VX σ (g_waive σ x B) := by
  unfold g_waive g_useWaiver
  (repeat' split) <;> first | with_reducible exact VX.rfl' | exact (VX.set (nkx (by omega))).trans (VX.set (nkx (by omega))) | exact VX.rfl'
theorem VX.knock : VX σ (g_knock σ) := VX.set (fun k => by unfold kx at k; omega)
theorem VX.station : VX σ (g_station σ x y R C) := by
  unfold g_station
  (repeat' split) <;> first | with_reducible exact VX.rfl' | (unfold g_add; exact ((VX.set (nkx (by omega))).trans (VX.set (nkx (by omega)))).trans (VX.set (nkx (by omega)))) | exact VX.rfl'
theorem VX.ask : VX σ (g_ask σ x y C) := by
  unfold g_ask
  (repeat' split) <;> first | with_reducible exact VX.rfl' | exact VX.set (nkx (by omega)) | exact VX.rfl'
theorem VX.packs : VX σ (g_packs σ x y C rg) := by
  unfold g_packs
  (repeat' split) <;> first | with_reducible exact VX.rfl' | exact VX.rows (fun q hq => fr_packM (by omega)) | exact VX.rfl'
theorem VX.channel : VX σ (g_channel σ x y z C rg) := by
  unfold g_channel
  (repeat' split) <;> first | with_reducible exact VX.rfl' | exact VX.rows (fun q hq => fr_packM (by omega)) | exact VX.rfl'
theorem VX.clear : VX σ (g_clear σ x C rg) := by
  unfold g_clear
  (repeat' split) <;> first | with_reducible exact VX.rfl' | exact VX.rows (fun q hq => fr_cheapest (by omega)) | exact VX.rfl'
theorem VX.anew (hK60 : K ≤ 60) : VX σ (g_anew σ x y z v R B K) := by
  unfold g_anew
  (repeat' split) <;> first | with_reducible exact VX.rfl' | exact VX.rows (fun q hq => fr_runLog hK60 (by omega)) | exact VX.rfl'
theorem VX.isSound (hK60 : K ≤ 60) : VX σ (g_isSound σ R B w K) := VX.rows (fun q hq => fr_runLog hK60 (by omega))
theorem VX.digest (hK60 : K ≤ 60) : VX σ (g_digest σ K B R C w rg) := by
  unfold g_digest g_dgS
  split
  · exact ((VX.rows (fun q hq => fr_cheapest (by omega))).trans (VX.rows (fun q hq => fr_cheapest (by omega)))).trans (VX.isSound hK60)
  · exact VX.isSound hK60
/-! the reference -/
theorem nkX {q i : Nat} (h : q < 5000 ∨ 5036 ≤ q ∨ (q = 5000 ∧ i ≠ 1 ∧ i ≠ 2 ∧ i ≠ 5 ∧ i ≠ 7) ∨ q = 5003 ∨ q = 5004) : ¬ kX q i := fun k => by unfold kX at k; omega
theorem MX.step : MX τ (g_Mstep τ x) := by
  unfold g_Mstep
  (repeat' split) <;> first | with_reducible exact MX.s00 | exact MX.s0.trans (MX.set (nkX (by omega))) | exact MX.s00
theorem MX.wish : MX τ (g_Mwish τ x y v R B g) := by
  unfold g_Mwish
  (repeat' split) <;> first | with_reducible exact MX.s00 | exact MX.s0.trans (MX.set (nkX (by omega))) | exact MX.s00
theorem MX.waive : MX τ (g_Mwaive τ x B g w) := by
  unfold g_Mwaive
  (repeat' split) <;> first | with_reducible exact MX.s00 | exact (MX.s0.trans (MX.set (nkX (by omega)))).trans (MX.set (nkX (by omega))) | exact MX.s00
theorem MX.knock : MX τ (g_Mknock τ) := MX.s0.trans (MX.set (nkX (by omega)))
theorem MX.station : MX τ (g_Mstation τ x y R C) := by
  unfold g_Mstation g_addI
  (repeat' split) <;> first | with_reducible exact MX.s00 | exact (((MX.s0.trans (MX.set (nkX (by omega)))).trans (MX.set (nkX (by omega)))).trans (MX.set (nkX (by omega)))).trans (MX.set (nkX (by omega))) | exact MX.s00
theorem MX.ask : MX τ (g_Mask τ x y C) := by
  unfold g_Mask g_setS
  (repeat' split) <;> first | with_reducible exact MX.s00 | exact (MX.s0.trans (MX.set (nkX (by omega)))).trans (MX.set (nkX (by omega))) | exact MX.s00
theorem MX.cinit : MX τ (u2 (g_Cinit τ R B pk gr cd) 9000 20 0) := MX.hi fun q hq => by rw [u2_ne (by omega), fr_Cinit (by omega)]
theorem MX.cpay {y : Nat} (hB6 : B ≤ 6) : MX τ (u2 (u2 (g_Cpay (g_Cinit τ R B pk gr cd) y 20000 B) 9000 20 0) 20000 20 0) := MX.hi fun q hq => by rw [u2_ne (by omega), u2_ne (by omega), fr_Cpay ⟨by omega, hB6⟩, fr_Cinit (by omega)]
theorem MX.packs : MX τ (g_Mpacks τ x y R C rg) := by
  unfold g_Mpacks
  split
  · split
    · rename_i hy
      have hc := cn6 hy
      exact MX.s0.trans (MX.hi fun q hq => by rw [u2_ne (by omega), fr_Mcp ⟨by omega, hc⟩, uR_ne (by omega)])
    · exact MX.s0
  · exact MX.s0
theorem MX.clear : MX τ (g_Mclear τ x R C rg) := by
  unfold g_Mclear
  split
  · rename_i hy
    exact MX.s0.trans (MX.hi fun q hq => fr_MclearNow ⟨by omega, cn6 hy⟩)
  · exact MX.s00
theorem MX.channel : MX τ (g_Mchannel τ x y v R C rg) := by
  rcases chan_mem (τ := τ) (x := x) (y := y) (v := v) (R := R) (C := C) (rg := rg) with ⟨t, e⟩ | ⟨e1, e2⟩
  · rw [e]
    exact MX.s00
  · exact MX.s0.trans (MX.hi fun q hq => e1 q (by omega))
/-! before the packages: who tells regions, borders, bidders, rules, and the opening -/
theorem RM.low (h : RM τ σ) (hs : τ 5000 1 ≤ 1) (hs2 : τ2 5000 1 ≤ 1) (hB : mB τ2 ≤ 6) (c : VX σ σ2) (hc : bd 5 (τ2 5000 2)) (hd : τ2 5000 5 = τ 5000 5) (ho : ∀ j, j < 6 → τ2 (5020 + j) 4 = 0) (hp : ∀ j, j < 6 → pkB τ2 j = 0) : RM τ2 σ2 := by
  have cc : ∀ q i, kx q i → σ2 q i = σ q i := c
  have n3 : ∀ {t : XS9}, t 5000 1 ≤ 1 → ¬ t 5000 1 = 3 := fun q e => by
    rw [e] at q
    exact absurd q (by decide)
  obtain ⟨⟨⟨a1, a2, a3⟩, ⟨b1, b2⟩, b3⟩, ⟨c1, c2, c3⟩, ⟨d1, d2⟩, d3⟩ := h.e hs
  obtain ⟨n1, n2⟩ := h.n0 (n3 hs)
  refine ⟨⟨⟨hc, fun j hj => ?_, fun j hj k hk => ?_⟩, by rw [cc _ _ (by unfold kx; omega), hd]; exact h.d⟩, fun _ => ?_, fun e => absurd hs2 e, fun _ => ⟨fun q hq b hb => by rw [cc _ _ (by unfold kx; omega)]; exact n1 q hq b hb, by rw [cc _ _ (by unfold kx; omega)]; exact n2⟩, fun e => absurd e (n3 hs2)⟩
  · rw [cc _ _ (by unfold kx; omega), h.k.n hj, d3 j hj, hp j hj]
  · have := hp j (by omega)
    unfold pkB at this
    rw [if_pos hj] at this
    omega
  · refine ⟨⟨⟨fun j hj => ?_, fun q hq => ?_, fun g hg q hq => ?_⟩, ⟨?_, fun S h1 h2 => ?_⟩, fun S hS j hj => ?_⟩, ⟨fun j hj => ?_, fun S hS => ?_, fun w hw j hj => ?_⟩, ⟨?_, ho⟩, hp⟩
    · rw [cc _ _ (by unfold kx; omega)]; exact a1 j hj
    · rw [cc _ _ (by unfold kx; omega)]; exact a2 q hq
    · rw [cc _ _ (by unfold kx; omega)]; exact a3 g hg q hq
    · rw [cc _ _ (by unfold kx; omega)]; exact b1
    · rw [cc _ _ (by unfold kx; omega)]; exact b2 S h1 h2
    · rw [cc _ _ (by unfold kx; omega)]; exact b3 S hS j hj
    · rw [cc _ _ (by unfold kx; omega)]; exact c1 j hj
    · rw [cc _ _ (by unfold kx; omega)]; exact c2 S hS
    · rw [cc _ _ (by unfold kx; omega)]; exact c3 w hw j hj
    · rw [cc _ _ (by unfold kx; omega)]; exact d1
theorem RM.lowP (h : RM τ σ) (hs : τ 5000 1 ≤ 1) (hB : ∀ j, j < 6 → j < mB τ2 → j < mB τ ∨ mpk τ2 j = 0) (hr : ∀ j, j < 6 → j < mB τ → τ2 (5030 + j) 900 = τ (5030 + j) 900) : ∀ j, j < 6 → pkB τ2 j = 0 := fun j hj => by
  unfold pkB
  split
  · rename_i l
    rcases hB j hj l with l2 | l2
    · have := (h.e hs).2.2.2 j hj
      unfold pkB at this
      rw [if_pos l2] at this
      show cn (τ2 (5030 + j) 900) / 2 = 0
      rw [hr j hj l2]
      exact this
    · exact l2
  · rfl
theorem st0 (e : τ 5000 1 = 0) : τ 5000 1 ≤ 1 := by rw [e]; decide
theorem RM.region (h : RM τ σ) (r : JR τ) (hst : σ 1000 7 = τ 5000 1) (hR5 : R ≤ 5) : RM (g_Mregion τ x y v R) (g_region σ x y v R) := by
  have go : ∀ t : XS9, (∀ q, q ≠ 5000 → q ≠ 5001 → (q < 5010 ∨ 5014 < q) → t q = τ q) → t 5000 1 = τ 5000 1 → t 5000 2 = τ 5000 2 → t 5000 5 = τ 5000 5 → τ 5000 1 = 0 → RM t (g_region σ x y v R) := fun t e e1 e2 e5 e0 =>
    h.low (st0 e0) (by rw [e1, e0]; decide) (by show cn (t 5002 900) ≤ 6; rw [e _ (by decide) (by decide) (by decide)]; exact r.hB.2) VX.region (by rw [e2]; exact h.k.1) e5 (fun j hj => by rw [e _ (by omega) (by omega) (by omega)]; exact (h.e (st0 e0)).2.2.1.2 j hj) (h.lowP (st0 e0) (fun j hj l => .inl (by
      have : mB t = mB τ := by
        show cn (t 5002 900) = _
        rw [e _ (by decide) (by decide) (by decide)]
      rw [this] at l
      exact l)) (fun j hj _ => by rw [e _ (by omega) (by omega) (by omega)]))
  unfold g_Mregion
  (repeat' split) <;> first | exact h.kept r MX.s00 VX.region | skip
  rename_i h0 hn
  have h5 : R < 5 := Nat.lt_of_le_of_ne hR5 (fun q => hn (by rw [q]; rfl))
  refine go _ (fun q h1 h2 h3 => by rw [u2_ne h2, uR_ne (show q ≠ 5010 + R by omega), u2_ne h1]) ?_ ?_ ?_ h0
  · rw [u2_ne (by decide), uR_ne (by omega), u2_oi (by decide)]
  · rw [u2_ne (by decide), uR_ne (by omega), u2_oi (by decide)]
  · rw [u2_ne (by decide), uR_ne (by omega), u2_oi (by decide)]
theorem RM.bidder (h : RM τ σ) (r : JR τ) (hB6 : B ≤ 6) (eB : mB τ = B) : RM (g_Mbidder τ x y v u B) (g_bidder σ x y v u B) := by
  have go : ∀ f : Nat → Int32, f 4 = 0 → τ 5000 1 = 0 → B < 6 → RM (u2 (u2 (uR (u2 τ 5000 0 0) (5020 + B) f) (5030 + B) 900 0) 5002 900 (nI (B + 1))) (g_bidder σ x y v u B) := fun f f4 h0 hB5 => by
    have e : ∀ q, q ≠ 5000 → q ≠ 5002 → q ≠ 5020 + B → q ≠ 5030 + B → u2 (u2 (uR (u2 τ 5000 0 0) (5020 + B) f) (5030 + B) 900 0) 5002 900 (nI (B + 1)) q = τ q := fun q h1 h2 h3 h4 => by rw [u2_ne h2, u2_ne h4, uR_ne h3, u2_ne h1]
    have e5 : ∀ i, i ≠ 0 → u2 (u2 (uR (u2 τ 5000 0 0) (5020 + B) f) (5030 + B) 900 0) 5002 900 (nI (B + 1)) 5000 i = τ 5000 i := fun i hi => by rw [u2_ne (by decide), u2_ne (by omega), uR_ne (by omega), u2_oi hi]
    have eN : mB (u2 (u2 (uR (u2 τ 5000 0 0) (5020 + B) f) (5030 + B) 900 0) 5002 900 (nI (B + 1))) = B + 1 := by
      show cn (u2 _ 5002 900 (nI (B + 1)) 5002 900) = _
      rw [u2_at, cn_nI (by omega)]
    refine h.low (st0 h0) (by rw [e5 1 (by decide), h0]; decide) (by rw [eN]; omega) VX.bidder (by rw [e5 2 (by decide)]; exact h.k.1) (e5 5 (by decide)) (fun j hj => ?_) (h.lowP (st0 h0) (fun j hj l => ?_) (fun j hj l => ?_))
    · by_cases ej : j = B
      · rw [ej, u2_ne (by omega), u2_ne (by omega), uR_eq]
        exact f4
      · rw [e _ (by omega) (by omega) (by omega) (by omega)]
        exact (h.e (st0 h0)).2.2.1.2 j hj
    · rw [eN] at l
      by_cases ej : j = B
      · refine .inr ?_
        show cn (u2 _ 5002 900 (nI (B + 1)) (5030 + j) 900) / 2 = 0
        rw [u2_ne (by omega), ej, u2_at]
        rfl
      · exact .inl (by omega)
    · rw [e _ (by omega) (by omega) (by omega) (by omega)]
  unfold g_Mbidder
  (repeat' split) <;> first | exact h.kept r MX.s00 VX.bidder | skip
  rename_i h0 hn
  exact go _ rfl h0 (Nat.lt_of_le_of_ne hB6 (fun q => hn (by rw [q]; rfl)))
theorem RM.border (h : RM τ σ) (r : JR τ) (hR5 : R ≤ 5) : RM (g_Mborder τ x y R) (g_border σ x y R) := by
  unfold g_Mborder
  split
  · rename_i hx
    have hx2 := hx.2
    split
    · rename_i hy
      have hy2 := hy.2
      split
      · exact h.kept r MX.s00 VX.border
      · split
        · rename_i h0
          refine h.low (st0 h0) ?_ ?_ VX.border ?_ ?_ (fun j hj => ?_) (h.lowP (st0 h0) (fun j hj l => .inl ?_) (fun j hj l => ?_))
          · rw [u2_ne (by omega), u2_ne (by omega), u2_oi (by decide), h0]
            decide
          · show cn (u2 _ _ _ _ 5002 900) ≤ 6
            rw [u2_ne (by omega), u2_ne (by omega), u2_ne (by decide)]
            exact r.hB.2
          · rw [u2_ne (by omega), u2_ne (by omega), u2_oi (by decide)]
            exact h.k.1
          · rw [u2_ne (by omega), u2_ne (by omega), u2_oi (by decide)]
          · rw [u2_ne (by omega), u2_ne (by omega), u2_ne (by omega)]
            exact (h.e (st0 h0)).2.2.1.2 j hj
          · have l : j < cn (u2 _ _ _ _ 5002 900) := l
            rw [u2_ne (by omega), u2_ne (by omega), u2_ne (by decide)] at l
            exact l
          · rw [u2_ne (by omega), u2_ne (by omega), u2_ne (by omega)]
        · exact h.kept r MX.s00 VX.border
    · exact h.kept r MX.s00 VX.border
  · exact h.kept r MX.s00 VX.border
theorem RM.rules (h : RM τ σ) (r : JR τ) : RM (g_Mrules τ x y) (g_rules σ x y) := by
  unfold g_Mrules
  split
  · rename_i hx
    split
    · rename_i h0
      have e : ∀ q, q ≠ 5000 → u2 (u2 (u2 τ 5000 0 0) 5000 2 x) 5000 3 y q = τ q := fun q hq => by rw [u2_ne hq, u2_ne hq, u2_ne hq]
      refine h.low (st0 h0) ?_ ?_ VX.rules ?_ ?_ (fun j hj => ?_) (h.lowP (st0 h0) (fun j hj l => .inl ?_) (fun j hj l => ?_))
      · rw [u2_oi (by decide), u2_oi (by decide), u2_oi (by decide), h0]
        decide
      · show cn (u2 _ _ _ _ 5002 900) ≤ 6
        rw [e _ (by decide)]
        exact r.hB.2
      · rw [u2_oi (by decide), u2_at]
        exact bd.bt hx (by decide) rfl (by decide)
      · rw [u2_oi (by decide), u2_oi (by decide), u2_oi (by decide)]
      · rw [e _ (by omega)]
        exact (h.e (st0 h0)).2.2.1.2 j hj
      · have l : j < cn (u2 _ _ _ _ 5002 900) := l
        rw [e _ (by decide)] at l
        exact l
      · rw [e _ (by omega)]
    · exact h.kept r MX.s00 VX.rules
  · exact h.kept r MX.s00 VX.rules
theorem RM.opn (h : RM τ σ) (r : JR τ) (hR5 : R ≤ 5) (hB6 : B ≤ 6) : RM (g_Mopen τ R B) (g_open σ R B) := by
  unfold g_Mopen
  split
  · rename_i h0
    split
    · exact h.kept r MX.s00 VX.opn
    · split
      · exact h.kept r MX.s00 VX.opn
      · have e : ∀ q, q ≠ 5000 → q < 7000 → u2 (g_Kinit (u2 (u2 τ 5000 0 0) 5000 1 1) 7000 R B) 7000 25 1 q = τ q := fun q h1 h2 => by
          rw [u2_ne (by omega), Kinit_o (by omega)]
          unfold g_clk0
          rw [if_neg (by omega), if_neg (by omega), u2_ne h1, u2_ne h1]
        have e5 : ∀ i, i ≠ 0 → i ≠ 1 → u2 (g_Kinit (u2 (u2 τ 5000 0 0) 5000 1 1) 7000 R B) 7000 25 1 5000 i = τ 5000 i := fun i h1 h2 => by
          rw [u2_ne (by omega), Kinit_o (by omega)]
          unfold g_clk0
          rw [if_neg (by omega), if_neg (by omega), u2_oi h2, u2_oi h1]
        refine h.low (st0 h0) ?_ ?_ VX.opn ?_ ?_ (fun j hj => ?_) (h.lowP (st0 h0) (fun j hj l => .inl ?_) (fun j hj l => ?_))
        · rw [u2_ne (by omega), Kinit_o (by omega)]
          unfold g_clk0
          rw [if_neg (by omega), if_neg (by omega), u2_at]
          decide
        · show cn (u2 _ _ _ _ 5002 900) ≤ 6
          rw [e _ (by decide) (by decide)]
          exact r.hB.2
        · rw [e5 2 (by decide) (by decide)]
          exact h.k.1
        · exact e5 5 (by decide) (by decide)
        · rw [e _ (by omega) (by omega)]
          exact (h.e (st0 h0)).2.2.1.2 j hj
        · have l : j < cn (u2 _ _ _ _ 5002 900) := l
          rw [e _ (by decide) (by decide)] at l
          exact l
        · rw [e _ (by omega) (by omega)]
  · exact h.kept r MX.s00 VX.opn
theorem RM.init : RM s0M s0C := by
  have z : ∀ q i, (q < 1040 ∨ q = 1041 ∨ q = 1044 ∨ (1114 < q ∧ q < 1141)) → q ≠ 1001 → q ≠ 1000 → s0C q i = 0 := fun q i h1 h2 h3 => by
    rw [s0C_z h2 (by omega) (by omega) h3]
    rfl
  have m1 : ∀ q i, ((1051 ≤ q ∧ q ≤ 1114) ∨ q = 1043 ∨ q = 1040 ∨ (1141 ≤ q ∧ q ≤ 1145)) → s0C q i = -1 := fun q i h => by
    unfold s0C
    rw [if_neg (by omega), if_neg (by omega), if_pos h]
  have p0 : ∀ j, j < 6 → pkB s0M j = 0 := fun j _ => if_neg (Nat.not_lt_zero _)
  refine ⟨⟨⟨⟨rfl, by decide⟩, fun j hj => by rw [p0 j hj, z 1020 j (by omega) (by omega) (by omega)]; rfl, fun j hj => absurd hj (Nat.not_lt_zero _)⟩, ?_⟩, fun _ => ⟨⟨⟨fun j hj => m1 _ _ (by omega), fun r hr => z _ _ (by omega) (by omega) (by omega), fun g hg r hr => z _ _ (by omega) (by omega) (by omega)⟩, ⟨?_, fun S h1 h2 => ?_⟩, fun S hS j hj => m1 _ _ (by omega)⟩, ⟨fun j hj => m1 _ _ (by omega), fun S hS => z _ _ (by omega) (by omega) (by omega), fun w hw j hj => z _ _ (by omega) (by omega) (by omega)⟩, ⟨z _ _ (by omega) (by omega) (by omega), fun j hj => s0M_50 (by omega)⟩, p0⟩, fun e => absurd (show s0M 5000 1 ≤ 1 by decide) e, fun _ => ⟨fun r hr b hb => m1 _ _ (by omega), z _ _ (by omega) (by omega) (by omega)⟩, fun e => absurd e (by decide)⟩
  · decide
  · decide
  · unfold s0C
    rw [if_neg (by decide), if_pos rfl, if_neg (by omega)]
end
