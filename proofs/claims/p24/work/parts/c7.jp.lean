/-! ===== pure facts: prices, budgets and amounts on the reference's side ===== -/
def JP (τ : XS9) : Prop := (∀ j, j < 5 → bd 999 (τ (5010 + j) 2)) ∧ (∀ j, j < 6 → bd 99999 (τ (5020 + j) 0)) ∧ bd 20 (τ 5000 4) ∧ (τ 5000 1 = 1 → ∀ r, r < 5 → bd 9999 (τ 7001 r)) ∧ ∀ j k, j < 6 → k < 6 → bd 300000 (τ (5030 + j) (2 * k + 1))
/-- the places that JP speaks of -/
def kp (q i : Nat) : Prop := (5010 ≤ q ∧ q ≤ 5014 ∧ i = 2) ∨ (5020 ≤ q ∧ q ≤ 5025 ∧ i = 0) ∨ (q = 5000 ∧ (i = 4 ∨ i = 1)) ∨ q = 7001 ∨ (5030 ≤ q ∧ q ≤ 5035 ∧ i % 2 = 1)
section
variable {τ τ2 : XS9} {R B C K g w : Nat} {pk gr tn sp rg : Nat → Nat} {cd : Nat → Nat → Nat}
theorem JP.of (h : JP τ) (e : ∀ q i, kp q i → τ2 q i = τ q i) : JP τ2 := by
  obtain ⟨h1, h2, h3, h4, h5⟩ := h
  refine ⟨fun j hj => ?_, fun j hj => ?_, ?_, fun hs r hr => ?_, fun j k hj hk => ?_⟩
  · rw [e _ _ (by unfold kp; omega)]
    exact h1 j hj
  · rw [e _ _ (by unfold kp; omega)]
    exact h2 j hj
  · rw [e _ _ (by unfold kp; omega)]
    exact h3
  · rw [e _ _ (by unfold kp; omega)] at hs
    rw [e _ _ (by unfold kp; omega)]
    exact h4 hs r hr
  · rw [e _ _ (by unfold kp; omega)]
    exact h5 j k hj hk
theorem JP.set (h : JP τ) {q i : Nat} {x : Int32} (hq : ¬ kp q i) : JP (u2 τ q i x) := h.of fun q9 i9 hk => u2_o (fun a b => hq (by rw [← a, ← b]; exact hk))
theorem kp50 {i : Nat} (hi : i ≠ 1 ∧ i ≠ 4) : ¬ kp 5000 i := fun k => by unfold kp at k; omega
theorem JP.s0 (h : JP τ) {x : Int32} : JP (u2 τ 5000 0 x) := h.set (kp50 (by decide))
theorem JP.s00 (h : JP τ) {x : Int32} : JP (u2 (u2 τ 5000 0 0) 5000 0 x) := h.s0.s0
theorem JP.hi (h : JP τ) (e : ∀ q, q < 8000 → τ2 q = τ q) : JP τ2 := h.of fun q i hk => by rw [e q (by unfold kp at hk; omega)]
theorem JP.init : JP s0M := by
  refine ⟨fun j hj => ?_, fun j hj => ?_, ?_, fun hs => ?_, fun j k hj hk => ?_⟩
  · rw [show s0M (5010 + j) 2 = 0 from if_neg (by omega)]
    exact bd.zero
  · rw [show s0M (5020 + j) 0 = 0 from if_neg (by omega)]
    exact bd.zero
  · exact ⟨rfl, by decide⟩
  · exact absurd hs (by decide)
  · rw [show s0M (5030 + j) (2 * k + 1) = 0 from if_neg (by omega)]
    exact bd.zero
theorem JP.region {x y v : Int32} (h : JP τ) (hR5 : R ≤ 5) : JP (g_Mregion τ x y v R) := by
  unfold g_Mregion
  split
  · split
    · split
      · rename_i hv
        split
        · split
          · exact h.s00
          · obtain ⟨h1, h2, h3, h4, h5⟩ := h.s0 (x := 0)
            refine ⟨fun j hj => ?_, fun j hj => ?_, ?_, fun hs r hr => ?_, fun j k hj hk => ?_⟩
            · rw [u2_ne (by omega)]
              by_cases e : j = R
              · rw [e, uR_eq]
                exact bd.bt hv (by decide) rfl (by decide)
              · rw [uR_ne (by omega)]
                exact h1 j hj
            · rw [u2_ne (by omega), uR_ne (by omega)]
              exact h2 j hj
            · rw [u2_ne (by omega), uR_ne (by omega)]
              exact h3
            · rw [u2_ne (by omega), uR_ne (by omega)] at hs
              rw [u2_ne (by omega), uR_ne (by omega)]
              exact h4 hs r hr
            · rw [u2_ne (by omega), uR_ne (by omega)]
              exact h5 j k hj hk
        · exact h.s00
      · exact h.s00
    · exact h.s00
  · exact h.s00
theorem JP.bidder {x y v u : Int32} (h : JP τ) (hB6 : B ≤ 6) : JP (g_Mbidder τ x y v u B) := by
  unfold g_Mbidder
  split
  · rename_i hx
    split
    · split
      · split
        · split
          · split
            · exact h.s00
            · rename_i hn
              have hB5 : B ≠ 6 := fun e => hn (by rw [e]; rfl)
              obtain ⟨h1, h2, h3, h4, h5⟩ := h.s0 (x := 0)
              refine ⟨fun j hj => ?_, fun j hj => ?_, ?_, fun hs r hr => ?_, fun j k hj hk => ?_⟩
              · rw [u2_ne (by omega), u2_ne (by omega), uR_ne (by omega)]
                exact h1 j hj
              · rw [u2_ne (by omega), u2_ne (by omega)]
                by_cases e : j = B
                · rw [e, uR_eq]
                  exact bd.bt hx (by decide) rfl (by decide)
                · rw [uR_ne (by omega)]
                  exact h2 j hj
              · rw [u2_ne (by omega), u2_ne (by omega), uR_ne (by omega)]
                exact h3
              · rw [u2_ne (by omega), u2_ne (by omega), uR_ne (by omega)] at hs
                rw [u2_ne (by omega), u2_ne (by omega), uR_ne (by omega)]
                exact h4 hs r hr
              · rw [u2_ne (by omega), u2_o (fun a b => by omega), uR_ne (by omega)]
                exact h5 j k hj hk
          · exact h.s00
        · exact h.s00
      · exact h.s00
    · exact h.s00
  · exact h.s00
theorem JP.border {x y : Int32} (h : JP τ) (hR5 : R ≤ 5) : JP (g_Mborder τ x y R) := by
  have k1 : ∀ c, c < R → ¬ kp (5010 + c) 3 := fun c hc k => by unfold kp at k; omega
  unfold g_Mborder
  split
  · rename_i hx
    split
    · rename_i hy
      split
      · exact h.s00
      · split
        · exact (h.s0.set (k1 _ hx.2)).set (k1 _ hy.2)
        · exact h.s00
    · exact h.s00
  · exact h.s00
theorem JP.rules {x y : Int32} (h : JP τ) : JP (g_Mrules τ x y) := by
  unfold g_Mrules
  (repeat' split) <;> first | exact h.s00 | exact (h.s0.set (kp50 (by decide))).set (kp50 (by decide))
theorem JP.step {x : Int32} (h : JP τ) : JP (g_Mstep τ x) := by
  unfold g_Mstep
  split
  · rename_i hx
    split
    · obtain ⟨h1, h2, h3, h4, h5⟩ := h.s0 (x := 0)
      refine ⟨fun j hj => ?_, fun j hj => ?_, ?_, fun hs r hr => ?_, fun j k hj hk => ?_⟩
      · rw [u2_ne (by omega)]
        exact h1 j hj
      · rw [u2_ne (by omega)]
        exact h2 j hj
      · rw [u2_at]
        exact bd.bt hx (by decide) rfl (by decide)
      · rw [u2_oi (by decide)] at hs
        rw [u2_ne (by omega)]
        exact h4 hs r hr
      · rw [u2_ne (by omega)]
        exact h5 j k hj hk
    · exact h.s00
  · exact h.s00
theorem JP.wish {x y v : Int32} (h : JP τ) : JP (g_Mwish τ x y v R B g) := by
  unfold g_Mwish
  (repeat' split) <;> first | exact h.s00 | exact h.s0.set (fun k => by unfold kp at k; omega)
theorem JP.waive {x : Int32} (h : JP τ) : JP (g_Mwaive τ x B g w) := by
  unfold g_Mwaive
  (repeat' split) <;> first | exact h.s00 | exact (h.s0.set (fun k => by unfold kp at k; omega)).set (fun k => by unfold kp at k; omega)
theorem JP.knock (h : JP τ) : JP (g_Mknock τ) := h.s0.set (kp50 (by decide))
theorem JP.station {x y : Int32} (h : JP τ) : JP (g_Mstation τ x y R C) := by
  have k1 : ∀ i, ¬ kp 5004 i := fun i k => by unfold kp at k; omega
  unfold g_Mstation
  (repeat' split) <;> first | exact h.s00 | (unfold g_addI; exact (((h.s0.set (k1 _)).set (k1 _)).set (k1 _)).set (k1 _))
theorem JP.ask {x y : Int32} (h : JP τ) : JP (g_Mask τ x y C) := by
  have k1 : ∀ i, ¬ kp 5004 i := fun i k => by unfold kp at k; omega
  unfold g_Mask
  (repeat' split) <;> first | exact h.s00 | (unfold g_setS; exact (h.s0.set (k1 _)).set (k1 _))
theorem JP.madd (h : JP τ) {j p : Nat} {c a : Int32} (hj : j < 6) (ha : bd 300000 a) : JP (g_Madd τ j p c a) := by
  unfold g_Madd g_addI
  obtain ⟨h1, h2, h3, h4, h5⟩ := h
  have k : ∀ q, q ≠ 5030 + j → u2 (u2 (u2 (u2 τ (5030 + j) (2 * p) c) (5030 + j) 900 (nI (2 * p + 1))) (5030 + j) (2 * p + 1) a) (5030 + j) 900 (nI (2 * p + 1 + 1)) q = τ q := fun q hq => by rw [u2_ne hq, u2_ne hq, u2_ne hq, u2_ne hq]
  refine ⟨fun j hj => ?_, fun j hj => ?_, ?_, fun hs r hr => ?_, fun j2 k2 hj2 hk2 => ?_⟩
  · rw [k _ (by omega)]
    exact h1 j hj
  · rw [k _ (by omega)]
    exact h2 j hj
  · rw [k _ (by omega)]
    exact h3
  · rw [k _ (by omega)] at hs
    rw [k _ (by omega)]
    exact h4 hs r hr
  · rw [u2_o (fun a b => by omega)]
    by_cases e : j2 = j ∧ k2 = p
    · rw [e.1, e.2, u2_at]
      exact ha
    · rw [u2_o (fun a b => e ⟨by omega, by omega⟩), u2_o (fun a b => by omega), u2_o (fun a b => by omega)]
      exact h5 j2 k2 hj2 hk2
theorem bd.leq {m n : Nat} {a b : Int32} (hb : bd m b) (hm : m < 2147483648) (h0 : 0 ≤ a) (h : ¬ b < a) (hn : m ≤ n) : bd n a := by
  obtain ⟨e1, e2⟩ := cn_of h0
  refine ⟨e1, ?_⟩
  have b2 := hb.2
  have h3 := i_le.mp (Int32.not_lt.mp h)
  rw [hb.1, toI_nI (by omega)] at h3
  omega
theorem JP.offer {x y v : Int32} (h : JP τ) (hB6 : B ≤ 6) : JP (g_Moffer τ x y v R B pk) := by
  unfold g_Moffer
  split
  · rename_i hx
    have hx6 : cn x < 6 := by have := hx.2; omega
    split
    · exact h.s00
    · split
      · exact h.s00
      · split
        · rename_i hv
          split
          · split
            · exact h.s00
            · split
              · exact h.s00
              · split
                · exact h.s00
                · rename_i hb
                  split
                  · exact h.s00
                  · split
                    · exact h.s0.madd hx6 ((h.2.1 _ hx6).leq (by decide) hv hb (by decide))
                    · exact h.s00
          · exact h.s00
        · exact h.s00
  · exact h.s00
theorem Kinit_price {b r : Nat} (h : ∀ j, j < 5 → bd 999 (τ (5010 + j) 2)) (hR5 : R ≤ 5) (hB6 : B ≤ 6) (hr : r < 5) : bd 9999 (g_Kinit τ b R B (b + 1) r) := by
  unfold g_Kinit x_Kinit_132
  refine (xit_keep (fun s : XS9 => s (b + 1)) (fun i s => ?_) B 0 _) ▸ ?_
  · (try dsimp only)
    rw [u2_ne (by omega), u2_ne (by omega)]
  · unfold x_Kinit_95
    refine xit_inv (fun s : XS9 => bd 9999 (s (b + 1) r)) (N := R) (fun i s hi hP => ?_) R 0 _ (Nat.zero_add _) ?_
    · show bd 9999 (u2 s (b + 1) i (τ (5010 + i) 2) (b + 1) r)
      by_cases e : r = i
      · subst e
        rw [u2_at]
        exact (h r hr).le (by decide)
      · rw [u2_oi e]
        exact hP
    · show bd 9999 (g_clk0 τ b (b + 1) r)
      unfold g_clk0
      rw [if_neg (by omega), if_pos (.inl rfl)]
      exact bd.zero
theorem JP.opn (h : JP τ) (hR5 : R ≤ 5) (hB6 : B ≤ 6) : JP (g_Mopen τ R B) := by
  unfold g_Mopen
  split
  · split
    · exact h.s00
    · split
      · exact h.s00
      · have k : ∀ q, q < 7000 → u2 (g_Kinit (u2 (u2 τ 5000 0 0) 5000 1 1) 7000 R B) 7000 25 1 q = u2 (u2 τ 5000 0 0) 5000 1 1 q := fun q hq => by rw [u2_ne (by omega), fr_Kinit (by omega)]
        have k2 : ∀ q, q ≠ 5000 → u2 (u2 τ 5000 0 0) 5000 1 1 q = τ q := fun q hq => by rw [u2_ne hq, u2_ne hq]
        obtain ⟨h1, h2, h3, h4, h5⟩ := h
        refine ⟨fun j hj => ?_, fun j hj => ?_, ?_, fun _ r hr => ?_, fun j k2 hj hk => ?_⟩
        · rw [k _ (by omega), k2 _ (by omega)]
          exact h1 j hj
        · rw [k _ (by omega), k2 _ (by omega)]
          exact h2 j hj
        · rw [k _ (by omega), u2_oi (by decide), u2_oi (by decide)]
          exact h3
        · rw [u2_ne (by omega)]
          refine Kinit_price (b := 7000) (fun j hj => ?_) hR5 hB6 hr
          rw [k2 _ (by omega)]
          exact h1 j hj
        · rw [k _ (by omega), u2_ne (by omega), u2_ne (by omega)]
          exact h5 j k2 hj hk
  · exact h.s00
theorem JP.cinit (h : JP τ) : JP (u2 (g_Cinit τ R B pk gr cd) 9000 20 0) := h.hi fun q hq => by rw [u2_ne (by omega), fr_Cinit (by omega)]
theorem JP.packs {x y : Int32} (h : JP τ) : JP (g_Mpacks τ x y R C rg) := by
  unfold g_Mpacks
  split
  · split
    · rename_i hy
      exact h.s0.hi fun q hq => by rw [u2_ne (by omega), fr_Mcp ⟨by omega, cn6 hy⟩, uR_ne (by omega)]
    · exact h.s0
  · exact h.s0
theorem JP.clear {x : Int32} (h : JP τ) : JP (g_Mclear τ x R C rg) := by
  unfold g_Mclear
  split
  · rename_i hy
    exact h.s0.hi fun q hq => fr_MclearNow ⟨by omega, cn6 hy⟩
  · exact h.s00
end
