section
/-! ===== pure facts: codes on the reference's side ===== -/
theorem power_eq {r : Nat} (hr : r < 5) : f_power r = nI (6 ^ r) := by
  match r, hr with
  | 0, _ => rfl
  | 1, _ => rfl
  | 2, _ => rfl
  | 3, _ => rfl
  | 4, _ => rfl
theorem pow6r {r : Nat} (hr : r < 5) : 0 < 6 ^ r ∧ 6 ^ r ≤ 1296 := by
  match r, hr with
  | 0, _ => exact ⟨by decide, by decide⟩
  | 1, _ => exact ⟨by decide, by decide⟩
  | 2, _ => exact ⟨by decide, by decide⟩
  | 3, _ => exact ⟨by decide, by decide⟩
  | 4, _ => exact ⟨by decide, by decide⟩
theorem of_eq {n r : Nat} (hn : n ≤ 7775) (hr : r < 5) : f_of (nI n) r = nI (n / 6 ^ r % 6) := by
  obtain ⟨h0, h1⟩ := pow6r hr
  have h2 : n / 6 ^ r ≤ n := Nat.div_le_self _ _
  unfold f_of
  rw [power_eq hr, nI_div (by omega) h0 (by omega), mod6x (by omega)]
theorem bd.ofd {c : Int32} (h : bd 7775 c) {r : Nat} (hr : r < 5) : bd 5 (f_of c r) := by
  rw [h.1, of_eq h.2 hr]
  exact bd.nat (by omega) (by decide)
theorem bd.withd {c m : Int32} (h : bd 7775 c) {r : Nat} (hr : r < 5) (hm : bd 5 m) : bd 7775 (f_with c r m) := by
  unfold f_with
  have h2 := h.2
  have m2 := hm.2
  rw [h.1, of_eq h2 hr, hm.1, power_eq hr]
  generalize cn c = n at h2
  generalize cn m = k at m2
  match r, hr with
  | 0, _ =>
    rw [rep_eq (by show n / 1 % 6 * 1 ≤ n; omega)]
    exact bd.nat (by show n - n / 1 % 6 * 1 + k * 1 ≤ 7775; omega) (by decide)
  | 1, _ =>
    rw [rep_eq (by show n / 6 % 6 * 6 ≤ n; omega)]
    exact bd.nat (by show n - n / 6 % 6 * 6 + k * 6 ≤ 7775; omega) (by decide)
  | 2, _ =>
    rw [rep_eq (by show n / 36 % 6 * 36 ≤ n; omega)]
    exact bd.nat (by show n - n / 36 % 6 * 36 + k * 36 ≤ 7775; omega) (by decide)
  | 3, _ =>
    rw [rep_eq (by show n / 216 % 6 * 216 ≤ n; omega)]
    exact bd.nat (by show n - n / 216 % 6 * 216 + k * 216 ≤ 7775; omega) (by decide)
  | 4, _ =>
    rw [rep_eq (by show n / 1296 % 6 * 1296 ≤ n; omega)]
    exact bd.nat (by show n - n / 1296 % 6 * 1296 + k * 1296 ≤ 7775; omega) (by decide)
theorem bd.toI {m : Nat} {v : Int32} (h : bd m v) (hm : m < 2147483648) : 0 ≤ v.toInt := by
  have := Int32.le_iff_toInt_le.mp (h.ge0 hm)
  simpa using this
/-- the codes of a block of the clock: held, and wished in the generation g -/
def KW (b g : Nat) (s : XS9) : Prop := (∀ i, i < 6 → bd 7775 (s (b + 2) i)) ∧ ∀ i, i < 6 → bd 7775 (s (b + 500 + g) i)
theorem KW.clo2 {σ : XS9} {b R B g w n : Nat} (h : KW b g σ) (hB6 : B ≤ 6) (hg : g < 200) : KW b g (x_Kclose_2 σ b R B g w n σ) := by
  unfold x_Kclose_2
  refine xit_inv (KW b g) (N := B) (fun i s hi hP => ?_) B 0 _ (Nat.zero_add _) h
  (try dsimp only)
  split
  · exact hP
  · split
    · exact hP
    · refine ⟨fun k hk => ?_, fun k hk => ?_⟩
      · rw [u2_ne (by omega), u2_ne (by omega)]
        exact hP.1 k hk
      · rw [u2_ne (by omega)]
        by_cases e : k = i
        · rw [e, u2_at]
          exact h.1 i (by omega)
        · rw [u2_oi e]
          exact hP.2 k hk
theorem KW.hw0 {σ : XS9} {b R B g w n : Nat} (h : KW b g σ) (hR5 : R ≤ 5) (hB6 : B ≤ 6) (hg : g < 200) : ∀ i r, i < B → r < R → 0 ≤ (f_of (x_Kclose_2 σ b R B g w n σ (b + 500 + g) i) r).toInt := fun i r hi hr =>
  (((h.clo2 (R := R) (w := w) (n := n) hB6 hg).2 i (by omega)).ofd (by omega)).toI (by decide)
/-- one may always wish nothing more than one wishes -/
theorem KW.hm0 {τ : XS9} {i r R B g : Nat} (h : KW 7000 g τ) (hi : i < 6) (hr : r < 5) : ¬ f_McanWish (u2 τ 5000 0 0) i r (nI 0) R B g = 0 := by
  have e : bd 5 (f_of (u2 τ 5000 0 0 (7000 + 500 + g) i) r) := by
    rw [u2_ne (by omega)]
    exact (h.2 i hi).ofd hr
  have ne : ¬ f_of (u2 τ 5000 0 0 (7000 + 500 + g) i) r < nI 0 := fun q => absurd q (Int32.not_lt.mpr (e.ge0 (by decide)))
  unfold f_McanWish
  rw [if_neg ne]
  decide
end
section
/-! ===== pure facts: the reference's clock while it runs, and its log ===== -/
def zo (v : Int32) : Prop := v = 0 ∨ v = 1
def JS (τ : XS9) : Prop := (τ 5000 1 = 1 → KW 7000 (mg τ) τ ∧ (∀ j, j < 6 → zo (τ (7000 + 700 + mw τ) j)) ∧ mg τ = mn τ ∧ mw τ = mn τ ∧ mK τ = mn τ ∧ mn τ < 60) ∧ ((τ 5000 1 = 0 ∨ τ 5000 1 = 1) → ∀ j, j < 6 → mpk τ j = 0) ∧ ∀ i j, i < mK τ → j < 6 → zo (τ (6300 + i) j) ∧ bd 7775 (τ (6100 + i) j)
/-- the places that JS speaks of -/
def ks (q i : Nat) : Prop := (q = 5000 ∧ i = 1) ∨ (q = 5003 ∧ i = 900) ∨ (5030 ≤ q ∧ q ≤ 5035 ∧ i = 900) ∨ (q = 7000 ∧ 21 ≤ i ∧ i ≤ 24) ∨ q = 7002 ∨ (7500 ≤ q ∧ q ≤ 7999) ∨ (6100 ≤ q ∧ q < 6400)
theorem JS.of {τ τ2 : XS9} (h : JS τ) (h60 : mK τ ≤ 60) (hgw : mg τ < 200 ∧ mw τ < 200) (e : ∀ q i, ks q i → τ2 q i = τ q i) : JS τ2 := by
  have e1 : τ2 5000 1 = τ 5000 1 := e _ _ (by unfold ks; omega)
  have eK : mK τ2 = mK τ := congrArg cn (e 5003 900 (by unfold ks; omega))
  have en : mn τ2 = mn τ := congrArg cn (e 7000 21 (by unfold ks; omega))
  have eg : mg τ2 = mg τ := congrArg cn (e 7000 23 (by unfold ks; omega))
  have ew : mw τ2 = mw τ := congrArg cn (e 7000 24 (by unfold ks; omega))
  refine ⟨fun hs => ?_, fun hs j hj => ?_, fun i j hi hj => ?_⟩
  · rw [e1] at hs
    obtain ⟨a, b, c, d, f, g⟩ := h.1 hs
    rw [eg, ew, en, eK]
    refine ⟨⟨fun i hi => ?_, fun i hi => ?_⟩, fun j hj => ?_, c, d, f, g⟩
    · rw [e _ _ (by unfold ks; omega)]
      exact a.1 i hi
    · rw [e _ _ (by unfold ks; omega)]
      exact a.2 i hi
    · rw [e _ _ (by unfold ks; omega)]
      exact b j hj
  · rw [e1] at hs
    have := h.2.1 hs j hj
    show cn (τ2 (5030 + j) 900) / 2 = 0
    rw [e _ _ (by unfold ks; omega)]
    exact this
  · rw [eK] at hi
    rw [e _ _ (by unfold ks; omega), e _ _ (by unfold ks; omega)]
    exact h.2.2 i j hi hj
theorem JS.set {τ : XS9} (h : JS τ) (h60 : mK τ ≤ 60) (hgw : mg τ < 200 ∧ mw τ < 200) {q i : Nat} {x : Int32} (hq : ¬ ks q i) : JS (u2 τ q i x) := h.of h60 hgw fun q9 i9 hk => u2_o (fun a b => hq (by rw [← a, ← b]; exact hk))
theorem ks50 {i : Nat} (hi : i ≠ 1) : ¬ ks 5000 i := fun k => by unfold ks at k; omega
section
variable {τ : XS9} {R B C K g w : Nat}
theorem JS.s0 (h : JS τ) (r : JR τ) {x : Int32} : JS (u2 τ 5000 0 x) := h.set r.hK.2 ⟨r.hg.2, r.hw.2⟩ (ks50 (by decide))
theorem JS.s00 (h : JS τ) (r : JR τ) {x : Int32} : JS (u2 (u2 τ 5000 0 0) 5000 0 x) := (h.s0 r).s0 r.s0
theorem JS.wish {x y v : Int32} (h : JS τ) (r : JR τ) : JS (g_Mwish τ x y v (mR τ) (mB τ) (mg τ)) := by
  have hg2 := r.hg.2
  unfold g_Mwish
  split
  · rename_i hx
    have hx6 : cn x < 6 := by have := hx.2; have := r.hB.2; omega
    split
    · rename_i hy
      have hy5 : cn y < 5 := by have := hy.2; have := r.hR.2; omega
      split
      · rename_i hv
        split
        · rename_i hs
          split
          · exact h.s00 r
          · obtain ⟨a, b, c, d, f, g9⟩ := h.1 hs
            have e : ∀ q, q ≠ 7000 + 500 + mg τ → u2 (u2 τ 5000 0 0) (7000 + 500 + mg τ) (cn x) (f_with (τ (7000 + 500 + mg τ) (cn x)) (cn y) v) q = u2 τ 5000 0 0 q := fun q hq => u2_ne hq
            have s9 := h.s0 r (x := 0)
            refine ⟨fun _ => ?_, fun hs9 j hj => ?_, fun i j hi hj => ?_⟩
            · refine ⟨⟨fun i hi => ?_, fun i hi => ?_⟩, fun j hj => ?_, ?_⟩
              · show bd 7775 (u2 (u2 τ 5000 0 0) (7000 + 500 + mg τ) (cn x) _ (7000 + 2) i)
                rw [u2_ne (by omega), u2_ne (by omega)]
                exact a.1 i hi
              · have eg : mg (u2 (u2 τ 5000 0 0) (7000 + 500 + mg τ) (cn x) (f_with (τ (7000 + 500 + mg τ) (cn x)) (cn y) v)) = mg τ := congrArg cn (by rw [u2_ne (by omega), u2_ne (by omega)])
                rw [eg]
                by_cases e1 : i = cn x
                · rw [e1, u2_at]
                  exact (a.2 (cn x) hx6).withd hy5 (bd.bt hv (by decide) rfl (by decide))
                · rw [u2_oi e1, u2_ne (by omega)]
                  exact a.2 i hi
              · have ew : mw (u2 (u2 τ 5000 0 0) (7000 + 500 + mg τ) (cn x) (f_with (τ (7000 + 500 + mg τ) (cn x)) (cn y) v)) = mw τ := congrArg cn (by rw [u2_ne (by omega), u2_ne (by omega)])
                rw [ew, u2_ne (by omega), u2_ne (by omega)]
                exact b j hj
              · have k : ∀ q, q ≤ 7000 → q ≠ 5000 → u2 (u2 τ 5000 0 0) (7000 + 500 + mg τ) (cn x) (f_with (τ (7000 + 500 + mg τ) (cn x)) (cn y) v) q = τ q := fun q h1 h2 => by rw [u2_ne (by omega), u2_ne h2]
                unfold mg mw mK mn
                rw [k 7000 (by omega) (by omega), k 5003 (by omega) (by omega)]
                exact ⟨c, d, f, g9⟩
            · show cn (u2 (u2 τ 5000 0 0) (7000 + 500 + mg τ) (cn x) _ (5030 + j) 900) / 2 = 0
              rw [u2_ne (by omega), u2_ne (by omega)]
              exact h.2.1 (.inr hs) j hj
            · have eK : mK (u2 (u2 τ 5000 0 0) (7000 + 500 + mg τ) (cn x) (f_with (τ (7000 + 500 + mg τ) (cn x)) (cn y) v)) = mK τ := congrArg cn (by rw [u2_ne (by omega), u2_ne (by omega)])
              rw [eK] at hi
              have := r.hK.2
              rw [u2_ne (by omega), u2_ne (by omega), u2_ne (by omega), u2_ne (by omega)]
              exact h.2.2 i j hi hj
        · exact h.s00 r
      · exact h.s00 r
    · exact h.s00 r
  · exact h.s00 r
end
end
section
/-! ===== pure facts: the reference's clock through the small methods ===== -/
section
variable {τ : XS9} {R B C K g w : Nat} {pk gr tn sp rg : Nat → Nat} {cd : Nat → Nat → Nat}
theorem JS.hi {τ2 : XS9} (h : JS τ) (r : JR τ) (e : ∀ q, q < 8000 → τ2 q = τ q) : JS τ2 := h.of r.hK.2 ⟨r.hg.2, r.hw.2⟩ fun q i hk => by rw [e q (by unfold ks at hk; omega)]
theorem JS.put {q i : Nat} {x : Int32} (h : JS τ) (r : JR τ) (hq : ¬ ks q i) : JS (u2 τ q i x) := h.set r.hK.2 ⟨r.hg.2, r.hw.2⟩ hq
theorem JS.border {x y : Int32} (h : JS τ) (r : JR τ) (hR5 : R ≤ 5) : JS (g_Mborder τ x y R) := by
  have k1 : ∀ c, c < R → ¬ ks (5010 + c) 3 := fun c hc k => by unfold ks at k; omega
  have k2 : ∀ c, c < R → ¬ kr (5010 + c) 3 := fun c hc k => by unfold kr at k; omega
  unfold g_Mborder
  split
  · rename_i hx
    split
    · rename_i hy
      split
      · exact h.s00 r
      · split
        · exact ((h.s0 r).put r.s0 (k1 _ hx.2)).put (r.s0.set (k2 _ hx.2) (.inl (by decide))) (k1 _ hy.2)
        · exact h.s00 r
    · exact h.s00 r
  · exact h.s00 r
theorem JS.rules {x y : Int32} (h : JS τ) (r : JR τ) : JS (g_Mrules τ x y) := by
  unfold g_Mrules
  split
  · split
    · exact ((h.s0 r).put r.s0 (ks50 (by decide))).put (r.s0.set (kr50 (by decide)) (.inl (by decide))) (ks50 (by decide))
    · exact h.s00 r
  · exact h.s00 r
theorem JS.step {x : Int32} (h : JS τ) (r : JR τ) : JS (g_Mstep τ x) := by
  unfold g_Mstep
  split
  · split
    · exact (h.s0 r).put r.s0 (ks50 (by decide))
    · exact h.s00 r
  · exact h.s00 r
theorem JS.knock (h : JS τ) (r : JR τ) : JS (g_Mknock τ) := (h.s0 r).put r.s0 (ks50 (by decide))
theorem JS.rest {τ2 : XS9} (h : JS τ) (r : JR τ) (e : ∀ q i, ks q i → τ2 q i = τ q i) : JS τ2 := h.of r.hK.2 ⟨r.hg.2, r.hw.2⟩ e
theorem JS.station {x y : Int32} (h : JS τ) (r : JR τ) : JS (g_Mstation τ x y R C) := by
  unfold g_Mstation
  split
  · split
    · split
      · exact h.s00 r
      · unfold g_addI
        exact (h.s0 r).rest r.s0 fun q i hk => by rw [u2_ne (by unfold ks at hk; omega), u2_ne (by unfold ks at hk; omega), u2_ne (by unfold ks at hk; omega), u2_ne (by unfold ks at hk; omega)]
    · exact h.s00 r
  · exact h.s00 r
theorem JS.ask {x y : Int32} (h : JS τ) (r : JR τ) : JS (g_Mask τ x y C) := by
  unfold g_Mask
  split
  · split
    · unfold g_setS
      exact (h.s0 r).rest r.s0 fun q i hk => by rw [u2_ne (by unfold ks at hk; omega), u2_ne (by unfold ks at hk; omega)]
    · exact h.s00 r
  · exact h.s00 r
theorem JS.region {x y v : Int32} (h : JS τ) (r : JR τ) (hR5 : R ≤ 5) : JS (g_Mregion τ x y v R) := by
  unfold g_Mregion
  split
  · split
    · split
      · split
        · split
          · exact h.s00 r
          · exact (h.s0 r).rest r.s0 fun q i hk => by rw [u2_ne (by unfold ks at hk; omega), uR_ne (by unfold ks at hk; omega)]
        · exact h.s00 r
      · exact h.s00 r
    · exact h.s00 r
  · exact h.s00 r
theorem JS.offer {x y v : Int32} (h : JS τ) (r : JR τ) (hB6 : B ≤ 6) : JS (g_Moffer τ x y v R B pk) := by
  unfold g_Moffer
  split
  · rename_i hx
    have hx2 := hx.2
    split
    · exact h.s00 r
    · split
      · exact h.s00 r
      · split
        · split
          · rename_i hs2
            split
            · exact h.s00 r
            · split
              · exact h.s00 r
              · split
                · exact h.s00 r
                · split
                  · exact h.s00 r
                  · split
                    · unfold g_Madd g_addI
                      have e : ∀ q, q ≠ 5030 + cn x → u2 (u2 (u2 (u2 (u2 τ 5000 0 0) (5030 + cn x) (2 * pk (cn x)) y) (5030 + cn x) 900 (nI (2 * pk (cn x) + 1))) (5030 + cn x) (2 * pk (cn x) + 1) v) (5030 + cn x) 900 (nI (2 * pk (cn x) + 1 + 1)) q = u2 τ 5000 0 0 q := fun q hq => by rw [u2_ne hq, u2_ne hq, u2_ne hq, u2_ne hq]
                      generalize u2 (u2 (u2 (u2 (u2 τ 5000 0 0) (5030 + cn x) (2 * pk (cn x)) y) (5030 + cn x) 900 (nI (2 * pk (cn x) + 1))) (5030 + cn x) (2 * pk (cn x) + 1) v) (5030 + cn x) 900 (nI (2 * pk (cn x) + 1 + 1)) = t at e
                      have s1 : t 5000 1 = 2 := by rw [e _ (by omega), u2_oi (by decide)]; exact hs2
                      refine ⟨fun hs => ?_, fun hs => ?_, fun i j hi hj => ?_⟩
                      · rw [s1] at hs
                        exact absurd hs (by decide)
                      · rw [s1] at hs
                        exact absurd hs (by decide)
                      · have eK : mK t = mK τ := congrArg cn (by rw [e _ (by omega), u2_ne (by omega)])
                        rw [eK] at hi
                        have := r.hK.2
                        rw [e _ (by omega), e _ (by omega), u2_ne (by omega), u2_ne (by omega)]
                        exact h.2.2 i j hi hj
                    · exact h.s00 r
          · exact h.s00 r
        · exact h.s00 r
  · exact h.s00 r
theorem JS.init : JS s0M := by
  refine ⟨fun hs => absurd hs (by decide), fun _ j hj => ?_, fun i j hi hj => absurd hi (Nat.not_lt_zero i)⟩
  show cn (s0M (5030 + j) 900) / 2 = 0
  unfold s0M
  rw [if_neg (by omega)]
  rfl
theorem JA.init : JA s0M := by
  have z : ∀ q i, q ≠ 5000 → s0M q i = 0 := fun q i hq => by unfold s0M; rw [if_neg hq]
  refine ⟨by rw [z _ _ (by decide)]; exact bd.zero, by rw [z _ _ (by decide)]; exact bd.zero, by rw [z _ _ (by decide)]; exact bd.zero, fun _ => ⟨z _ _ (by decide), z _ _ (by decide)⟩, .inl (z _ _ (by decide)), fun hs => absurd hs (by decide), fun b hb => ?_, by rw [z _ _ (by decide), z _ _ (by decide)], fun j hj => ?_, fun j hj => ?_, fun j k hj hk => ?_, by rw [z _ _ (by decide)]; exact ev.zero, fun q hq => ?_, fun q hq => ?_, fun q hq => ?_, fun hs => absurd hs (by decide), ⟨by decide, by decide⟩⟩
  · rw [z _ _ (by omega), z _ _ (by omega), z _ _ (by omega), z _ _ (by omega)]
    exact ⟨bd.zero, bd.zero, bd.zero, bd.zero⟩
  · rw [z _ _ (by omega)]; exact ev.zero
  · rw [z _ _ (by omega)]; exact bd.zero
  · rw [z _ _ (by omega)]; exact bd.zero
  · rw [z _ _ (by omega)] at hq
    exact absurd hq (Nat.not_lt_zero q)
  · rw [z _ _ (by omega)]; exact bd.zero
  · rw [z _ _ (by omega)]; exact bd.zero
theorem JR.init : JR s0M := ⟨JA.init, ⟨⟨rfl, rfl⟩, fun q a b => by unfold s0M; rw [if_neg (by omega)]⟩⟩
theorem R2.init : R2 s0M s0C := ⟨by decide, by decide, by decide⟩
end
end
section
/-! ===== pure facts: bidder, waive, the clock's beginning ===== -/
section
variable {τ : XS9} {R B : Nat}
theorem JS.bidder {x y v u : Int32} (h : JS τ) (r : JR τ) (hB6 : B ≤ 6) : JS (g_Mbidder τ x y v u B) := by
  unfold g_Mbidder
  split
  · split
    · split
      · split
        · split
          · rename_i hs0
            split
            · exact h.s00 r
            · have e : ∀ q, q ≠ 5002 → q ≠ 5020 + B → q ≠ 5030 + B → u2 (u2 (uR (u2 τ 5000 0 0) (5020 + B) (fun k => match k with | 0 => x | 1 => y | 2 => v | 3 => u | _ => 0)) (5030 + B) 900 0) 5002 900 (nI (B + 1)) q = u2 τ 5000 0 0 q := fun q a b c => by rw [u2_ne a, u2_ne c, uR_ne b]
              have ep : ∀ j, j ≠ B → u2 (u2 (uR (u2 τ 5000 0 0) (5020 + B) (fun k => match k with | 0 => x | 1 => y | 2 => v | 3 => u | _ => 0)) (5030 + B) 900 0) 5002 900 (nI (B + 1)) (5030 + j) 900 = τ (5030 + j) 900 := fun j hj => by rw [u2_ne (by omega), u2_ne (by omega), uR_ne (by omega), u2_ne (by omega)]
              have ep0 : u2 (u2 (uR (u2 τ 5000 0 0) (5020 + B) (fun k => match k with | 0 => x | 1 => y | 2 => v | 3 => u | _ => 0)) (5030 + B) 900 0) 5002 900 (nI (B + 1)) (5030 + B) 900 = 0 := by rw [u2_ne (by omega), u2_at]
              generalize u2 (u2 (uR (u2 τ 5000 0 0) (5020 + B) (fun k => match k with | 0 => x | 1 => y | 2 => v | 3 => u | _ => 0)) (5030 + B) 900 0) 5002 900 (nI (B + 1)) = t at e ep ep0
              have s1 : t 5000 1 = 0 := by rw [e _ (by omega) (by omega) (by omega), u2_oi (by decide)]; exact hs0
              refine ⟨fun hs => ?_, fun hs j hj => ?_, fun i j hi hj => ?_⟩
              · rw [s1] at hs
                exact absurd hs (by decide)
              · show cn (t (5030 + j) 900) / 2 = 0
                by_cases ej : j = B
                · rw [ej, ep0]
                  rfl
                · rw [ep j ej]
                  exact h.2.1 (.inl hs0) j hj
              · have eK : mK t = mK τ := congrArg cn (by rw [e _ (by omega) (by omega) (by omega), u2_ne (by omega)])
                rw [eK] at hi
                have := r.hK.2
                rw [e _ (by omega) (by omega) (by omega), e _ (by omega) (by omega) (by omega), u2_ne (by omega), u2_ne (by omega)]
                exact h.2.2 i j hi hj
          · exact h.s00 r
        · exact h.s00 r
      · exact h.s00 r
    · exact h.s00 r
  · exact h.s00 r
theorem JS.waive {x : Int32} (h : JS τ) (r : JR τ) : JS (g_Mwaive τ x (mB τ) (mg τ) (mw τ)) := by
  have hg2 := r.hg.2
  have hw2 := r.hw.2
  unfold g_Mwaive
  split
  · split
    · rename_i hs
      split
      · exact h.s00 r
      · split
        · obtain ⟨a, b, c, d, f, g9⟩ := h.1 hs
          have e : ∀ q, q ≠ 5000 → q ≠ 7004 → q ≠ 7000 + 700 + mw τ → u2 (u2 (u2 τ 5000 0 0) (7000 + 4) (cn x) ((τ (7000 + 4) (cn x)) - 1)) (7000 + 700 + mw τ) (cn x) 1 q = τ q := fun q h1 h2 h3 => by rw [u2_ne h3, u2_ne (by omega), u2_ne h1]
          have ew7 : ∀ j, u2 (u2 (u2 τ 5000 0 0) (7000 + 4) (cn x) ((τ (7000 + 4) (cn x)) - 1)) (7000 + 700 + mw τ) (cn x) 1 (7000 + 700 + mw τ) j = 1 ∨ u2 (u2 (u2 τ 5000 0 0) (7000 + 4) (cn x) ((τ (7000 + 4) (cn x)) - 1)) (7000 + 700 + mw τ) (cn x) 1 (7000 + 700 + mw τ) j = τ (7000 + 700 + mw τ) j := fun j => by
            by_cases ej : j = cn x
            · left
              rw [ej, u2_at]
            · right
              rw [u2_oi ej, u2_ne (by omega), u2_ne (by omega)]
          have s1 : u2 (u2 (u2 τ 5000 0 0) (7000 + 4) (cn x) ((τ (7000 + 4) (cn x)) - 1)) (7000 + 700 + mw τ) (cn x) 1 5000 1 = τ 5000 1 := by rw [u2_ne (by omega), u2_ne (by omega), u2_oi (by decide)]
          generalize u2 (u2 (u2 τ 5000 0 0) (7000 + 4) (cn x) ((τ (7000 + 4) (cn x)) - 1)) (7000 + 700 + mw τ) (cn x) 1 = t at e ew7 s1
          have eg : mg t = mg τ := congrArg cn (by rw [e _ (by omega) (by omega) (by omega)])
          have ew : mw t = mw τ := congrArg cn (by rw [e _ (by omega) (by omega) (by omega)])
          have en : mn t = mn τ := congrArg cn (by rw [e _ (by omega) (by omega) (by omega)])
          have eK : mK t = mK τ := congrArg cn (by rw [e _ (by omega) (by omega) (by omega)])
          refine ⟨fun _ => ?_, fun hs9 j hj => ?_, fun i j hi hj => ?_⟩
          · rw [eg, ew, en, eK]
            refine ⟨⟨fun i hi => ?_, fun i hi => ?_⟩, fun j hj => ?_, c, d, f, g9⟩
            · rw [e _ (by omega) (by omega) (by omega)]
              exact a.1 i hi
            · rw [e _ (by omega) (by omega) (by omega)]
              exact a.2 i hi
            · rcases ew7 j with q | q
              · exact .inr q
              · unfold zo
                rw [q]
                exact b j hj
          · rw [s1] at hs9
            show cn (t (5030 + j) 900) / 2 = 0
            rw [e _ (by omega) (by omega) (by omega)]
            exact h.2.1 hs9 j hj
          · rw [eK] at hi
            have := r.hK.2
            rw [e _ (by omega) (by omega) (by omega), e _ (by omega) (by omega) (by omega)]
            exact h.2.2 i j hi hj
        · exact h.s00 r
    · exact h.s00 r
  · exact h.s00 r
end
end
section
/-! ===== pure facts: the clock's beginning keeps JS ===== -/
theorem Kinit_rest {σ : XS9} {b R B q : Nat} (h1 : q ≠ b + 1) (h3 : q ≠ b + 3) (h4 : q ≠ b + 4) : g_Kinit σ b R B q = g_clk0 σ b q := by
  unfold g_Kinit x_Kinit_132
  refine (xit_keep (fun s : XS9 => s q) (fun i s => ?_) B 0 _).trans ?_
  · (try dsimp only)
    rw [u2_ne h4, u2_ne h3]
  · unfold x_Kinit_95
    refine (xit_keep (fun s : XS9 => s q) (fun i s => ?_) R 0 _).trans rfl
    (try dsimp only)
    rw [u2_ne h1]
theorem clk0_row {σ : XS9} {b q : Nat} (hb : q ≠ b) (h : q = b + 1 ∨ q = b + 2 ∨ q = b + 3 ∨ q = b + 4 ∨ q = b + 5 ∨ q = b + 500 + 0 ∨ q = b + 700 + 0) : g_clk0 σ b q = fun _ => 0 := by
  unfold g_clk0
  rw [if_neg hb, if_pos h]
theorem JS.opn {τ : XS9} {R B : Nat} (h : JS τ) (r : JR τ) : JS (g_Mopen τ R B) := by
  unfold g_Mopen
  split
  · rename_i hs0
    split
    · exact h.s00 r
    · split
      · exact h.s00 r
      · have k : ∀ q, (q < 7000 ∨ 8000 ≤ q) → u2 (g_Kinit (u2 (u2 τ 5000 0 0) 5000 1 1) 7000 R B) 7000 25 1 q = u2 (u2 τ 5000 0 0) 5000 1 1 q := fun q hq => by rw [u2_ne (by omega), fr_Kinit (by omega)]
        have z : ∀ i, i ≠ 20 → i ≠ 25 → u2 (g_Kinit (u2 (u2 τ 5000 0 0) 5000 1 1) 7000 R B) 7000 25 1 7000 i = 0 := fun i h1 h2 => by rw [u2_oi h2, Kinit_row, clk0_at h1 h2]
        have c : ∀ q i, (q = 7002 ∨ q = 7500 ∨ q = 7700) → u2 (g_Kinit (u2 (u2 τ 5000 0 0) 5000 1 1) 7000 R B) 7000 25 1 q i = 0 := fun q i hq => by rw [u2_ne (by omega), Kinit_rest (by omega) (by omega) (by omega), clk0_row (by omega) (by omega)]
        generalize u2 (g_Kinit (u2 (u2 τ 5000 0 0) 5000 1 1) 7000 R B) 7000 25 1 = t at k z c
        have hg : mg t = 0 := by show cn (t 7000 23) = 0; rw [z _ (by decide) (by decide)]; rfl
        have hw : mw t = 0 := by show cn (t 7000 24) = 0; rw [z _ (by decide) (by decide)]; rfl
        have hn : mn t = 0 := by show cn (t 7000 21) = 0; rw [z _ (by decide) (by decide)]; rfl
        have hK : mK t = 0 := by
          show cn (t 5003 900) = 0
          rw [k _ (by omega), u2_ne (by decide), u2_ne (by decide), (r.hp0 hs0).2.2]
          rfl
        refine ⟨fun _ => ?_, fun _ j hj => ?_, fun i j hi hj => ?_⟩
        · rw [hg, hw, hn, hK]
          refine ⟨⟨fun i hi => ?_, fun i hi => ?_⟩, fun j hj => ?_, rfl, rfl, rfl, by decide⟩
          · rw [c _ _ (by omega)]
            exact bd.zero
          · rw [c _ _ (by omega)]
            exact bd.zero
          · left
            exact c _ _ (by omega)
        · show cn (t (5030 + j) 900) / 2 = 0
          rw [k _ (by omega), u2_ne (by omega), u2_ne (by omega)]
          exact h.2.1 (.inl hs0) j hj
        · rw [hK] at hi
          exact absurd hi (Nat.not_lt_zero i)
  · exact h.s00 r
end
section
/-! ===== pure facts: the clock's closing, its codes and prices ===== -/
theorem bd.subp {c d : Int32} (h : bd 7775 c) {r : Nat} (hr : r < 5) (hd : bd 5 d) (hg : ¬ f_of c r ≤ d) : bd 7775 (c - f_power r) := by
  have h2 := h.2
  have d2 := hd.2
  obtain ⟨p0, p1⟩ := pow6r hr
  rw [h.1, of_eq h2 hr, hd.1] at hg
  rw [h.1, power_eq hr]
  generalize cn c = n at h2 hg
  generalize cn d = m at d2 hg
  have hk : 6 ^ r ≤ n := by
    rcases Nat.lt_or_ge n (6 ^ r) with q | q
    · exfalso
      apply hg
      rw [Nat.div_eq_of_lt q, i_le, toI_nI (by omega), toI_nI (by omega)]
      omega
    · exact q
  rw [nI_minus hk]
  exact bd.nat (by omega) (by decide)
theorem xitB_all {S : Type} {step : Nat → S → S ⊕ S} (P : S → Prop) {N : Nat} (h : ∀ i s s', i < N → P s → step i s = .inl s' ∨ step i s = .inr s' → P s') : ∀ (f i : Nat) (s : S), i + f = N → P s → P (xitB step f i s)
  | 0, _, _, _, hP => hP
  | f + 1, i, s, e, hP => by
    unfold xitB
    split
    · rename_i s' e'
      exact xitB_all P h f (i + 1) s' (by omega) (h i s s' (by omega) hP (.inl e'))
    · rename_i s' e'
      exact h i s s' (by omega) hP (.inr e')
def kcP (σ : XS9) (b R B g w n : Nat) : XS9 := x_Kclose_65 σ b R B g w n (x_Kclose_2 σ b R B g w n σ)
def kc0 (σ : XS9) (b R B g w n : Nat) : XS9 := u2 (uR (kcP σ b R B g w n) (b + 100 + n) (kcP σ b R B g w n (b + 1))) b 21 (nI (n + 1))
def kcV (σ : XS9) (x : Int32) (b R B g w n : Nat) : XS9 × Int32 := x_Kclose_169 σ x b R B g w n (kc0 σ b R B g w n, 0)
def kcT (s : XS9) (f : Int32) (b n : Nat) : XS9 := u2 (u2 (uR s (b + 200 + n) (s (b + 2))) b 22 (nI (n + 1))) b 9 f
def kcF (s : XS9) (f : Int32) (b g w n : Nat) : XS9 := u2 (uR (u2 (uR (kcT s f b n) (b + 500 + (g + 1)) (kcT s f b n (b + 2))) b 23 (nI (g + 1))) (b + 700 + (w + 1)) (fun _ => 0)) b 24 (nI (w + 1))
section
variable {σ : XS9} {x : Int32} {b R B g w n : Nat}
theorem Kclose_eq : g_Kclose σ x b R B g w n = kcF (kcV σ x b R B g w n).1 (if (kcV σ x b R B g w n).2 = 0 then 1 else if nI (n + 1) = 60 then 1 else 0) b g w n := by
  unfold g_Kclose kcF kcT kcV kc0 kcP
  split
  · rfl
  · split <;> rfl
theorem kcT_row {s : XS9} {f : Int32} {q : Nat} (h : q ≠ b ∧ q ≠ b + 200 + n) : kcT s f b n q = s q := by
  unfold kcT
  rw [u2_ne h.1, u2_ne h.1, uR_ne h.2]
theorem kcF_row {s : XS9} {f : Int32} {q : Nat} (h : q ≠ b ∧ q ≠ b + 200 + n ∧ q ≠ b + 500 + (g + 1) ∧ q ≠ b + 700 + (w + 1)) : kcF s f b g w n q = s q := by
  unfold kcF
  rw [u2_ne h.1, uR_ne h.2.2.2, u2_ne h.1, uR_ne h.2.2.1, kcT_row ⟨h.1, h.2.1⟩]
theorem kcF_wish {s : XS9} {f : Int32} (hg : g < 199) (hn : n < 60) : kcF s f b g w n (b + 500 + (g + 1)) = s (b + 2) := by
  unfold kcF
  rw [u2_ne (by omega), uR_ne (by omega), u2_ne (by omega), uR_eq, kcT_row (by omega)]
theorem kcF_waived {s : XS9} {f : Int32} : kcF s f b g w n (b + 700 + (w + 1)) = fun _ => 0 := by
  unfold kcF
  rw [u2_ne (by omega), uR_eq]
theorem kcF_over {s : XS9} {f : Int32} : kcF s f b g w n b 9 = f := by
  unfold kcF kcT
  rw [u2_oi (by decide), uR_ne (by omega), u2_oi (by decide), uR_ne (by omega), u2_at]
/-- what is held, as codes -/
def HBk (b : Nat) (s : XS9) : Prop := ∀ i, i < 6 → bd 7775 (s (b + 2) i)
theorem HBk.put {s : XS9} (h : HBk b s) {i : Nat} {v : Int32} (hv : i < 6 → bd 7775 v) : HBk b (u2 s (b + 2) i v) := fun k hk => by
  by_cases e : k = i
  · subst e
    rw [u2_at]
    exact hv hk
  · rw [u2_oi e]
    exact h k hk
theorem HBk.c181 (hK : KW b g σ) (hB6 : B ≤ 6) (hg : g < 200) {s : XS9} {r : Nat} (hr : r < 5) (h : HBk b s) : HBk b (x_Kclose_181 σ b R B g w n r s) := by
  have W := (hK.clo2 (R := R) (w := w) (n := n) hB6 hg).2
  unfold x_Kclose_181
  refine xit_inv (HBk b) (N := B) (fun i s hi hP => ?_) B 0 _ (Nat.zero_add _) h
  (try dsimp only)
  split
  · exact hP
  · exact hP.put fun h6 => (hP i h6).withd hr ((W i h6).ofd hr)
theorem HBk.c274 (hK : KW b g σ) (hB6 : B ≤ 6) (hg : g < 200) {s s9 : XS9} {r i : Nat} (hr : r < 5) (h : HBk b s) : HBk b (x_Kclose_274 σ b R B g w n r i s9 s) := by
  have W := (hK.clo2 (R := R) (w := w) (n := n) hB6 hg).2
  unfold x_Kclose_274
  refine xitB_all (HBk b) (N := 5) (fun k s s' hk hP => ?_) 5 0 _ (Nat.zero_add _) h
  (try dsimp only)
  split
  · intro e
    rcases e with e | e
    · cases e
    · rw [← Sum.inr.inj e]
      exact hP
  · rename_i hn
    split
    · intro e
      rcases e with e | e
      · cases e
      · rw [← Sum.inr.inj e]
        exact hP
    · intro e
      rcases e with e | e
      · rw [← Sum.inl.inj e]
        exact hP.put fun h6 => (hP i h6).subp hr ((W i h6).ofd hr) hn
      · cases e
theorem HBk.c259 (hK : KW b g σ) (hB6 : B ≤ 6) (hg : g < 200) {s : XS9} {r : Nat} (hr : r < 5) (h : HBk b s) : HBk b (x_Kclose_259 σ b R B g w n r s) := by
  unfold x_Kclose_259
  refine xit_inv (HBk b) (N := B) (fun i s hi hP => ?_) B 0 _ (Nat.zero_add _) h
  exact hP.c274 hK hB6 hg hr
theorem HBk.rowof {s s' : XS9} (h : HBk b s) (e : s' (b + 2) = s (b + 2)) : HBk b s' := fun i hi => by rw [e]; exact h i hi
theorem kcP_row {q : Nat} (h : q ≠ b + 500 + g ∧ q ≠ b + 5 ∧ q ≠ b + 3) : kcP σ b R B g w n q = σ q := by
  unfold kcP
  rw [fx_Kclose_65 h.2.2, fx_Kclose_2 ⟨h.1, h.2.1⟩]
theorem kc0_row {q : Nat} (h : q ≠ b + 500 + g ∧ q ≠ b + 5 ∧ q ≠ b + 3 ∧ q ≠ b ∧ q ≠ b + 100 + n) : kc0 σ b R B g w n q = σ q := by
  unfold kc0
  rw [u2_ne h.2.2.2.1, uR_ne h.2.2.2.2, kcP_row ⟨h.1, h.2.1, h.2.2.1⟩]
theorem kcV_held (hK : KW b g σ) (hR5 : R ≤ 5) (hB6 : B ≤ 6) (hg : g < 200) : HBk b (kcV σ x b R B g w n).1 := by
  unfold kcV x_Kclose_169
  refine xit_inv (fun s : XS9 × Int32 => HBk b s.1) (N := R) (fun i s hi hP => ?_) R 0 _ (Nat.zero_add _) (HBk.rowof (s := σ) (fun i hi => hK.1 i hi) (kc0_row (by omega)))
  have H : HBk b (x_Kclose_259 σ b R B g w n i (x_Kclose_181 σ b R B g w n i s.1)) := (HBk.c181 hK hB6 hg (by omega) hP).c259 hK hB6 hg (by omega)
  (try dsimp only)
  split
  · exact H.rowof (u2_ne (by omega))
  · exact H
theorem KW.close (hK : KW b g σ) (hR5 : R ≤ 5) (hB6 : B ≤ 6) (hg : g < 199) (hw : w < 199) (hn : n < 60) : KW b (g + 1) (g_Kclose σ x b R B g w n) := by
  have H : HBk b (kcV σ x b R B g w n).1 := kcV_held hK hR5 hB6 (by omega)
  rw [Kclose_eq]
  refine ⟨fun i hi => ?_, fun i hi => ?_⟩
  · rw [kcF_row (by omega)]
    exact H i hi
  · rw [kcF_wish hg hn]
    exact H i hi
/-- the prices -/
def PBk (b : Nat) (s : XS9) : Prop := ∀ r, r < 5 → bd 9999 (s (b + 1) r)
theorem kcV_price (hx : bd 20 x) (hp : PBk b σ) : PBk b (kcV σ x b R B g w n).1 := by
  unfold kcV x_Kclose_169
  refine xit_inv (fun s : XS9 × Int32 => PBk b s.1) (N := R) (fun i s hi hP => ?_) R 0 _ (Nat.zero_add _) (fun r hr => ?_)
  · have H : x_Kclose_259 σ b R B g w n i (x_Kclose_181 σ b R B g w n i s.1) (b + 1) = s.1 (b + 1) := by rw [fx_Kclose_259 (by omega), fx_Kclose_181 (by omega)]
    (try dsimp only)
    split
    · intro r hr
      show bd 9999 (u2 _ (b + 1) i _ (b + 1) r)
      by_cases e : r = i
      · subst e
        rw [u2_at]
        exact raise_amt (hP r hr) hx
      · rw [u2_oi e, H]
        exact hP r hr
    · intro r hr
      show bd 9999 (x_Kclose_259 σ b R B g w n i (x_Kclose_181 σ b R B g w n i s.1) (b + 1) r)
      rw [H]
      exact hP r hr
  · show bd 9999 (kc0 σ b R B g w n (b + 1) r)
    rw [kc0_row (by omega)]
    exact hp r hr
theorem PBk.close (hx : bd 20 x) (hp : PBk b σ) (hg : g < 199) (hw : w < 199) (hn : n < 60) : PBk b (g_Kclose σ x b R B g w n) := by
  have H : PBk b (kcV σ x b R B g w n).1 := kcV_price hx hp
  rw [Kclose_eq]
  intro r hr
  rw [kcF_row (by omega)]
  exact H r hr
theorem Kclose_on (h : g_Kclose σ x b R B g w n b 9 = 0) : ¬ nI (n + 1) = 60 := by
  rw [Kclose_eq, kcF_over] at h
  intro e
  rw [if_pos e] at h
  revert h
  split <;> decide
theorem Kclose_waived : g_Kclose σ x b R B g w n (b + 700 + (w + 1)) = fun _ => 0 := by
  rw [Kclose_eq, kcF_waived]
theorem Kclose_step (hb : b + 1000 ≤ 9000) : g_Kclose σ x b R B g w n b 9 = 0 ∨ g_Kclose σ x b R B g w n b 9 = 1 := by
  rw [Kclose_eq, kcF_over]
  (repeat' split) <;> first | exact .inl rfl | exact .inr rfl
end
end
section
/-! ===== pure facts: prices, budgets and amounts on the reference's side ===== -/
def JP (τ : XS9) : Prop := (∀ j, j < 5 → bd 999 (τ (5010 + j) 2)) ∧ (∀ j, j < 6 → bd 99999 (τ (5020 + j) 0)) ∧ bd 20 (τ 5000 4) ∧ (τ 5000 1 = 1 → ∀ r, r < 5 → bd 9999 (τ 7001 r)) ∧ ∀ j k, j < 6 → k < 6 → bd 300000 (τ (5030 + j) (2 * k + 1))
/-- the places that JP speaks of -/
def kp (q i : Nat) : Prop := (5010 ≤ q ∧ q ≤ 5014 ∧ i = 2) ∨ (5020 ≤ q ∧ q ≤ 5025 ∧ i = 0) ∨ (q = 5000 ∧ (i = 4 ∨ i = 1)) ∨ q = 7001 ∨ (5030 ≤ q ∧ q ≤ 5035 ∧ i % 2 = 1)
section
variable {τ τ2 : XS9} {R B C K g w : Nat} {pk gr tn sp rg : Nat → Nat} {cd : Nat → Nat → Nat}
theorem JP.of (h : JP τ) (e : ∀ q i, kp q i → τ2 q i = τ q i) : JP τ2 := by
  obtain ⟨h1, h2, h3, h4, h5⟩ := h
  refine ⟨fun j hj => ?_, fun j hj => ?_, ?_, fun hs r hr => ?_, fun j k hj hk => ?_⟩
  · rw [e _ _ (by unfold kp; omega)]
    exact h1 j hj
  · rw [e _ _ (by unfold kp; omega)]
    exact h2 j hj
  · rw [e _ _ (by unfold kp; omega)]
    exact h3
  · rw [e _ _ (by unfold kp; omega)] at hs
    rw [e _ _ (by unfold kp; omega)]
    exact h4 hs r hr
  · rw [e _ _ (by unfold kp; omega)]
    exact h5 j k hj hk
theorem JP.set (h : JP τ) {q i : Nat} {x : Int32} (hq : ¬ kp q i) : JP (u2 τ q i x) := h.of fun q9 i9 hk => u2_o (fun a b => hq (by rw [← a, ← b]; exact hk))
theorem kp50 {i : Nat} (hi : i ≠ 1 ∧ i ≠ 4) : ¬ kp 5000 i := fun k => by unfold kp at k; omega
theorem JP.s0 (h : JP τ) {x : Int32} : JP (u2 τ 5000 0 x) := h.set (kp50 (by decide))
theorem JP.s00 (h : JP τ) {x : Int32} : JP (u2 (u2 τ 5000 0 0) 5000 0 x) := h.s0.s0
theorem JP.hi (h : JP τ) (e : ∀ q, q < 8000 → τ2 q = τ q) : JP τ2 := h.of fun q i hk => by rw [e q (by unfold kp at hk; omega)]
theorem JP.init : JP s0M := by
  refine ⟨fun j hj => ?_, fun j hj => ?_, ?_, fun hs => ?_, fun j k hj hk => ?_⟩
  · rw [show s0M (5010 + j) 2 = 0 from if_neg (by omega)]
    exact bd.zero
  · rw [show s0M (5020 + j) 0 = 0 from if_neg (by omega)]
    exact bd.zero
  · exact ⟨rfl, by decide⟩
  · exact absurd hs (by decide)
  · rw [show s0M (5030 + j) (2 * k + 1) = 0 from if_neg (by omega)]
    exact bd.zero
theorem JP.region {x y v : Int32} (h : JP τ) (hR5 : R ≤ 5) : JP (g_Mregion τ x y v R) := by
  unfold g_Mregion
  split
  · split
    · split
      · rename_i hv
        split
        · split
          · exact h.s00
          · obtain ⟨h1, h2, h3, h4, h5⟩ := h.s0 (x := 0)
            refine ⟨fun j hj => ?_, fun j hj => ?_, ?_, fun hs r hr => ?_, fun j k hj hk => ?_⟩
            · rw [u2_ne (by omega)]
              by_cases e : j = R
              · rw [e, uR_eq]
                exact bd.bt hv (by decide) rfl (by decide)
              · rw [uR_ne (by omega)]
                exact h1 j hj
            · rw [u2_ne (by omega), uR_ne (by omega)]
              exact h2 j hj
            · rw [u2_ne (by omega), uR_ne (by omega)]
              exact h3
            · rw [u2_ne (by omega), uR_ne (by omega)] at hs
              rw [u2_ne (by omega), uR_ne (by omega)]
              exact h4 hs r hr
            · rw [u2_ne (by omega), uR_ne (by omega)]
              exact h5 j k hj hk
        · exact h.s00
      · exact h.s00
    · exact h.s00
  · exact h.s00
theorem JP.bidder {x y v u : Int32} (h : JP τ) (hB6 : B ≤ 6) : JP (g_Mbidder τ x y v u B) := by
  unfold g_Mbidder
  split
  · rename_i hx
    split
    · split
      · split
        · split
          · split
            · exact h.s00
            · rename_i hn
              have hB5 : B ≠ 6 := fun e => hn (by rw [e]; rfl)
              obtain ⟨h1, h2, h3, h4, h5⟩ := h.s0 (x := 0)
              refine ⟨fun j hj => ?_, fun j hj => ?_, ?_, fun hs r hr => ?_, fun j k hj hk => ?_⟩
              · rw [u2_ne (by omega), u2_ne (by omega), uR_ne (by omega)]
                exact h1 j hj
              · rw [u2_ne (by omega), u2_ne (by omega)]
                by_cases e : j = B
                · rw [e, uR_eq]
                  exact bd.bt hx (by decide) rfl (by decide)
                · rw [uR_ne (by omega)]
                  exact h2 j hj
              · rw [u2_ne (by omega), u2_ne (by omega), uR_ne (by omega)]
                exact h3
              · rw [u2_ne (by omega), u2_ne (by omega), uR_ne (by omega)] at hs
                rw [u2_ne (by omega), u2_ne (by omega), uR_ne (by omega)]
                exact h4 hs r hr
              · rw [u2_ne (by omega), u2_o (fun a b => by omega), uR_ne (by omega)]
                exact h5 j k hj hk
          · exact h.s00
        · exact h.s00
      · exact h.s00
    · exact h.s00
  · exact h.s00
theorem JP.border {x y : Int32} (h : JP τ) (hR5 : R ≤ 5) : JP (g_Mborder τ x y R) := by
  have k1 : ∀ c, c < R → ¬ kp (5010 + c) 3 := fun c hc k => by unfold kp at k; omega
  unfold g_Mborder
  split
  · rename_i hx
    split
    · rename_i hy
      split
      · exact h.s00
      · split
        · exact (h.s0.set (k1 _ hx.2)).set (k1 _ hy.2)
        · exact h.s00
    · exact h.s00
  · exact h.s00
theorem JP.rules {x y : Int32} (h : JP τ) : JP (g_Mrules τ x y) := by
  unfold g_Mrules
  (repeat' split) <;> first | with_reducible exact h.s00 | exact (h.s0.set (kp50 (by decide))).set (kp50 (by decide)) | exact h.s00
theorem JP.step {x : Int32} (h : JP τ) : JP (g_Mstep τ x) := by
  unfold g_Mstep
  split
  · rename_i hx
    split
    · obtain ⟨h1, h2, h3, h4, h5⟩ := h.s0 (x := 0)
      refine ⟨fun j hj => ?_, fun j hj => ?_, ?_, fun hs r hr => ?_, fun j k hj hk => ?_⟩
      · rw [u2_ne (by omega)]
        exact h1 j hj
      · rw [u2_ne (by omega)]
        exact h2 j hj
      · rw [u2_at]
        exact bd.bt hx (by decide) rfl (by decide)
      · rw [u2_oi (by decide)] at hs
        rw [u2_ne (by omega)]
        exact h4 hs r hr
      · rw [u2_ne (by omega)]
        exact h5 j k hj hk
    · exact h.s00
  · exact h.s00
theorem JP.wish {x y v : Int32} (h : JP τ) : JP (g_Mwish τ x y v R B g) := by
  unfold g_Mwish
  (repeat' split) <;> first | with_reducible exact h.s00 | exact h.s0.set (fun k => by unfold kp at k; omega) | exact h.s00
theorem JP.waive {x : Int32} (h : JP τ) : JP (g_Mwaive τ x B g w) := by
  unfold g_Mwaive
  (repeat' split) <;> first | with_reducible exact h.s00 | exact (h.s0.set (fun k => by unfold kp at k; omega)).set (fun k => by unfold kp at k; omega) | exact h.s00
theorem JP.knock (h : JP τ) : JP (g_Mknock τ) := h.s0.set (kp50 (by decide))
theorem JP.station {x y : Int32} (h : JP τ) : JP (g_Mstation τ x y R C) := by
  have k1 : ∀ i, ¬ kp 5004 i := fun i k => by unfold kp at k; omega
  unfold g_Mstation
  (repeat' split) <;> first | with_reducible exact h.s00 | (unfold g_addI; exact (((h.s0.set (k1 _)).set (k1 _)).set (k1 _)).set (k1 _)) | exact h.s00
theorem JP.ask {x y : Int32} (h : JP τ) : JP (g_Mask τ x y C) := by
  have k1 : ∀ i, ¬ kp 5004 i := fun i k => by unfold kp at k; omega
  unfold g_Mask
  (repeat' split) <;> first | with_reducible exact h.s00 | (unfold g_setS; exact (h.s0.set (k1 _)).set (k1 _)) | exact h.s00
theorem JP.madd (h : JP τ) {j p : Nat} {c a : Int32} (hj : j < 6) (ha : bd 300000 a) : JP (g_Madd τ j p c a) := by
  unfold g_Madd g_addI
  obtain ⟨h1, h2, h3, h4, h5⟩ := h
  have k : ∀ q, q ≠ 5030 + j → u2 (u2 (u2 (u2 τ (5030 + j) (2 * p) c) (5030 + j) 900 (nI (2 * p + 1))) (5030 + j) (2 * p + 1) a) (5030 + j) 900 (nI (2 * p + 1 + 1)) q = τ q := fun q hq => by rw [u2_ne hq, u2_ne hq, u2_ne hq, u2_ne hq]
  refine ⟨fun j hj => ?_, fun j hj => ?_, ?_, fun hs r hr => ?_, fun j2 k2 hj2 hk2 => ?_⟩
  · rw [k _ (by omega)]
    exact h1 j hj
  · rw [k _ (by omega)]
    exact h2 j hj
  · rw [k _ (by omega)]
    exact h3
  · rw [k _ (by omega)] at hs
    rw [k _ (by omega)]
    exact h4 hs r hr
  · rw [u2_o (fun a b => by omega)]
    by_cases e : j2 = j ∧ k2 = p
    · rw [e.1, e.2, u2_at]
      exact ha
    · rw [u2_o (fun a b => e ⟨by omega, by omega⟩), u2_o (fun a b => by omega), u2_o (fun a b => by omega)]
      exact h5 j2 k2 hj2 hk2
theorem bd.leq {m n : Nat} {a b : Int32} (hb : bd m b) (hm : m < 2147483648) (h0 : 0 ≤ a) (h : ¬ b < a) (hn : m ≤ n) : bd n a := by
  obtain ⟨e1, e2⟩ := cn_of h0
  refine ⟨e1, ?_⟩
  have b2 := hb.2
  have h3 := i_le.mp (Int32.not_lt.mp h)
  rw [hb.1, toI_nI (by omega)] at h3
  omega
theorem JP.offer {x y v : Int32} (h : JP τ) (hB6 : B ≤ 6) : JP (g_Moffer τ x y v R B pk) := by
  unfold g_Moffer
  split
  · rename_i hx
    have hx6 : cn x < 6 := by have := hx.2; omega
    split
    · exact h.s00
    · split
      · exact h.s00
      · split
        · rename_i hv
          split
          · split
            · exact h.s00
            · split
              · exact h.s00
              · split
                · exact h.s00
                · rename_i hb
                  split
                  · exact h.s00
                  · split
                    · exact h.s0.madd hx6 ((h.2.1 _ hx6).leq (by decide) hv hb (by decide))
                    · exact h.s00
          · exact h.s00
        · exact h.s00
  · exact h.s00
theorem Kinit_price {b r : Nat} (h : ∀ j, j < 5 → bd 999 (τ (5010 + j) 2)) (hR5 : R ≤ 5) (hB6 : B ≤ 6) (hr : r < 5) : bd 9999 (g_Kinit τ b R B (b + 1) r) := by
  unfold g_Kinit x_Kinit_132
  refine (xit_keep (fun s : XS9 => s (b + 1)) (fun i s => ?_) B 0 _) ▸ ?_
  · (try dsimp only)
    rw [u2_ne (by omega), u2_ne (by omega)]
  · unfold x_Kinit_95
    refine xit_inv (fun s : XS9 => bd 9999 (s (b + 1) r)) (N := R) (fun i s hi hP => ?_) R 0 _ (Nat.zero_add _) ?_
    · show bd 9999 (u2 s (b + 1) i (τ (5010 + i) 2) (b + 1) r)
      by_cases e : r = i
      · subst e
        rw [u2_at]
        exact (h r hr).le (by decide)
      · rw [u2_oi e]
        exact hP
    · show bd 9999 (g_clk0 τ b (b + 1) r)
      unfold g_clk0
      rw [if_neg (by omega), if_pos (.inl rfl)]
      exact bd.zero
theorem JP.opn (h : JP τ) (hR5 : R ≤ 5) (hB6 : B ≤ 6) : JP (g_Mopen τ R B) := by
  unfold g_Mopen
  split
  · split
    · exact h.s00
    · split
      · exact h.s00
      · have k : ∀ q, q < 7000 → u2 (g_Kinit (u2 (u2 τ 5000 0 0) 5000 1 1) 7000 R B) 7000 25 1 q = u2 (u2 τ 5000 0 0) 5000 1 1 q := fun q hq => by rw [u2_ne (by omega), fr_Kinit (by omega)]
        have k2 : ∀ q, q ≠ 5000 → u2 (u2 τ 5000 0 0) 5000 1 1 q = τ q := fun q hq => by rw [u2_ne hq, u2_ne hq]
        obtain ⟨h1, h2, h3, h4, h5⟩ := h
        refine ⟨fun j hj => ?_, fun j hj => ?_, ?_, fun _ r hr => ?_, fun j k2 hj hk => ?_⟩
        · rw [k _ (by omega), k2 _ (by omega)]
          exact h1 j hj
        · rw [k _ (by omega), k2 _ (by omega)]
          exact h2 j hj
        · rw [k _ (by omega), u2_oi (by decide), u2_oi (by decide)]
          exact h3
        · rw [u2_ne (by omega)]
          refine Kinit_price (b := 7000) (fun j hj => ?_) hR5 hB6 hr
          rw [k2 _ (by omega)]
          exact h1 j hj
        · rw [k _ (by omega), u2_ne (by omega), u2_ne (by omega)]
          exact h5 j k2 hj hk
  · exact h.s00
theorem JP.cinit (h : JP τ) : JP (u2 (g_Cinit τ R B pk gr cd) 9000 20 0) := h.hi fun q hq => by rw [u2_ne (by omega), fr_Cinit (by omega)]
theorem JP.packs {x y : Int32} (h : JP τ) : JP (g_Mpacks τ x y R C rg) := by
  unfold g_Mpacks
  split
  · split
    · rename_i hy
      exact h.s0.hi fun q hq => by rw [u2_ne (by omega), fr_Mcp ⟨by omega, cn6 hy⟩, uR_ne (by omega)]
    · exact h.s0
  · exact h.s0
theorem JP.clear {x : Int32} (h : JP τ) : JP (g_Mclear τ x R C rg) := by
  unfold g_Mclear
  split
  · rename_i hy
    exact h.s0.hi fun q hq => fr_MclearNow ⟨by omega, cn6 hy⟩
  · exact h.s00
end
end
section
/-! ===== pure facts: winners and worths on the reference's side ===== -/
theorem i32_add {a b : Int32} (h1 : -2000000000 ≤ a.toInt + b.toInt) (h2 : a.toInt + b.toInt ≤ 2000000000) : (a + b).toInt = a.toInt + b.toInt := by
  rw [Int32.toInt_add]
  exact Int.bmod_eq_of_le (by omega) (by omega)
theorem i32_sub {a b : Int32} (h1 : -2000000000 ≤ a.toInt - b.toInt) (h2 : a.toInt - b.toInt ≤ 2000000000) : (a - b).toInt = a.toInt - b.toInt := by
  rw [Int32.toInt_sub]
  exact Int.bmod_eq_of_le (by omega) (by omega)
/-- what a pick is worth, and what picks are worth together -/
def pv (s : XS9) (row : Nat → Int32) (j : Nat) : Int32 := if row j = -1 then 0 else s (5030 + j) (2 * cn (row j) + 1)
def psum (s : XS9) (row : Nat → Int32) : Nat → Int
  | 0 => 0
  | n + 1 => psum s row n + (pv s row n).toInt
def pval (pk : Nat → Nat) (row : Nat → Int32) (n : Nat) : Prop := ∀ j, j < n → row j = -1 ∨ ∃ k, k < pk j ∧ row j = nI k
/-- amounts are small -/
def AMs (s : XS9) : Prop := ∀ j k, j < 6 → k < 6 → bd 300000 (s (5030 + j) (2 * k + 1))
theorem bd.int {m : Nat} {v : Int32} (h : bd m v) (hm : m < 2147483648) : 0 ≤ v.toInt ∧ v.toInt ≤ m := by
  have h2 := h.2
  rw [h.1, toI_nI (by omega)]
  omega
section
variable {s τ : XS9} {row row' : Nat → Int32} {pk : Nat → Nat} {B n j : Nat}
theorem pv_int (ha : AMs s) (hpk : ∀ j, j < B → pk j ≤ 6) (hB6 : B ≤ 6) (h : pval pk row n) (hn : n ≤ B) (hj : j < n) : 0 ≤ (pv s row j).toInt ∧ (pv s row j).toInt ≤ 300000 := by
  unfold pv
  split
  · decide
  · rename_i hne
    rcases h j hj with e | ⟨k, hk, e⟩
    · exact absurd e hne
    · have := hpk j (by omega)
      rw [e, cn_nI (by omega)]
      exact (ha j k (by omega) (by omega)).int (by decide)
theorem psum_int (ha : AMs s) (hpk : ∀ j, j < B → pk j ≤ 6) (hB6 : B ≤ 6) (h : pval pk row n) (hn : n ≤ B) : ∀ m, m ≤ n → 0 ≤ psum s row m ∧ psum s row m ≤ 300000 * m
  | 0, _ => by
    show (0 : Int) ≤ 0 ∧ (0 : Int) ≤ 300000 * ((0 : Nat) : Int)
    omega
  | m + 1, hm => by
    obtain ⟨h1, h2⟩ := psum_int ha hpk hB6 h hn m (by omega)
    obtain ⟨h3, h4⟩ := pv_int ha hpk hB6 h hn (j := m) (by omega)
    show 0 ≤ psum s row m + (pv s row m).toInt ∧ psum s row m + (pv s row m).toInt ≤ 300000 * ((m + 1 : Nat) : Int)
    omega
theorem pv_cg (e : row' j = row j) (er : s (5030 + j) = τ (5030 + j)) : pv s row' j = pv τ row j := by
  unfold pv
  rw [e, er]
theorem psum_cg : ∀ n, (∀ j, j < n → row' j = row j ∧ s (5030 + j) = τ (5030 + j)) → psum s row' n = psum τ row n
  | 0, _ => rfl
  | n + 1, h => by
    show psum s row' n + (pv s row' n).toInt = psum τ row n + (pv τ row n).toInt
    rw [psum_cg n (fun j hj => h j (by omega)), pv_cg (h n (by omega)).1 (h n (by omega)).2]
theorem pval.cg (h : pval pk row n) (e : ∀ j, j < n → row' j = row j) : pval pk row' n := fun j hj => by rw [e j hj]; exact h j hj
end
/-- what holds of the search while it runs: rows under 9000 are as in t -/
def GI (t : XS9) (B : Nat) (pk : Nat → Nat) (s : XS9) : Prop := (∀ q, q < 9000 → s q = t q) ∧ (∀ S, S < 64 → 0 ≤ (s 9003 S).toInt ∧ ((s 9003 S).toInt ≤ (s 9000 5).toInt ∨ (s 9003 S).toInt = 0)) ∧ ((s 9000 5).toInt = -1 ∨ (0 ≤ (s 9000 5).toInt ∧ pval pk (s 9001) B ∧ psum t (s 9001) B = (s 9000 5).toInt))
section
variable {t s s2 : XS9} {B : Nat} {pk gr : Nat → Nat} {cd : Nat → Nat → Nat}
theorem GI.of (h : GI t B pk s) (e : ∀ q, (q < 9002 ∨ q = 9003) → s2 q = s q) : GI t B pk s2 := by
  obtain ⟨h1, h2, h3⟩ := h
  refine ⟨fun q hq => by rw [e q (by omega)]; exact h1 q hq, fun S hS => ?_, ?_⟩
  · rw [e 9003 (by omega), e 9000 (by omega)]
    exact h2 S hS
  · rw [e 9001 (by omega), e 9000 (by omega)]
    exact h3
theorem i_ltI {a b : Int32} : a < b ↔ a.toInt < b.toInt := Int32.lt_iff_toInt_lt
theorem GI.base (h : GI t B pk s) (ha : AMs t) (hpk : ∀ j, j < B → pk j ≤ 6) (hB6 : B ≤ 6) {S : Nat} {x : Int32} (hv : pval pk (s 9002) B) (hx : psum t (s 9002) B = x.toInt) : GI t B pk (g_CpickBase s S x B) ∧ 0 ≤ (g_CpickBase s S x B 9000 5).toInt ∧ g_CpickBase s S x B 9002 = s 9002 := by
  obtain ⟨h1, h2, h3⟩ := h
  obtain ⟨x1, x2⟩ := psum_int ha hpk hB6 hv (Nat.le_refl B) B (Nat.le_refl B)
  rw [hx] at x1 x2
  unfold g_CpickBase
  split
  · rename_i hm
    have hm := i_ltI.mp hm
    have fr : ∀ q, q ≠ 9001 → x_CpickBase_62 s S x B (uR (u2 (u2 s 9003 S (if s 9003 S < x then x else s 9003 S)) 9000 5 x) 9001 (va_cpy (s 9002) (s 9001) 0 0 6)) q = u2 (u2 s 9003 S (if s 9003 S < x then x else s 9003 S)) 9000 5 x q := fun q hq => by
      unfold x_CpickBase_62
      refine (xit_keep (fun s : XS9 => s q) (fun i s => ?_) _ _ _).trans ?_
      · (try dsimp only)
        rw [u2_ne hq]
      · (try dsimp only)
        rw [uR_ne hq]
    have row : ∀ j, j < B → x_CpickBase_62 s S x B (uR (u2 (u2 s 9003 S (if s 9003 S < x then x else s 9003 S)) 9000 5 x) 9001 (va_cpy (s 9002) (s 9001) 0 0 6)) 9001 j = s 9002 j := fun j hj => by
      unfold x_CpickBase_62
      refine (xit_keep (fun s : XS9 => s 9001 j) (fun i s => ?_) _ _ _).trans ?_
      · (try dsimp only)
        rw [u2_oi (by omega)]
      · (try dsimp only)
        rw [uR_eq, cpy_lo (by omega)]
    refine ⟨⟨fun q hq => ?_, fun S2 hS2 => ?_, .inr ⟨?_, ?_, ?_⟩⟩, ?_, ?_⟩
    · rw [fr q (by omega), u2_ne (by omega), u2_ne (by omega)]
      exact h1 q hq
    · rw [fr 9003 (by decide), fr 9000 (by decide), u2_at, u2_ne (by decide)]
      by_cases e : S2 = S
      · subst e
        rw [u2_at]
        have h2 := h2 S2 hS2
        split
        · exact ⟨x1, .inl (Int.le_refl _)⟩
        · rename_i hn
          have hn := fun q => hn (i_ltI.mpr q)
          exact ⟨h2.1, .inl (by omega)⟩
      · rw [u2_oi e]
        have h2 := h2 S2 hS2
        exact ⟨h2.1, .inl (by omega)⟩
    · rw [fr 9000 (by decide), u2_at]
      exact x1
    · exact hv.cg row
    · rw [fr 9000 (by decide), u2_at, ← hx]
      exact psum_cg B fun j hj => ⟨row j hj, rfl⟩
    · rw [fr 9000 (by decide), u2_at]
      exact x1
    · rw [fr 9002 (by decide), u2_ne (by decide), u2_ne (by decide)]
  · rename_i hm
    have hm : ¬ (s 9000 5).toInt < x.toInt := fun q => hm (i_ltI.mpr q)
    refine ⟨⟨fun q hq => ?_, fun S2 hS2 => ?_, ?_⟩, ?_, ?_⟩
    · rw [u2_ne (by omega)]
      exact h1 q hq
    · rw [u2_ne (show (9000 : Nat) ≠ 9003 by decide)]
      by_cases e : S2 = S
      · subst e
        rw [u2_at]
        split
        · exact ⟨x1, .inl (by omega)⟩
        · exact h2 S2 hS2
      · rw [u2_oi e]
        exact h2 S2 hS2
    · rw [u2_ne (show (9000 : Nat) ≠ 9003 by decide), u2_ne (show (9001 : Nat) ≠ 9003 by decide)]
      exact h3
    · rw [u2_ne (by decide)]
      omega
    · rw [u2_ne (by decide)]
theorem pick_ok (ha : AMs t) (hpk : ∀ j, j < B → pk j ≤ 6) (hB6 : B ≤ 6) : ∀ (f i : Nat), i + f = B → ∀ (s : XS9) (S : Nat) (x : Int32), GI t B pk s → pval pk (s 9002) i → psum t (s 9002) i = x.toInt → GI t B pk (g_Cpick B pk gr cd f i s S x) ∧ 0 ≤ (g_Cpick B pk gr cd f i s S x 9000 5).toInt ∧ ∀ j, j < i → g_Cpick B pk gr cd f i s S x 9002 j = s 9002 j
  | 0, i, e, s, S, x, h, hv, hx => by
    obtain rfl : i = B := by omega
    obtain ⟨a, b, c⟩ := h.base ha hpk hB6 (S := S) hv hx
    exact ⟨a, b, fun j hj => congrFun c j⟩
  | f + 1, i, e, s, S, x, h, hv, hx => by
    have hiB : i < B := by omega
    have rc9 := pick_ok ha hpk hB6 f (i + 1) (by omega)
    have rel : ∀ {s2 : XS9} {v : Int32}, GI t B pk s2 → (∀ j, j < i → s2 9002 j = s 9002 j) → (v = -1 ∨ ∃ k, k < pk i ∧ v = nI k) → ∀ {y : Int32} {S2 : Nat}, y.toInt = x.toInt + (pv t (u2 s2 9002 i v 9002) i).toInt → GI t B pk (g_Cpick B pk gr cd f (i + 1) (u2 s2 9002 i v) S2 y) ∧ 0 ≤ (g_Cpick B pk gr cd f (i + 1) (u2 s2 9002 i v) S2 y 9000 5).toInt ∧ ∀ j, j < i → g_Cpick B pk gr cd f (i + 1) (u2 s2 9002 i v) S2 y 9002 j = s 9002 j := fun {s2 v} hg hr hv2 {y S2} hy => by
      have lo : ∀ j, j < i → u2 s2 9002 i v 9002 j = s 9002 j := fun j hj => by rw [u2_oi (by omega)]; exact hr j hj
      obtain ⟨a, b, c⟩ := rc9 (u2 s2 9002 i v) S2 y (hg.of fun q hq => u2_ne (by omega)) (fun j hj => by
        rcases Nat.lt_or_ge j i with q | q
        · rw [lo j q]
          exact hv j q
        · obtain rfl : j = i := by omega
          rw [u2_at]
          exact hv2) (by
        show psum t (u2 s2 9002 i v 9002) i + (pv t (u2 s2 9002 i v 9002) i).toInt = y.toInt
        rw [hy, ← hx, psum_cg (s := t) (τ := t) i (fun j hj => ⟨lo j hj, rfl⟩)])
      exact ⟨a, b, fun j hj => (c j (by omega)).trans (lo j hj)⟩
    show GI t B pk (g_CpickStep s (fun σ S x => g_Cpick B pk gr cd f (i + 1) σ S x) i S x B pk gr cd) ∧ _
    have n1 : pv t (u2 s 9002 i (-1) 9002) i = 0 := by
      unfold pv
      rw [u2_at, if_pos rfl]
    have r1 := rel (s2 := s) (v := -1) h (fun _ _ => rfl) (.inl rfl) (y := x) (S2 := S) (by rw [n1]; show x.toInt = x.toInt + 0; omega)
    show GI t B pk (x_CpickStep_119 s (fun σ S x => g_Cpick B pk gr cd f (i + 1) σ S x) i S x B pk gr cd (g_Cpick B pk gr cd f (i + 1) (u2 s 9002 i (-1)) S x)) ∧ 0 ≤ (x_CpickStep_119 s (fun σ S x => g_Cpick B pk gr cd f (i + 1) σ S x) i S x B pk gr cd (g_Cpick B pk gr cd f (i + 1) (u2 s 9002 i (-1)) S x) 9000 5).toInt ∧ ∀ j, j < i → x_CpickStep_119 s (fun σ S x => g_Cpick B pk gr cd f (i + 1) σ S x) i S x B pk gr cd (g_Cpick B pk gr cd f (i + 1) (u2 s 9002 i (-1)) S x) 9002 j = s 9002 j
    generalize g_Cpick B pk gr cd f (i + 1) (u2 s 9002 i (-1)) S x = s1 at r1 ⊢
    unfold x_CpickStep_119
    refine xitB_all (fun s2 : XS9 => GI t B pk s2 ∧ 0 ≤ (s2 9000 5).toInt ∧ ∀ j, j < i → s2 9002 j = s 9002 j) (N := pk i) (fun k s2 s3 hk hP => ?_) (pk i) 0 _ (Nat.zero_add _) r1
    (try dsimp only)
    split
    · split
      · intro q
        rcases q with q | q
        · rw [← Sum.inl.inj q]
          exact hP
        · cases q
      · intro q
        rcases q with q | q
        · rw [← Sum.inl.inj q]
          have T : ∀ (s4 : XS9) (c : Nat) (x4 : Int32) (q4 : Nat), (q4 ≠ 9004 ∧ q4 ≠ 9005) → g_Ctake s4 i c x4 (gr i) q4 = s4 q4 := fun s4 c x4 q4 hq4 => fr_Ctake hq4
          have k6 := hpk i hiB
          have am := ha i k (by omega) (by omega)
          have am2 := am.int (by decide)
          obtain ⟨p1, p2⟩ := psum_int ha hpk hB6 hv (by omega) i (Nat.le_refl i)
          rw [hx] at p1 p2
          have gt : GI t B pk (g_Ctake s2 i (cd i k) 1 (gr i)) := hP.1.of fun q hq => T _ _ _ _ (by omega)
          have ev : f_Bamount (u2 (g_Ctake s2 i (cd i k) 1 (gr i)) 9002 i (nI k)) i k = t (5030 + i) (2 * k + 1) := by
            unfold f_Bamount
            rw [u2_ne (by omega), T _ _ _ _ (by omega), hP.1.1 _ (by omega)]
          have pe : pv t (u2 (g_Ctake s2 i (cd i k) 1 (gr i)) 9002 i (nI k) 9002) i = t (5030 + i) (2 * k + 1) := by
            unfold pv
            rw [u2_at, cn_nI (by omega), if_neg]
            intro e9
            have := congrArg Int32.toInt e9
            rw [toI_nI (by omega)] at this
            have e2 : (-1 : Int32).toInt = -1 := by decide
            omega
          rw [ev]
          have hy : (x + t (5030 + i) (2 * k + 1)).toInt = x.toInt + (t (5030 + i) (2 * k + 1)).toInt := i32_add (by omega) (by omega)
          obtain ⟨a, b, c⟩ := rel (s2 := g_Ctake s2 i (cd i k) 1 (gr i)) (v := nI k) gt (fun j hj => by rw [T _ _ _ _ (by omega)]; exact hP.2.2 j hj) (.inr ⟨k, hk, rfl⟩) (y := x + t (5030 + i) (2 * k + 1)) (S2 := S ||| 2 ^ i) (by rw [pe]; exact hy)
          refine ⟨a.of fun q hq => T _ _ _ _ (by omega), ?_, fun j hj => ?_⟩
          · rw [T _ _ _ _ (by omega)]
            exact b
          · rw [T _ _ _ _ (by omega)]
            exact c j hj
        · cases q
    · intro q
      rcases q with q | q
      · cases q
      · rw [← Sum.inr.inj q]
        exact hP
end
/-- what holds of a Choice that is made -/
def CHO (B : Nat) (pk : Nat → Nat) (s : XS9) : Prop := ∃ m : Int, m ≤ 1800000 ∧ (∀ S, S < 64 → 0 ≤ (s 9003 S).toInt ∧ (s 9003 S).toInt ≤ m) ∧ pval pk (s 9001) B ∧ psum s (s 9001) B = m
theorem CHO.of {B : Nat} {pk : Nat → Nat} {s s2 : XS9} (h : CHO B pk s) (hB6 : B ≤ 6) (e : ∀ q, (q = 9001 ∨ q = 9003 ∨ (5030 ≤ q ∧ q < 5036)) → s2 q = s q) : CHO B pk s2 := by
  obtain ⟨m, h1, h2, h3, h4⟩ := h
  refine ⟨m, h1, fun S hS => ?_, ?_, ?_⟩
  · rw [e 9003 (by omega)]
    exact h2 S hS
  · rw [e 9001 (by omega)]
    exact h3
  · rw [← h4]
    exact psum_cg B fun j hj => ⟨by rw [e 9001 (by omega)], e _ (by omega)⟩
theorem CHO.init {t : XS9} {R B : Nat} {pk gr : Nat → Nat} {cd : Nat → Nat → Nat} (ha : AMs t) (hpk : ∀ j, j < B → pk j ≤ 6) (hB6 : B ≤ 6) : CHO B pk (g_Cinit t R B pk gr cd) := by
  have c0 : ∀ q, (q = 9001 ∨ q = 9002 ∨ q = 9003) → ∀ i, g_cho0 t q i = 0 := fun q hq i => by
    unfold g_cho0
    rw [if_neg (by omega), if_pos (by omega)]
  unfold g_Cinit
  split
  · unfold g_CinitB
    have e1 : ∀ j, j < 6 → x_CinitB_109 t (x_CinitB_55 t R (u2 (g_cho0 t) 9000 5 (-1))) 9001 j = -1 := fun j hj => by
      have H : ∀ (f i : Nat) (s : XS9), (j < i → s 9001 j = -1) → (j < i + f) → xit (fun i109 (s109 : XS9) => u2 s109 9001 i109 (-1)) f i s 9001 j = -1 := by
        intro f
        induction f with
        | zero => exact fun i s h1 h2 => h1 (by omega)
        | succ f ih =>
          intro i s h1 h2
          refine ih (i + 1) _ (fun h3 => ?_) (by omega)
          by_cases e : j = i
          · subst e
            exact u2_at
          · show u2 s 9001 i (-1) 9001 j = -1
            rw [u2_oi e]
            exact h1 (by omega)
      exact H 6 0 _ (by omega) (by omega)
    have e3 : ∀ S, x_CinitB_109 t (x_CinitB_55 t R (u2 (g_cho0 t) 9000 5 (-1))) 9003 S = 0 := fun S => by
      rw [show x_CinitB_109 t (x_CinitB_55 t R (u2 (g_cho0 t) 9000 5 (-1))) 9003 = x_CinitB_55 t R (u2 (g_cho0 t) 9000 5 (-1)) 9003 from xit_keep (fun s : XS9 => s 9003) (fun i s => by (try dsimp only); rw [u2_ne (by decide)]) _ _ _, show x_CinitB_55 t R (u2 (g_cho0 t) 9000 5 (-1)) 9003 = u2 (g_cho0 t) 9000 5 (-1) 9003 from xit_keep (fun s : XS9 => s 9003) (fun i s => by (try dsimp only); rw [u2_ne (by decide)]) _ _ _, u2_ne (by decide)]
      exact c0 9003 (by omega) S
    generalize x_CinitB_109 t (x_CinitB_55 t R (u2 (g_cho0 t) 9000 5 (-1))) = s0 at e1 e3
    have k : ∀ q, q ≠ 9003 → x_CinitB_138 t s0 q = s0 q := fun q hq => xit_keep (fun s : XS9 => s q) (fun i s => by (try dsimp only); exact fx_CinitB_149 hq) _ _ _
    have e4 : ∀ S, x_CinitB_138 t s0 9003 S = 0 := by
      unfold x_CinitB_138
      refine xit_inv (fun s : XS9 => ∀ S, s 9003 S = 0) (N := 64) (fun i s hi hP => ?_) 64 0 _ rfl e3
      unfold x_CinitB_149
      refine xit_inv (fun s : XS9 => ∀ S, s 9003 S = 0) (N := 6) (fun k s hk hP => ?_) 6 0 _ rfl hP
      (try dsimp only)
      split
      · intro S
        by_cases e : S = i
        · subst e
          rw [u2_at, hP, hP]
          rfl
        · rw [u2_oi e]
          exact hP S
      · exact hP
    refine ⟨0, by omega, fun S hS => by rw [e4]; decide, fun j hj => .inl (by rw [k _ (by decide)]; exact e1 j (by omega)), ?_⟩
    have z : ∀ n, n ≤ 6 → psum (x_CinitB_138 t s0) (x_CinitB_138 t s0 9001) n = 0 := by
      intro n
      induction n with
      | zero => exact fun _ => rfl
      | succ n ih =>
        intro hn
        show psum _ _ n + (pv (x_CinitB_138 t s0) (x_CinitB_138 t s0 9001) n).toInt = 0
        rw [ih (by omega)]
        unfold pv
        rw [k _ (by decide), e1 n (by omega), if_pos rfl]
        decide
    exact z B hB6
  · unfold g_CinitA
    have f5 : ∀ q, q ≠ 9004 → x_CinitA_55 t R (u2 (g_cho0 t) 9000 5 (-1)) q = u2 (g_cho0 t) 9000 5 (-1) q := fun q hq => xit_keep (fun s : XS9 => s q) (fun i s => by (try dsimp only); rw [u2_ne hq]) _ _ _
    have G0 : GI t B pk (x_CinitA_55 t R (u2 (g_cho0 t) 9000 5 (-1))) := by
      refine ⟨fun q hq => ?_, fun S hS => ?_, .inl ?_⟩
      · rw [f5 q (by omega), u2_ne (by omega), fr_cho0 (by omega)]
      · rw [f5 9003 (by omega), u2_ne (by omega), c0 9003 (by omega)]
        exact ⟨by decide, .inr (by decide)⟩
      · rw [f5 9000 (by omega), u2_at]
        decide
    obtain ⟨a, b, -⟩ := pick_ok (gr := gr) (cd := cd) ha hpk hB6 B 0 (Nat.zero_add _) _ 0 0 G0 (fun j hj => absurd hj (by omega)) (by show (0 : Int) = (0 : Int32).toInt; decide)
    generalize g_Cpick B pk gr cd B 0 (x_CinitA_55 t R (u2 (g_cho0 t) 9000 5 (-1))) 0 0 = s0 at a b
    have k : ∀ q, q ≠ 9003 → x_CinitA_138 t s0 q = s0 q := fun q hq => xit_keep (fun s : XS9 => s q) (fun i s => by (try dsimp only); exact fx_CinitA_149 hq) _ _ _
    obtain ⟨a1, a2, a3⟩ := a
    obtain ⟨a4, a5, a6⟩ := a3.resolve_left (by omega)
    have W : ∀ S, S < 64 → 0 ≤ (x_CinitA_138 t s0 9003 S).toInt ∧ (x_CinitA_138 t s0 9003 S).toInt ≤ (s0 9000 5).toInt := by
      unfold x_CinitA_138
      refine xit_inv (fun s : XS9 => ∀ S, S < 64 → 0 ≤ (s 9003 S).toInt ∧ (s 9003 S).toInt ≤ (s0 9000 5).toInt) (N := 64) (fun i s hi hP => ?_) 64 0 _ rfl (fun S hS => by have := a2 S hS; omega)
      unfold x_CinitA_149
      refine xit_inv (fun s : XS9 => ∀ S, S < 64 → 0 ≤ (s 9003 S).toInt ∧ (s 9003 S).toInt ≤ (s0 9000 5).toInt) (N := 6) (fun k s hk hP => ?_) 6 0 _ rfl hP
      (try dsimp only)
      split
      · intro S hS
        by_cases e : S = i
        · subst e
          rw [u2_at]
          split
          · exact hP _ (bclr_lt hS)
          · exact hP _ hS
        · rw [u2_oi e]
          exact hP S hS
      · exact hP
    refine ⟨(s0 9000 5).toInt, ?_, W, ?_, ?_⟩
    · have := psum_int ha hpk hB6 a5 (Nat.le_refl B) B (Nat.le_refl B)
      rw [a6] at this
      omega
    · rw [k 9001 (by decide)]
      exact a5
    · rw [← a6]
      exact psum_cg B fun j hj => ⟨by rw [k 9001 (by decide)], by rw [k _ (by omega), a1 _ (by omega)]⟩
theorem CHO.pi {B : Nat} {pk : Nat → Nat} {s : XS9} (h : CHO B pk s) : ∀ j, j < B → s 9001 j = -1 ∨ ∃ n, n < pk j ∧ s 9001 j = nI n := by
  obtain ⟨m, h1, h2, h3, h4⟩ := h
  exact h3
end
section
/-! ===== pure facts: the payments come to an end ===== -/
theorem xitB_fin {S : Type} {step : Nat → S → S ⊕ S} (P : Nat → S → Prop) (Q : S → Prop) {N : Nat} (h : ∀ i s, i < N → P i s → (∀ s', step i s = .inl s' → P (i + 1) s') ∧ ∀ s', step i s = .inr s' → Q s') (he : ∀ s, P N s → Q s) : ∀ (f i : Nat) (s : S), i + f = N → P i s → Q (xitB step f i s)
  | 0, i, s, e, hP => he s (by rw [show N = i by omega]; exact hP)
  | f + 1, i, s, e, hP => by
    unfold xitB
    split
    · rename_i s' e'
      exact xitB_fin P Q h he f (i + 1) s' (by omega) ((h i s (by omega) hP).1 s' e')
    · rename_i s' e'
      exact (h i s (by omega) hP).2 s' e'
theorem xitR_term {S R : Type} {step : Nat → S → S ⊕ R} (P : S → Prop) (M : S → Nat) (h : ∀ i s s', P s → step i s = .inl s' → P s' ∧ M s' < M s) : ∀ (f i : Nat) (s : S), P s → M s < f → ∃ r, xitR step f i s = .inr r
  | 0, i, s, hP, hM => absurd hM (Nat.not_lt_zero _)
  | f + 1, i, s, hP, hM => by
    unfold xitR
    split
    · rename_i s' e'
      obtain ⟨h1, h2⟩ := h i s s' hP e'
      exact xitR_term P M h f (i + 1) s' h1 (by omega)
    · rename_i r e'
      exact ⟨r, rfl⟩
def isum (T : Nat → Int) : Nat → Nat → Int
  | 0, _ => 0
  | f + 1, i => T i + isum T f (i + 1)
theorem isum_back {T : Nat → Int} : ∀ f i, isum T (f + 1) i = isum T f i + T (i + f)
  | 0, i => by
    show T i + 0 = 0 + T (i + 0)
    rw [Nat.add_zero]
    omega
  | f + 1, i => by
    show T i + isum T (f + 1) (i + 1) = (T i + isum T f (i + 1)) + T (i + (f + 1))
    rw [isum_back f (i + 1), show i + 1 + f = i + (f + 1) by omega]
    omega
theorem isum_le {T U : Nat → Int} : ∀ f i, (∀ k, i ≤ k → k < i + f → T k ≤ U k) → isum T f i ≤ isum U f i
  | 0, _, _ => Int.le_refl _
  | f + 1, i, h => by
    have h1 := isum_le f (i + 1) (fun k a b => h k (by omega) (by omega))
    have h2 := h i (by omega) (by omega)
    show T i + isum T f (i + 1) ≤ U i + isum U f (i + 1)
    omega
theorem isum_const {c : Int} : ∀ f i, isum (fun _ => c) f i = c * f
  | 0, _ => by
    show (0 : Int) = c * ((0 : Nat) : Int)
    simp
  | f + 1, i => by
    show c + isum (fun _ => c) f (i + 1) = c * ((f + 1 : Nat) : Int)
    rw [isum_const f (i + 1), Int.natCast_add, Int.mul_add]
    have : c * ((1 : Nat) : Int) = c := by simp
    omega
theorem isum_cg {T U : Nat → Int} : ∀ f i, (∀ k, i ≤ k → k < i + f → T k = U k) → isum T f i = isum U f i
  | 0, _, _ => rfl
  | f + 1, i, h => by
    show T i + isum T f (i + 1) = U i + isum U f (i + 1)
    rw [h i (by omega) (by omega), isum_cg f (i + 1) (fun k a b => h k (by omega) (by omega))]
theorem isum_dec {T U : Nat → Int} {j : Nat} (hj : U j + 1 ≤ T j) : ∀ f i, i ≤ j → j < i + f → (∀ k, i ≤ k → k < i + f → U k ≤ T k) → isum U f i + 1 ≤ isum T f i
  | 0, i, h1, h2, h => absurd h2 (by omega)
  | f + 1, i, h1, h2, h => by
    show (U i + isum U f (i + 1)) + 1 ≤ T i + isum T f (i + 1)
    by_cases e : i = j
    · subst e
      have := isum_le f (i + 1) (fun k a b => h k (by omega) (by omega))
      omega
    · have := isum_dec hj f (i + 1) (by omega) (by omega) (fun k a b => h k (by omega) (by omega))
      have h3 := h i (by omega) (by omega)
      omega
theorem psum_is {s : XS9} {row : Nat → Int32} : ∀ n, psum s row n = isum (fun j => (pv s row j).toInt) n 0
  | 0 => rfl
  | n + 1 => by
    rw [isum_back n 0, Nat.zero_add]
    show psum s row n + (pv s row n).toInt = _
    rw [psum_is n]
theorem xit_sub {step : Nat → Int32 → Int32} {t : Nat → Int32} (hs : ∀ i a, step i a = a - t i) (f : Nat) : ∀ (i : Nat) (a : Int32), (∀ k, i ≤ k → k < i + f → -3000000 ≤ (t k).toInt ∧ (t k).toInt ≤ 3000000) → f ≤ 6 → -20000000 + 3000000 * (f : Int) ≤ a.toInt → a.toInt ≤ 20000000 - 3000000 * (f : Int) → (xit step f i a).toInt = a.toInt - isum (fun k => (t k).toInt) f i := by
  induction f with
  | zero =>
    intro i a h hf h1 h2
    exact (Int.sub_zero a.toInt).symm
  | succ f ih =>
    intro i a h hf h1 h2
    have b := h i (by omega) (by omega)
    have e : (a - t i).toInt = a.toInt - (t i).toInt := i32_sub (by omega) (by omega)
    show (xit step f (i + 1) (step i a)).toInt = a.toInt - ((t i).toInt + isum (fun k => (t k).toInt) f (i + 1))
    rw [hs, ih (i + 1) (a - t i) (fun k x y => h k (by omega) (by omega)) (by omega) (by rw [e]; omega) (by rw [e]; omega), e]
    omega
/-- what is left to pay of an amount -/
def pleft (s : XS9) (qa j : Nat) : Int := if s 9001 j = -1 then 0 else if (s qa j).toInt < (f_Camount s j).toInt then (f_Camount s j).toInt - (s qa j).toInt else 0
def PYI (s0 : XS9) (B qa : Nat) (s : XS9) : Prop := (∀ q, q ≠ qa → s q = s0 q) ∧ ∀ j, j < B → -2000000 ≤ (s qa j).toInt ∧ (s qa j).toInt ≤ 2200000
def PYM (B qa : Nat) (s : XS9) : Int := isum (pleft s qa) B 0
section
variable {s0 s : XS9} {B qa S : Nat} {pk : Nat → Nat}
theorem cam_eq {j : Nat} : f_Camount s j = pv s (s 9001) j := rfl
theorem CHO.am (h : CHO B pk s) (ha : AMs s) (hpk : ∀ j, j < B → pk j ≤ 6) (hB6 : B ≤ 6) {j : Nat} (hj : j < B) : 0 ≤ (f_Camount s j).toInt ∧ (f_Camount s j).toInt ≤ 300000 := by
  obtain ⟨m, h1, h2, h3, h4⟩ := h
  rw [cam_eq]
  exact pv_int ha hpk hB6 h3 (Nat.le_refl B) hj
theorem pleft_0 {j : Nat} : 0 ≤ pleft s qa j := by
  unfold pleft
  split
  · exact Int.le_refl _
  · split <;> omega
theorem PYM_0 : 0 ≤ PYM B qa s := by
  have := isum_le (T := fun _ => 0) (U := pleft s qa) B 0 (fun k _ _ => pleft_0)
  rw [isum_const] at this
  unfold PYM
  omega
/-- one who could pay more -/
def elig (s : XS9) (S qa j : Nat) : Prop := ¬ (((nI S) >>> ((nI j) &&& 31)) &&& 1) = 1 ∧ ¬ s 9001 j = -1 ∧ s qa j < f_Camount s j
theorem PYI.some (hq : 20000 ≤ qa) (h : PYI s0 B qa s) (hc : CHO B pk s) (ha : AMs s) (hpk : ∀ j, j < B → pk j ≤ 6) (hB6 : B ≤ 6) (hS : S < 64) (ho : 0 < f_Cobjection s S qa B) : ∃ j, j < B ∧ elig s S qa j := by
  rcases Classical.em (∃ j, j < B ∧ elig s S qa j) with y | n
  · exact y
  · exfalso
    have n : ∀ j, j < B → ¬ elig s S qa j := fun j hj e => n ⟨j, hj, e⟩
    have am := fun j hj => hc.am ha hpk hB6 (j := j) hj
    obtain ⟨m, h1, h2, h3, h4⟩ := hc
    let t : Nat → Int32 := fun j => if (((nI S) >>> ((nI j) &&& 31)) &&& 1) = 1 then f_Camount s j else if s 9001 j = -1 then 0 else s qa j
    have tb : ∀ j, j < B → -3000000 ≤ (t j).toInt ∧ (t j).toInt ≤ 3000000 ∧ (f_Camount s j).toInt ≤ (t j).toInt := fun j hj => by
      have a := am j hj
      have p := h.2 j hj
      have nj := n j hj
      unfold elig at nj
      show -3000000 ≤ (if (((nI S) >>> ((nI j) &&& 31)) &&& 1) = 1 then f_Camount s j else if s 9001 j = -1 then 0 else s qa j).toInt ∧ (if (((nI S) >>> ((nI j) &&& 31)) &&& 1) = 1 then f_Camount s j else if s 9001 j = -1 then 0 else s qa j).toInt ≤ 3000000 ∧ (f_Camount s j).toInt ≤ (if (((nI S) >>> ((nI j) &&& 31)) &&& 1) = 1 then f_Camount s j else if s 9001 j = -1 then 0 else s qa j).toInt
      by_cases e1 : (((nI S) >>> ((nI j) &&& 31)) &&& 1) = 1
      · rw [if_pos e1]
        omega
      · rw [if_neg e1]
        by_cases e2 : s 9001 j = -1
        · have z : f_Camount s j = 0 := if_pos e2
          rw [if_pos e2, z]
          decide
        · rw [if_neg e2]
          have e3 : ¬ s qa j < f_Camount s j := fun q => nj ⟨e1, e2, q⟩
          rw [i_ltI] at e3
          omega
    have hw := h2 S hS
    have e : (f_Cobjection s S qa B).toInt = (s 9003 S).toInt - isum (fun k => (t k).toInt) B 0 := by
      unfold f_Cobjection x_Cobjection_9 f_Cworth
      refine xit_sub (t := t) (fun i a => ?_) B 0 (s 9003 S) (fun k _ hk => ⟨(tb k (by omega)).1, (tb k (by omega)).2.1⟩) hB6 (by omega) (by omega)
      show (if (((nI S) >>> ((nI i) &&& 31)) &&& 1) = 1 then a - (f_Camount s i) else (if (s 9001 i) = (-1) then a - 0 else a - (s qa i))) = a - (if (((nI S) >>> ((nI i) &&& 31)) &&& 1) = 1 then f_Camount s i else if s 9001 i = -1 then 0 else s qa i)
      split
      · rfl
      · split
        · rfl
        · rfl
    have l := isum_le (T := fun j => (pv s (s 9001) j).toInt) (U := fun k => (t k).toInt) B 0 (fun k _ hk => (tb k (by omega)).2.2)
    rw [← psum_is, h4] at l
    have ho := i_ltI.mp ho
    have z : (0 : Int32).toInt = 0 := by decide
    omega
theorem cam_up (hq : 20000 ≤ qa) {i j : Nat} {v : Int32} (hj : j < 6) : f_Camount (u2 s qa i v) j = f_Camount s j := by
  unfold f_Camount f_Bamount
  rw [u2_ne (show (9001 : Nat) ≠ qa by omega), u2_ne (show 5030 + j ≠ qa by omega)]
theorem PYI.up (hq : 20000 ≤ qa) (h : PYI s0 B qa s) (hB6 : B ≤ 6) (am : ∀ j, j < B → (f_Camount s j).toInt ≤ 300000) {i : Nat} (hi : i < B) (h2 : ¬ s 9001 i = -1) (h3 : s qa i < f_Camount s i) : PYI s0 B qa (u2 s qa i (s qa i + 1)) ∧ PYM B qa (u2 s qa i (s qa i + 1)) + 1 ≤ PYM B qa s := by
  have a := am i hi
  have p := h.2 i hi
  have h3 := i_ltI.mp h3
  have e1 : (s qa i + 1).toInt = (s qa i).toInt + 1 := i32_add (b := 1) (by show _ ≤ _ + (1 : Int); omega) (by show _ + (1 : Int) ≤ _; omega)
  refine ⟨⟨fun q hq9 => ?_, fun j hj => ?_⟩, ?_⟩
  · rw [u2_ne hq9]
    exact h.1 q hq9
  · by_cases e : j = i
    · subst e
      rw [u2_at, e1]
      omega
    · rw [u2_oi e]
      exact h.2 j hj
  · unfold PYM
    refine isum_dec (j := i) ?_ B 0 (Nat.zero_le _) (by omega) (fun k _ hk => ?_)
    · unfold pleft
      rw [cam_up hq (by omega), u2_ne (show (9001 : Nat) ≠ qa by omega), if_neg h2, if_neg h2, u2_at, e1, if_pos h3]
      split <;> omega
    · by_cases e : k = i
      · subst e
        unfold pleft
        rw [cam_up hq (by omega), u2_ne (show (9001 : Nat) ≠ qa by omega), if_neg h2, if_neg h2, u2_at, e1, if_pos h3]
        split <;> omega
      · unfold pleft
        rw [cam_up hq (by omega), u2_ne (show (9001 : Nat) ≠ qa by omega), u2_oi e]
        exact Int.le_refl _
/-- one pass of a raise -/
theorem PYI.pass (hq : 20000 ≤ qa) (hB6 : B ≤ 6) {σ : XS9} {x : Nat} {s6 : XS9 × Nat × Int32} {t0 : XS9 × Nat × Int32} (e9 : ∀ i, t0.1 9001 i = σ 9001 i) (am : ∀ j, j < B → (f_Camount t0.1 j).toInt ≤ 300000) (hl : t0.2.1 < 2147483648) (h : PYI s0 B qa t0.1) :
    PYI s0 B qa (x_Craise_22 σ S x qa B s6 t0).1 ∧ (PYM B qa (x_Craise_22 σ S x qa B s6 t0).1 + 1 ≤ PYM B qa t0.1 ∨ ((x_Craise_22 σ S x qa B s6 t0).1 = t0.1 ∧ (t0.2.1 = 0 ∨ ∀ j, j < B → ¬ elig t0.1 S qa j))) := by
  unfold x_Craise_22
  refine xitB_fin (fun i t => PYI s0 B qa t.1 ∧ (PYM B qa t.1 + 1 ≤ PYM B qa t0.1 ∨ (t.1 = t0.1 ∧ t.2.1 = t0.2.1 ∧ ∀ j, j < i → ¬ elig t0.1 S qa j))) (fun t => PYI s0 B qa t.1 ∧ (PYM B qa t.1 + 1 ≤ PYM B qa t0.1 ∨ (t.1 = t0.1 ∧ (t0.2.1 = 0 ∨ ∀ j, j < B → ¬ elig t0.1 S qa j)))) (N := B) (fun i t hi hP => ?_) (fun t hP => ?_) B 0 t0 (Nat.zero_add _) ⟨h, .inr ⟨rfl, rfl, fun j hj => absurd hj (by omega)⟩⟩
  · have cam : ∀ j, j < 6 → f_Camount t.1 j = f_Camount t0.1 j := fun j hj => by
      unfold f_Camount f_Bamount
      rw [hP.1.1 9001 (by omega), hP.1.1 (5030 + j) (by omega), h.1 9001 (by omega), h.1 (5030 + j) (by omega)]
    have e9t : t.1 9001 i = σ 9001 i := by rw [← e9, hP.1.1 9001 (by omega), h.1 9001 (by omega)]
    have go : (¬ elig t0.1 S qa i ∨ ¬ t.1 = t0.1) → (PYI s0 B qa t.1 ∧ (PYM B qa t.1 + 1 ≤ PYM B qa t0.1 ∨ (t.1 = t0.1 ∧ t.2.1 = t0.2.1 ∧ ∀ j, j < i + 1 → ¬ elig t0.1 S qa j))) := fun hn => by
      refine ⟨hP.1, ?_⟩
      rcases hP.2 with q | ⟨q1, q2, q3⟩
      · exact .inl q
      · refine .inr ⟨q1, q2, fun j hj => ?_⟩
        rcases Nat.lt_or_ge j i with l | l
        · exact q3 j l
        · obtain rfl : j = i := by omega
          exact hn.resolve_right (fun c => c q1)
    (try dsimp only)
    split
    · rename_i c0
      refine ⟨fun s' e => (by cases e), fun s' e => ?_⟩
      rw [← Sum.inr.inj e]
      refine ⟨hP.1, ?_⟩
      rcases hP.2 with q | ⟨q1, q2, q3⟩
      · exact .inl q
      · refine .inr ⟨q1, .inl ?_⟩
        rw [q2] at c0
        exact (nI_le0 hl).mp c0
    · split
      · rename_i c1
        refine ⟨fun s' e => ?_, fun s' e => (by cases e)⟩
        rw [← Sum.inl.inj e]
        exact go (.inl fun g => g.1 c1)
      · split
        · rename_i c2
          refine ⟨fun s' e => ?_, fun s' e => (by cases e)⟩
          rw [← Sum.inl.inj e]
          exact go (.inl fun g => g.2.1 ((e9 i).trans c2))
        · rename_i c2
          split
          · rename_i c3
            refine ⟨fun s' e => ?_, fun s' e => (by cases e)⟩
            rw [← Sum.inl.inj e]
            obtain ⟨u1, u3⟩ := hP.1.up hq hB6 (fun j hj => by rw [cam j (by omega)]; exact am j hj) hi (fun g => c2 (e9t.symm.trans g)) c3
            refine ⟨u1, .inl ?_⟩
            rcases hP.2 with q | ⟨q1, q2, q3⟩
            · show PYM B qa (u2 t.1 qa i (t.1 qa i + 1)) + 1 ≤ _
              omega
            · show PYM B qa (u2 t.1 qa i (t.1 qa i + 1)) + 1 ≤ _
              rw [← q1]
              exact u3
          · rename_i c3
            refine ⟨fun s' e => ?_, fun s' e => (by cases e)⟩
            rw [← Sum.inl.inj e]
            refine go ?_
            by_cases q : t.1 = t0.1
            · exact .inl fun g => c3 (by rw [q]; exact g.2.2)
            · exact .inr q
  · refine ⟨hP.1, ?_⟩
    rcases hP.2 with q | ⟨q1, q2, q3⟩
    · exact .inl q
    · exact .inr ⟨q1, .inr q3⟩
theorem PYI.raise (hq : 20000 ≤ qa) (hB6 : B ≤ 6) {x : Nat} (hx : x < 2147483648) (hx0 : 0 < x) (am : ∀ j, j < B → (f_Camount s j).toInt ≤ 300000) (h : PYI s0 B qa s) (he : ∃ j, j < B ∧ elig s S qa j) :
    PYI s0 B qa (g_Craise s S x qa B) ∧ PYM B qa (g_Craise s S x qa B) + 1 ≤ PYM B qa s := by
  unfold g_Craise x_Craise_6
  refine xitB_fin (fun i t => (i = 0 → t = (s, x, 1)) ∧ (0 < i → (PYI s0 B qa t.1 ∧ PYM B qa t.1 + 1 ≤ PYM B qa s) ∧ t.2.1 ≤ x)) (fun t => PYI s0 B qa t.1 ∧ PYM B qa t.1 + 1 ≤ PYM B qa s) (N := x + 1) (fun i t hi hP => ?_) (fun t hP => (hP.2 (by omega)).1) (x + 1) 0 (s, x, 1) (Nat.zero_add _) ⟨fun _ => rfl, fun q => absurd q (by omega)⟩
  have K : PYI s0 B qa t.1 ∧ t.2.1 ≤ x ∧ PYM B qa t.1 ≤ PYM B qa s := by
    rcases Nat.eq_zero_or_pos i with e | e
    · rw [hP.1 e]
      exact ⟨h, Nat.le_refl _, Int.le_refl _⟩
    · have := hP.2 e
      exact ⟨this.1.1, this.2, by omega⟩
  have e9 : ∀ i, t.1 9001 i = s 9001 i := fun i => by rw [K.1.1 9001 (by omega), h.1 9001 (by omega)]
  have cam : ∀ j, j < B → (f_Camount t.1 j).toInt ≤ 300000 := fun j hj => by
    have : f_Camount t.1 j = f_Camount s j := by
      unfold f_Camount f_Bamount
      rw [K.1.1 9001 (by omega), K.1.1 (5030 + j) (by omega), h.1 9001 (by omega), h.1 (5030 + j) (by omega)]
    rw [this]
    exact am j hj
  have ps := PYI.pass (S := S) (x := x) (s6 := t) (t0 := (t.1, t.2.1, 0)) hq hB6 e9 cam (by show t.2.1 < _; omega) K.1
  have pl : (x_Craise_22 s S x qa B t (t.1, t.2.1, 0)).2.1 ≤ t.2.1 := by
    unfold x_Craise_22
    refine xitB_all (fun u : XS9 × Nat × Int32 => u.2.1 ≤ t.2.1) (N := B) (fun k u u' hk hu => ?_) B 0 _ (Nat.zero_add _) (Nat.le_refl _)
    (try dsimp only)
    (repeat' split) <;> intro e <;> rcases e with e | e <;> first | (cases e; done) | (first | rw [← Sum.inl.inj e] | rw [← Sum.inr.inj e]) <;> (show _ ≤ t.2.1) <;> first | exact hu | (show u.2.1 - 1 ≤ _; omega)
  (try dsimp only)
  split
  · rename_i c0
    refine ⟨fun s' e => (by cases e), fun s' e => ?_⟩
    rw [← Sum.inr.inj e]
    rcases Nat.eq_zero_or_pos i with e1 | e1
    · rw [hP.1 e1] at c0
      exact absurd ((nI_le0 hx).mp c0) (by show ¬ x = 0; omega)
    · exact (hP.2 e1).1
  · split
    · rename_i c1
      refine ⟨fun s' e => (by cases e), fun s' e => ?_⟩
      rw [← Sum.inr.inj e]
      rcases Nat.eq_zero_or_pos i with e1 | e1
      · rw [hP.1 e1] at c1
        exact absurd c1 (by show ¬ (1 : Int32) = 0; decide)
      · exact (hP.2 e1).1
    · refine ⟨fun s' e => ?_, fun s' e => (by cases e)⟩
      rw [← Sum.inl.inj e]
      refine ⟨fun q => absurd q (by omega), fun _ => ⟨⟨ps.1, ?_⟩, Nat.le_trans pl K.2.1⟩⟩
      have l := K.2.2
      rcases ps.2 with q | ⟨q1, q2⟩
      · show PYM B qa (x_Craise_22 s S x qa B t (t.1, t.2.1, 0)).1 + 1 ≤ _
        have q : PYM B qa (x_Craise_22 s S x qa B t (t.1, t.2.1, 0)).1 + 1 ≤ PYM B qa t.1 := q
        omega
      · show PYM B qa (x_Craise_22 s S x qa B t (t.1, t.2.1, 0)).1 + 1 ≤ _
        rw [q1]
        show PYM B qa t.1 + 1 ≤ _
        rcases Nat.eq_zero_or_pos i with e1 | e1
        · exfalso
          rw [hP.1 e1] at q2
          obtain ⟨j, j1, j2⟩ := he
          rcases q2 with q2 | q2
          · have q2 : x = 0 := q2
            omega
          · exact q2 j j1 j2
        · exact (hP.2 e1).1.2
theorem best_lt (hB6 : B ≤ 6) : x_Cpay2_94 s qa B 0 < 64 := by
  have hp := pow_le6 hB6
  unfold x_Cpay2_94
  refine xit_inv (fun n : Nat => n < 64) (N := 2 ^ B - 1) (fun i n hi hn => ?_) (2 ^ B - 1) 0 0 (Nat.zero_add _) (by decide)
  (try dsimp only)
  split
  · exact hn
  · omega
theorem p2_term (hq : 20000 ≤ qa) (hB6 : B ≤ 6) (hc : CHO B pk s0) (ha : AMs s0) (hpk : ∀ j, j < B → pk j ≤ 6) (h : PYI s0 B qa s) : ∃ r, xitR (p2_step qa B) 20000000 0 s = .inr r := by
  have am := fun j (hj : j < B) => hc.am ha hpk hB6 hj
  have amt : ∀ t, PYI s0 B qa t → ∀ j, j < B → (f_Camount t j).toInt ≤ 300000 := fun t ht j hj => by
    have : f_Camount t j = f_Camount s0 j := by
      unfold f_Camount f_Bamount
      rw [ht.1 9001 (by omega), ht.1 (5030 + j) (by omega)]
    rw [this]
    exact (am j hj).2
  refine xitR_term (fun t => PYI s0 B qa t) (fun t => (PYM B qa t).toNat) (fun i t t' ht e => ?_) 20000000 0 s h ?_
  · unfold p2_step at e
    split at e
    · rename_i ho
      rw [← Sum.inl.inj e]
      have hct : CHO B pk t := hc.of hB6 fun q hq9 => ht.1 q (by omega)
      have hat : AMs t := fun j k hj hk => by rw [ht.1 _ (by omega)]; exact ha j k hj hk
      obtain ⟨n1, n2⟩ := pos_nat (Int32.not_le.mpr ho)
      have n0 : 0 < cn (f_Cobjection t (x_Cpay2_94 t qa B 0) qa B) := by
        rcases Nat.eq_zero_or_pos (cn (f_Cobjection t (x_Cpay2_94 t qa B 0) qa B)) with z | z
        · rw [z] at n1
          rw [n1] at ho
          exact absurd ho (by decide)
        · exact z
      obtain ⟨a, b⟩ := PYI.raise hq hB6 (S := x_Cpay2_94 t qa B 0) n2 n0 (amt t ht) ht (ht.some hq hct hat hpk hB6 (best_lt hB6) ho)
      refine ⟨a, ?_⟩
      have := PYM_0 (B := B) (qa := qa) (s := g_Craise t (x_Cpay2_94 t qa B 0) (cn (f_Cobjection t (x_Cpay2_94 t qa B 0) qa B)) qa B)
      show (PYM B qa (g_Craise t (x_Cpay2_94 t qa B 0) (cn (f_Cobjection t (x_Cpay2_94 t qa B 0) qa B)) qa B)).toNat < (PYM B qa t).toNat
      omega
    · cases e
  · have l := isum_le (T := pleft s qa) (U := fun _ => 2300000) B 0 (fun k _ hk => by
      have a := amt s h k (by omega)
      have p := h.2 k (by omega)
      unfold pleft
      (repeat' split) <;> omega)
    rw [isum_const] at l
    show (isum (pleft s qa) B 0).toNat < 20000000
    omega
theorem PYI.start (hq : 20000 ≤ qa) (hB6 : B ≤ 6) (hc : CHO B pk s0) (ha : AMs s0) (hpk : ∀ j, j < B → pk j ≤ 6) : PYI s0 B qa (g_Cpay20 s0 qa B) := by
  have am := fun j (hj : j < B) => hc.am ha hpk hB6 hj
  obtain ⟨m, h1, h2, h3, h4⟩ := hc
  have hp := pow_le6 hB6
  unfold g_Cpay20 x_Cpay2_7
  refine xit_inv (fun t : XS9 => PYI s0 B qa t) (N := B) (fun i t hi ht => ?_) B 0 _ (Nat.zero_add _) ⟨fun q hq9 => uR_ne hq9, fun j hj => ?_⟩
  · (try dsimp only)
    split
    · exact ht
    · refine ⟨fun q hq9 => by rw [u2_ne hq9]; exact ht.1 q hq9, fun j hj => ?_⟩
      by_cases e : j = i
      · subst e
        rw [u2_at]
        have c : f_Camount t j = f_Camount s0 j := by
          unfold f_Camount f_Bamount
          rw [ht.1 9001 (by omega), ht.1 (5030 + j) (by omega)]
        have a := am j hj
        unfold f_Cworth
        rw [c, ht.1 9003 (by omega)]
        have w1 := h2 (bclr (2 ^ B - 1) j) (bclr_lt (by omega))
        have w2 := h2 (2 ^ B - 1) (by omega)
        have e1 : (s0 9003 (2 ^ B - 1) - f_Camount s0 j).toInt = (s0 9003 (2 ^ B - 1)).toInt - (f_Camount s0 j).toInt := i32_sub (by omega) (by omega)
        rw [i32_sub (by omega) (by omega), e1]
        omega
      · rw [u2_oi e]
        exact ht.2 j hj
  · rw [uR_eq]
    have : rowN 6 j = 0 := by
      unfold rowN
      rw [if_neg (by omega), if_neg (by omega)]
    rw [this]
    decide
theorem pay_term (hq : 20000 ≤ qa) (hB6 : B ≤ 6) (hc : CHO B pk s0) (ha : AMs s0) (hpk : ∀ j, j < B → pk j ≤ 6) : ∃ r, xitR (p2_step qa B) 20000000 0 (g_Cpay20 s0 qa B) = .inr r := p2_term hq hB6 hc ha hpk (PYI.start hq hB6 hc ha hpk)
end
end
section
/-! ===== pure facts: the reference closes ===== -/
theorem JA.clo {σ σ2 : XS9} (hs : σ 5000 1 = 1) (n1 : bd 60 (σ2 5003 900)) (n20 : σ2 7000 20 = σ 7000 20) (n25 : σ2 7000 25 = σ 7000 25) (nb : bd 60 (σ2 7000 21) ∧ bd 60 (σ2 7000 22) ∧ bd 199 (σ2 7000 23) ∧ bd 199 (σ2 7000 24)) (n22 : σ2 7000 22 = σ2 7000 21) (h : JA σ) (e : ∀ q i, kr q i → (¬ (q = 5003 ∧ i = 900) ∧ q ≠ 7000) → σ2 q i = σ q i) : JA σ2 := by
  obtain ⟨h1, h2, h3, h4, h5, h6, h7, h8, h9, h10, h11, h12, h13, h14, h15, h16, h17⟩ := h
  refine ⟨?_, ?_, n1, ?_, ?_, ?_, ?_, n22, ?_, ?_, ?_, ?_, ?_, ?_, ?_, ?_, ?_⟩
  · rw [e 5001 900 (by unfold kr; omega) (by omega)]; exact h1
  · rw [e 5002 900 (by unfold kr; omega) (by omega)]; exact h2
  · intro hz
    rw [e 5000 1 (by unfold kr; omega) (by omega), hs] at hz
    exact absurd hz (by decide)
  · rw [n25, n20]; exact h5
  · rw [e 5000 1 (by unfold kr; omega) (by omega), n25, n20]; exact h6
  · intro b hb
    rcases hb with rfl | rfl
    · exact nb
    · rw [e 8000 21 (by unfold kr; omega) (by omega), e 8000 22 (by unfold kr; omega) (by omega), e 8000 23 (by unfold kr; omega) (by omega), e 8000 24 (by unfold kr; omega) (by omega)]; exact h7 8000 (.inr rfl)
  · intro j hj
    rw [e (5030 + j) 900 (by unfold kr; omega) (by omega)]; exact h9 j hj
  · intro j hj
    rw [e (5020 + j) 3 (by unfold kr; omega) (by omega)]; exact h10 j hj
  · intro j k hj hk
    rw [e (5030 + j) (2 * k) (by unfold kr; omega) (by omega)]; exact h11 j k hj hk
  · rw [e 5004 900 (by unfold kr; omega) (by omega)]; exact h12
  · intro q hq
    rw [e 5004 900 (by unfold kr; omega) (by omega)] at hq
    have hq10 : q < 10 := by have := h12.2; omega
    rw [e 5004 (2 * q) (by unfold kr; omega) (by omega), e 5001 900 (by unfold kr; omega) (by omega)]; exact h13 q hq
  · intro r hr
    rw [e 5007 r (by unfold kr; omega) (by omega)]; exact h14 r hr
  · intro r hr
    rw [e (5010 + r) 0 (by unfold kr; omega) (by omega)]; exact h15 r hr
  · intro h3
    rw [e 5000 1 (by unfold kr; omega) (by omega), hs] at h3
    exact absurd h3 (by decide)
  · rw [e 5000 7 (by unfold kr; omega) (by omega)]; exact h17
/-- the clock is over -/
theorem JA.over {σ : XS9} (hs : σ 5000 1 = 1) (h : JA σ) : JA (u2 σ 5000 1 2) := by
  have e : ∀ q i, (q ≠ 5000 ∨ i ≠ 1) → u2 σ 5000 1 2 q i = σ q i := fun q i w => u2_o (fun a b => by omega)
  obtain ⟨h1, h2, h3, h4, h5, h6, h7, h8, h9, h10, h11, h12, h13, h14, h15, h16, h17⟩ := h
  refine ⟨?_, ?_, ?_, ?_, ?_, ?_, ?_, ?_, ?_, ?_, ?_, ?_, ?_, ?_, ?_, ?_, ?_⟩
  · rw [e _ _ (by omega)]; exact h1
  · rw [e _ _ (by omega)]; exact h2
  · rw [e _ _ (by omega)]; exact h3
  · intro hz
    rw [u2_at] at hz
    exact absurd hz (by decide)
  · rw [e _ _ (by omega), e _ _ (by omega)]; exact h5
  · intro hz
    rw [u2_at] at hz
    exact absurd hz (by decide)
  · intro b hb
    rw [e _ _ (by omega), e _ _ (by omega), e _ _ (by omega), e _ _ (by omega)]; exact h7 b hb
  · rw [e _ _ (by omega), e _ _ (by omega)]; exact h8
  · intro j hj
    rw [e _ _ (by omega)]; exact h9 j hj
  · intro j hj
    rw [e _ _ (by omega)]; exact h10 j hj
  · intro j k hj hk
    rw [e _ _ (by omega)]; exact h11 j k hj hk
  · rw [e _ _ (by omega)]; exact h12
  · intro q hq
    rw [e _ _ (by omega)] at hq
    rw [e _ _ (by omega), e _ _ (by omega)]; exact h13 q hq
  · intro r hr
    rw [e _ _ (by omega)]; exact h14 r hr
  · intro r hr
    rw [e _ _ (by omega)]; exact h15 r hr
  · intro hz
    rw [u2_at] at hz
    exact absurd hz (by decide)
  · rw [e _ _ (by omega)]; exact h17
theorem JR.over {σ : XS9} (hs : σ 5000 1 = 1) (h : JR σ) : JR (u2 σ 5000 1 2) := ⟨h.1.over hs, h.2.set (.inl (.inl (by decide)))⟩
theorem JR.madd {σ : XS9} {j p : Nat} {c a : Int32} (h : JR σ) (hj : j < 6) (hp : p < 6) (hc : bd 7775 c) (hs2 : σ 5000 1 = 2) : JR (g_Madd σ j p c a) := by
  unfold g_Madd g_addI
  refine ⟨JA.addOffer (j9 := j) (p := p) (c := c) hj hp hc hs2 ?_ ?_ h.1 (fun q i hk hn9 => ?_), h.2.rows fun q hq => by rw [u2_ne (by omega), u2_ne (by omega), u2_ne (by omega), u2_ne (by omega)]⟩
  · rw [u2_at]
    congr 1
  · rw [u2_oi (by omega), u2_oi (by omega), u2_oi (by omega), u2_at]
  · rw [u2_o (fun a b => hn9.1 ⟨a, b⟩), u2_o (fun a b => by unfold kr at hk; omega), u2_o (fun a b => hn9.1 ⟨a, b⟩), u2_o (fun a b => hn9.2 ⟨a, b⟩)]
/-- the log's part of JS -/
def LG (τ : XS9) : Prop := ∀ i j, i < mK τ → j < 6 → zo (τ (6300 + i) j) ∧ bd 7775 (τ (6100 + i) j)
theorem JS.after {τ : XS9} (h1 : τ 5000 1 ≠ 0) (h2 : τ 5000 1 ≠ 1) (hl : LG τ) : JS τ := ⟨fun q => absurd q h2, fun q => absurd (q.resolve_right h2) h1, hl⟩
theorem xit_addb {t : Nat → Int32} {c : Nat} (hc : c * 5 < 2147483648) : ∀ (f i : Nat) (a : Int32), (∀ k, i ≤ k → k < i + f → bd c (t k)) → i + f ≤ 5 → bd (c * i) a → bd (c * 5) (xit (fun i s => s + t i) f i a)
  | 0, i, a, h, h5, ha => ha.le (Nat.mul_le_mul_left c (by omega))
  | f + 1, i, a, h, h5, ha => by
    refine xit_addb hc f (i + 1) (a + t i) (fun k x y => h k (by omega) (by omega)) (by omega) ?_
    have b := h i (by omega) (by omega)
    have l : c * (i + 1) ≤ c * 5 := Nat.mul_le_mul_left c (by omega)
    rw [ha.1, b.1, nI_plus]
    have ha2 := ha.2
    have b2 := b.2
    rw [Nat.mul_add, Nat.mul_one] at l ⊢
    exact bd.nat (by omega) (by omega)
theorem bd.mul {m n : Nat} {a b : Int32} (ha : bd m a) (hb : bd n b) (h : m * n < 2147483648) : bd (m * n) (a * b) := by
  rw [ha.1, hb.1, nI_mul]
  exact bd.nat (Nat.mul_le_mul ha.2 hb.2) h
section
variable {τ : XS9}
theorem CIn.of (r : JR τ) (h : JS τ) (hs : τ 5000 1 = 1) : CIn τ := by
  obtain ⟨a, b, c, d, f, g9⟩ := h.1 hs
  have hR := r.hR
  have hB := r.hB
  have hg : mg τ < 199 := by omega
  refine ⟨hR, hB, ⟨r.hK.1, by show mK τ < 60; omega⟩, ⟨(r.hst hs).2, (r.hst hs).1⟩, ⟨r.hg.1, hg⟩, ⟨r.hw.1, by show mw τ < 199; omega⟩, ⟨r.hn.1, g9, r.hn.2.2⟩, fun j hj => ⟨(r.hpk j hj).1, ?_⟩, KW.hw0 a hR.2 hB.2 r.hg.2, b⟩
  have := h.2.1 (.inr hs) j (Nat.lt_of_lt_of_le hj hB.2)
  show mpk τ j ≤ 5
  omega
theorem clo_all (r : JR τ) (h : JS τ) (p : JP τ) (hs : τ 5000 1 = 1) : (JR (g_clo τ) ∧ JS (g_clo τ) ∧ JP (g_clo τ)) ∧ VM τ (g_clo τ) ∧ (g_clo τ 5000 1 = 1 ∨ g_clo τ 5000 1 = 2) := by
  obtain ⟨a, b, c, d, f, g9⟩ := h.1 hs
  have hR := r.hR
  have hB := r.hB
  have hK : mK τ < 60 := by omega
  have hg : mg τ < 199 := by omega
  have hw : mw τ < 199 := by omega
  show (JR (g_McloseOne τ (mR τ) (mB τ) (mK τ) (mg τ) (mw τ) (mn τ) (mpk τ)) ∧ JS (g_McloseOne τ (mR τ) (mB τ) (mK τ) (mg τ) (mw τ) (mn τ) (mpk τ)) ∧ JP (g_McloseOne τ (mR τ) (mB τ) (mK τ) (mg τ) (mw τ) (mn τ) (mpk τ))) ∧ VM τ (g_McloseOne τ (mR τ) (mB τ) (mK τ) (mg τ) (mw τ) (mn τ) (mpk τ)) ∧ (g_McloseOne τ (mR τ) (mB τ) (mK τ) (mg τ) (mw τ) (mn τ) (mpk τ) 5000 1 = 1 ∨ g_McloseOne τ (mR τ) (mB τ) (mK τ) (mg τ) (mw τ) (mn τ) (mpk τ) 5000 1 = 2)
  have hpk : ∀ j, j < 6 → mpk τ j = 0 := h.2.1 (.inr hs)
  generalize eR : mR τ = R at *
  generalize eB : mB τ = B at *
  generalize eK : mK τ = K at *
  generalize eg : mg τ = g at *
  generalize ew : mw τ = w at *
  generalize en : mn τ = n at *
  generalize mpk τ = pk at *
  have hR5 := hR.2
  have hB6 := hB.2
  have cc := clo1_c (σ := τ) (R := R) (B := B) hg hw g9 hK
  have c1 := clo1_n (σ := τ) (R := R) (B := B) (K := K) (g := g) (w := w) (n := n)
  have fr : ∀ q, (q < 5003 ∨ (5003 < q ∧ q < 5200) ∨ (8000 ≤ q)) → g_clo1 τ R B K g w n q = τ q := fun q hq => fr_clo1 hg hw g9 hK (by omega)
  have f7 : ∀ q, 7000 ≤ q → q < 8000 → g_clo1 τ R B K g w n q = g_Kclose τ (τ 5000 4) 7000 R B g w n q := fun q h1 h2 => by
    unfold g_clo1
    exact fr_rnd (by omega)
  have rp := rnd_p (σ := g_Kclose τ (τ 5000 4) 7000 R B g w n) (K := K) (t := τ 5000 4) (f1 := τ (7000 + 1)) (f2 := τ (7000 + 500 + g)) (f3 := g_Kclose τ (τ 5000 4) 7000 R B g w n (7000 + 2)) (f4 := τ (7000 + 700 + w)) hK
  have kw := a.close (x := τ 5000 4) (w := w) (n := n) hR5 hB6 hg hw g9
  have pk1 := PBk.close (b := 7000) (R := R) (B := B) (g := g) (w := w) (n := n) p.2.2.1 (p.2.2.2.1 hs) hg hw g9
  have r60 : ∀ i, (i < K → g_clo1 τ R B K g w n (6300 + i) = τ (6300 + i) ∧ g_clo1 τ R B K g w n (6100 + i) = τ (6100 + i)) := fun i hi => ⟨fr_clo1 hg hw g9 hK (by omega), fr_clo1 hg hw g9 hK (by omega)⟩
  have m6000 : g_clo1 τ R B K g w n (6000 + K) = τ 7001 := rp.1
  have m6200 : g_clo1 τ R B K g w n (6200 + K) = g_Kclose τ (τ 5000 4) 7000 R B g w n 7002 := rp.2.2.1
  have kon := Kclose_on (σ := τ) (x := τ 5000 4) (b := 7000) (R := R) (B := B) (g := g) (w := w) (n := n)
  have kwz := Kclose_waived (σ := τ) (x := τ 5000 4) (b := 7000) (R := R) (B := B) (g := g) (w := w) (n := n)
  have t9 := f7 7000 (by omega) (by omega)
  have lg1 : ∀ i j, i < K + 1 → j < 6 → zo (g_clo1 τ R B K g w n (6300 + i) j) ∧ bd 7775 (g_clo1 τ R B K g w n (6100 + i) j) := fun i j hi hj => by
    rcases Nat.lt_or_ge i K with q | q
    · rw [(r60 i q).1, (r60 i q).2]
      exact h.2.2 i j (by rw [eK]; exact q) hj
    · obtain rfl : i = K := by omega
      have e1 : g_clo1 τ R B i g w n (6300 + i) = τ (7000 + 700 + w) := rp.2.2.2.1
      have e2 : g_clo1 τ R B i g w n (6100 + i) = τ (7000 + 500 + g) := rp.2.1
      rw [e1, e2]
      exact ⟨b j hj, a.2 j hj⟩
  unfold g_McloseOne x_McloseOne_122 x_McloseOne_138
  generalize g_clo1 τ R B K g w n = t at *
  have ec : cn (nI (K + 1)) = K + 1 := cn_nI (by omega)
  have JRt : JR t := by
    refine ⟨JA.clo hs (by rw [c1]; exact bd.nat (by omega) (by decide)) cc.1 cc.2.1 ?_ (by rw [cc.2.2.1, cc.2.2.2.1]) r.1 (fun q i hk hn => ?_), r.2.rows fun q hq => ?_⟩
    · rw [cc.2.2.1, cc.2.2.2.1, cc.2.2.2.2.1, cc.2.2.2.2.2]
      exact ⟨bd.nat (by omega) (by decide), bd.nat (by omega) (by decide), bd.nat (by omega) (by decide), bd.nat (by omega) (by decide)⟩
    · by_cases e3 : q = 5003
      · unfold kr at hk
        omega
      · rw [fr q (by unfold kr at hk; omega)]
    · rw [fr q (by omega)]
  have eKt : mK t = K + 1 := (congrArg cn c1).trans ec
  have lgt : LG t := fun i j hi hj => lg1 i j (by rw [eKt] at hi; exact hi) hj
  have JPt : JP t := by
    obtain ⟨p1, p2, p3, p4, p5⟩ := p
    refine ⟨fun j hj => ?_, fun j hj => ?_, ?_, fun _ r hr => ?_, fun j k hj hk => ?_⟩
    · rw [fr _ (by omega)]
      exact p1 j hj
    · rw [fr _ (by omega)]
      exact p2 j hj
    · rw [fr _ (by omega)]
      exact p3
    · rw [f7 7001 (by omega) (by omega)]
      exact pk1 r hr
    · rw [fr _ (by omega)]
      exact p5 j k hj hk
  have st : t 5000 1 = 1 := by rw [fr _ (by omega)]; exact hs
  have vm : VM τ t := VM.rows (fr _ (by omega)) (fr _ (by omega)) (fr _ (by omega))
  split
  · rename_i ho
    rw [t9] at ho
    have n60 := kon ho
    refine ⟨⟨JRt, ⟨fun _ => ?_, fun _ j hj => ?_, lgt⟩, JPt⟩, vm, .inl st⟩
    · have egt : mg t = g + 1 := (congrArg cn cc.2.2.2.2.1).trans (cn_nI (by omega))
      have ewt : mw t = w + 1 := (congrArg cn cc.2.2.2.2.2).trans (cn_nI (by omega))
      have ent : mn t = n + 1 := (congrArg cn cc.2.2.1).trans (cn_nI (by omega))
      rw [egt, ewt, ent, eKt]
      refine ⟨⟨fun i hi => ?_, fun i hi => ?_⟩, fun j hj => ?_, by omega, by omega, by omega, ?_⟩
      · rw [f7 _ (by omega) (by omega)]
        exact kw.1 i hi
      · rw [f7 _ (by omega) (by omega)]
        exact kw.2 i hi
      · rw [f7 _ (by omega) (by omega), kwz]
        exact .inl rfl
      · have : n + 1 ≠ 60 := fun e => n60 (by rw [e]; rfl)
        omega
    · show cn (t (5030 + j) 900) / 2 = 0
      rw [fr _ (by omega)]
      exact h.2.1 (.inr hs) j hj
  · have hP : JR (u2 t 5000 1 2) ∧ JP (u2 t 5000 1 2) ∧ u2 t 5000 1 2 5000 1 = 2 := by
      refine ⟨JRt.over st, ?_, u2_at⟩
      obtain ⟨p1, p2, p3, p4, p5⟩ := JPt
      refine ⟨fun j hj => ?_, fun j hj => ?_, ?_, fun hz => ?_, fun j k hj hk => ?_⟩
      · rw [u2_ne (by omega)]
        exact p1 j hj
      · rw [u2_ne (by omega)]
        exact p2 j hj
      · rw [u2_oi (by decide)]
        exact p3
      · rw [u2_at] at hz
        exact absurd hz (by decide)
      · rw [u2_ne (by omega)]
        exact p5 j k hj hk
    have fm : ∀ (s : XS9) (j p9 : Nat) (c9 a9 : Int32) (q : Nat), q ≠ 5030 + j → g_Madd s j p9 c9 a9 q = s q := fun s j p9 c9 a9 q hq => fr_Madd hq
    have go := xit_inv (fun s : XS9 => (JR s ∧ JP s ∧ s 5000 1 = 2) ∧ ∀ q, (q < 5030 ∨ 5036 ≤ q) → s q = u2 t 5000 1 2 q) (step := fun i122 s122 => (if (t (6200 + K) i122) ≤ 0 then s122 else g_Madd s122 i122 (pk i122) (t (6200 + K) i122) (xit (fun i138 s138 => s138 + ((f_of (t (6200 + K) i122) i138) * (t (6000 + K) i138))) R 0 0))) (N := B) (fun i s hi hP => by
      (try dsimp only)
      split
      · exact hP
      · have ci : bd 7775 (t (6200 + K) i) := by rw [m6200]; exact kw.1 i (by omega)
        have ai : bd (49995 * 5) (xit (fun i138 s138 => s138 + ((f_of (t (6200 + K) i) i138) * (t (6000 + K) i138))) R 0 0) := xit_addb (by decide) R 0 0 (fun k _ hk => by
          rw [m6000]
          exact (ci.ofd (by omega)).mul (p.2.2.2.1 hs k (by omega)) (by decide)) (by omega) bd.zero
        have hp0 := hpk i (by omega)
        refine ⟨⟨hP.1.1.madd (by omega) (by omega) ci hP.1.2.2, hP.1.2.1.madd (by omega) (ai.le (by decide)), by rw [fm _ _ _ _ _ _ (by omega)]; exact hP.1.2.2⟩, fun q hq => ?_⟩
        rw [fm _ _ _ _ _ _ (by omega)]
        exact hP.2 q hq) B 0 (u2 t 5000 1 2) (Nat.zero_add _) ⟨hP, fun _ _ => rfl⟩
    generalize xit (fun i122 (s122 : XS9) => (if (t (6200 + K) i122) ≤ 0 then s122 else g_Madd s122 i122 (pk i122) (t (6200 + K) i122) (xit (fun i138 s138 => s138 + ((f_of (t (6200 + K) i122) i138) * (t (6000 + K) i138))) R 0 0))) B 0 (u2 t 5000 1 2) = u at go ⊢
    obtain ⟨⟨g1, g2, g3⟩, g4⟩ := go
    have g5 : ∀ q, (q < 5030 ∨ 5036 ≤ q) → q ≠ 5000 → u q = t q := fun q hq h5 => by rw [g4 q hq, u2_ne h5]
    refine ⟨⟨g1, JS.after (by rw [g3]; decide) (by rw [g3]; decide) (fun i j hi hj => ?_), g2⟩, ⟨?_, ?_, ?_⟩, .inr g3⟩
    · have e5 : mK u = mK t := congrArg cn (by rw [g5 5003 (by omega) (by omega)])
      rw [e5, eKt] at hi
      rw [g5 (6300 + i) (by omega) (by omega), g5 (6100 + i) (by omega) (by omega)]
      exact lgt i j (by rw [eKt]; exact hi) hj
    · rw [g5 5001 (by omega) (by omega)]
      exact vm.1
    · rw [g5 5002 (by omega) (by omega)]
      exact vm.2.1
    · rw [g3, hs]
      decide
theorem itC_all (r : JR τ) (h : JS τ) (p : JP τ) : ∀ m, (∀ j, j < m → itC τ j 5000 1 = 1) → (JR (itC τ m) ∧ JS (itC τ m) ∧ JP (itC τ m))
  | 0, _ => ⟨r, h, p⟩
  | m + 1, e => by
    obtain ⟨a, b, c⟩ := itC_all r h p m (fun j hj => e j (by omega))
    exact (clo_all a b c (e m (by omega))).1
theorem itC_in (r : JR τ) (h : JS τ) (p : JP τ) (m : Nat) (e : ∀ j, j ≤ m → itC τ j 5000 1 = 1) : CIn (itC τ m) := by
  obtain ⟨a, b, c⟩ := itC_all r h p m (fun j hj => e j (by omega))
  exact CIn.of a b (e m (Nat.le_refl m))
theorem Mclose_all {x : Int32} (r : JR τ) (h : JS τ) (p : JP τ) : (JR (g_Mclose τ x) ∧ JS (g_Mclose τ x) ∧ JP (g_Mclose τ x)) ∧ VM τ (g_Mclose τ x) := by
  unfold g_Mclose
  split
  · split
    · unfold x_Mclose_37
      refine xitB_all (fun s : XS9 => (JR s ∧ JS s ∧ JP s) ∧ VM τ s) (N := cn x) (fun i s s' hi hP => ?_) (cn x) 0 _ (Nat.zero_add _) ⟨⟨r.s0, h.s0 r, p.s0⟩, VM.s0⟩
      (try dsimp only)
      split
      · rename_i hs
        intro e
        rcases e with e | e
        · rw [← Sum.inl.inj e]
          obtain ⟨a, b, -⟩ := clo_all hP.1.1 hP.1.2.1 hP.1.2.2 hs
          exact ⟨a, hP.2.trans b⟩
        · cases e
      · intro e
        rcases e with e | e
        · cases e
        · rw [← Sum.inr.inj e]
          exact hP
    · exact ⟨⟨r.s00, h.s00 r, p.s00⟩, VM.s00⟩
  · exact ⟨⟨r.s00, h.s00 r, p.s00⟩, VM.s00⟩
end
end
