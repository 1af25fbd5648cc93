/-! ===== pure facts: what holds of the class's memory at all times ===== -/
/-- a number from 0 to m -/
def bd (m : Nat) (v : Int32) : Prop := v = nI (cn v) ∧ cn v ≤ m
theorem bd.nat {m n : Nat} (h : n ≤ m) (hm : m < 2147483648) : bd m (nI n) := by
  have e : cn (nI n) = n := cn_nI (by omega)
  exact ⟨by rw [e], by rw [e]; exact h⟩
theorem bd.le {m n : Nat} {v : Int32} (h : bd m v) (hm : m ≤ n) : bd n v := ⟨h.1, Nat.le_trans h.2 hm⟩
theorem bd.zero {m : Nat} : bd m 0 := ⟨rfl, Nat.zero_le _⟩
theorem bd.bt {m : Nat} {v lo hi : Int32} (h : n_bt v lo hi) (hl : 0 ≤ lo) (hm : hi = nI m) (hm2 : m < 2147483648) : bd m v := by
  obtain ⟨e, e2⟩ := cn_of (Int32.le_trans hl h.1)
  refine ⟨e, ?_⟩
  have h2 := Int32.le_iff_toInt_le.mp h.2
  rw [hm, toI_nI hm2] at h2
  omega
theorem bd.lt {x : Int32} {R m : Nat} (h : n_lt x R) (hm : R ≤ m + 1) : bd m x := ⟨h.1, by have := h.2; omega⟩
/-- a block's holder: nobody, or a bidder -/
def hd (v : Int32) : Prop := v = -1 ∨ bd 9 v
/-- the places that the invariant speaks of -/
def ky (q i : Nat) : Prop := (q = 1000 ∧ i = 9) ∨ (q = 1001 ∧ (i = 4 ∨ i = 9)) ∨ (q = 1006 ∧ i = 1) ∨ q = 1010 ∨ q = 1017 ∨ (1020 ≤ q ∧ q ≤ 1036) ∨ (1141 ≤ q ∧ q ≤ 1145) ∨ q = 1151 ∨ (q = 2000 ∧ i = 9)
def JC (σ : XS9) : Prop := bd 5 (σ 1001 4) ∧ bd 6 (σ 1001 9) ∧ bd 60 (σ 2000 9) ∧ bd 10 (σ 1006 1) ∧ bd 2 (σ 1000 9) ∧ (∀ i, i < 6 → bd 3 (σ 1017 i)) ∧ (∀ i, i < 6 → bd 6 (σ 1020 i)) ∧ (∀ r, r < 5 → bd 5 (σ 1010 r)) ∧ XCD σ ∧ (∀ i, i < 10 → bd 4 (σ 1151 i)) ∧ (∀ i k, i < 6 → k < 6 → 0 ≤ σ (1031 + i) k) ∧ ∀ r k, r < 5 → k < 5 → hd (σ (1141 + r) k)
theorem JC.of {σ σ' : XS9} (h : JC σ) (e : ∀ q i, ky q i → σ' q i = σ q i) : JC σ' := by
  obtain ⟨h1, h2, h3, h4, h5, h6, h7, h8, h9, h10, h11, h12⟩ := h
  refine ⟨by rw [e _ _ (by unfold ky; omega)]; exact h1, by rw [e _ _ (by unfold ky; omega)]; exact h2, by rw [e _ _ (by unfold ky; omega)]; exact h3, by rw [e _ _ (by unfold ky; omega)]; exact h4, by rw [e _ _ (by unfold ky; omega)]; exact h5, fun i hi => ?_, fun i hi => ?_, fun i hi => ?_, fun i k hi hk => ?_, fun i hi => ?_, fun i k hi hk => ?_, fun r k hr hk => ?_⟩
  · rw [e _ _ (by unfold ky; omega)]; exact h6 i hi
  · rw [e _ _ (by unfold ky; omega)]; exact h7 i hi
  · rw [e _ _ (by unfold ky; omega)]; exact h8 i hi
  · rw [e _ _ (by unfold ky; omega)]; exact h9 i k hi hk
  · rw [e _ _ (by unfold ky; omega)]; exact h10 i hi
  · rw [e _ _ (by unfold ky; omega)]; exact h11 i k hi hk
  · rw [e _ _ (by unfold ky; omega)]; exact h12 r k hr hk
theorem JC.set {σ : XS9} (h : JC σ) {q i : Nat} {x : Int32} (hq : ¬ ky q i) : JC (u2 σ q i x) := h.of fun q9 i9 hk => by
  by_cases e : q9 = q
  · subst e
    exact u2_oi (fun e2 => hq (by rw [← e2]; exact hk))
  · rw [u2_ne e]
theorem JC.rows {σ σ' : XS9} (h : JC σ) (e : ∀ q, (q = 1000 ∨ q = 1001 ∨ q = 1006 ∨ q = 1010 ∨ q = 1017 ∨ (1020 ≤ q ∧ q ≤ 1036) ∨ (1141 ≤ q ∧ q ≤ 1145) ∨ q = 1151 ∨ q = 2000) → σ' q = σ q) : JC σ' := h.of fun q i hk => by
  rw [e q (by unfold ky at hk; omega)]
theorem JC.init : JC s0C := by
  refine ⟨⟨by decide, by decide⟩, ⟨by decide, by decide⟩, ⟨by decide, by decide⟩, ⟨by decide, by decide⟩, ⟨by decide, by decide⟩, fun i hi => ?_, fun i hi => ?_, fun i hi => ?_, fun i k hi hk => ?_, fun i hi => ?_, fun i k hi hk => ?_, fun r k hr hk => ?_⟩
  · rw [s0C_z (by decide) (by decide) (by omega) (by decide)]; exact bd.zero
  · rw [s0C_z (by decide) (by decide) (by omega) (by decide)]; exact bd.zero
  · rw [s0C_z (by decide) (by decide) (by omega) (by decide)]; exact bd.zero
  · rw [s0C_z (by omega) (by omega) (by omega) (by omega)]; exact Int32.le_refl _
  · rw [s0C_z (by decide) (by decide) (by omega) (by decide)]; exact bd.zero
  · rw [s0C_z (by omega) (by omega) (by omega) (by omega)]; exact Int32.le_refl _
  · left
    unfold s0C
    rw [if_neg (by omega), if_neg (by omega), if_pos (by omega)]
/-! the class's methods keep it -/
theorem ky.n {q i : Nat} (h : ¬ (q = 1000 ∨ q = 1001 ∨ q = 1006 ∨ q = 1010 ∨ q = 1017 ∨ (1020 ≤ q ∧ q ≤ 1036) ∨ (1141 ≤ q ∧ q ≤ 1145) ∨ q = 1151 ∨ q = 2000)) : ¬ ky q i := fun k => by
  unfold ky at k
  omega
section
variable {σ : XS9} {R B C K w : Nat}
theorem JC.begin (h : JC σ) : JC (g_begin σ 2000) := by
  have e : ∀ q, q ≠ 2000 → (q < 2001 ∨ 2006 < q) → g_begin σ 2000 q = σ q := fun q a b => fr_begin (by omega)
  have e9 : g_begin σ 2000 2000 9 = 0 := by
    unfold g_begin
    rw [u2_oi (by decide)]
    exact u2_at
  obtain ⟨h1, h2, h3, h4, h5, h6, h7, h8, h9, h10, h11, h12⟩ := h
  refine ⟨by rw [e _ (by omega) (by omega)]; exact h1, by rw [e _ (by omega) (by omega)]; exact h2, by rw [e9]; exact bd.zero, by rw [e _ (by omega) (by omega)]; exact h4, by rw [e _ (by omega) (by omega)]; exact h5, fun i hi => ?_, fun i hi => ?_, fun i hi => ?_, fun i k hi hk => ?_, fun i hi => ?_, fun i k hi hk => ?_, fun r k hr hk => ?_⟩
  · rw [e _ (by omega) (by omega)]; exact h6 i hi
  · rw [e _ (by omega) (by omega)]; exact h7 i hi
  · rw [e _ (by omega) (by omega)]; exact h8 i hi
  · rw [e _ (by omega) (by omega)]; exact h9 i k hi hk
  · rw [e _ (by omega) (by omega)]; exact h10 i hi
  · rw [e _ (by omega) (by omega)]; exact h11 i k hi hk
  · rw [e _ (by omega) (by omega)]; exact h12 r k hr hk
/-- one place of a row is written with what the row may hold -/
theorem JC.put {q i : Nat} {x : Int32} (h : JC σ) (hx : (q = 1001 ∧ i = 4 ∧ bd 5 x) ∨ (q = 1001 ∧ i = 9 ∧ bd 6 x) ∨ (q = 1006 ∧ i = 1 ∧ bd 10 x) ∨ (q = 1000 ∧ i = 9 ∧ bd 2 x) ∨ (q = 1017 ∧ bd 3 x) ∨ (q = 1020 ∧ bd 6 x) ∨ (q = 1010 ∧ bd 5 x) ∨ (1022 ≤ q ∧ q < 1028 ∧ 0 ≤ x) ∨ (q = 1151 ∧ bd 4 x) ∨ (1031 ≤ q ∧ q < 1037 ∧ 0 ≤ x) ∨ (1141 ≤ q ∧ q ≤ 1145 ∧ hd x)) : JC (u2 σ q i x) := by
  have e : ∀ q9 i9, (q9 = q → i9 ≠ i) → u2 σ q i x q9 i9 = σ q9 i9 := fun q9 i9 hn => by
    by_cases e : q9 = q
    · subst e
      exact u2_oi (hn rfl)
    · rw [u2_ne e]
  have g : ∀ (P : Int32 → Prop) q9 i9, P (σ q9 i9) → (q9 = q → i9 = i → P x) → P (u2 σ q i x q9 i9) := fun P q9 i9 h1 h2 => by
    by_cases e1 : q9 = q
    · by_cases e2 : i9 = i
      · subst e1
        subst e2
        rw [u2_at]
        exact h2 rfl rfl
      · rw [e _ _ (fun _ => e2)]
        exact h1
    · rw [e _ _ (fun z => absurd z e1)]
      exact h1
  obtain ⟨h1, h2, h3, h4, h5, h6, h7, h8, h9, h10, h11, h12⟩ := h
  refine ⟨g _ _ _ h1 (fun a b => ?_), g _ _ _ h2 (fun a b => ?_), g _ _ _ h3 (fun a b => ?_), g _ _ _ h4 (fun a b => ?_), g _ _ _ h5 (fun a b => ?_), fun i hi => g _ _ _ (h6 i hi) (fun a b => ?_), fun i hi => g _ _ _ (h7 i hi) (fun a b => ?_), fun i hi => g _ _ _ (h8 i hi) (fun a b => ?_), fun i k hi hk => g (fun v => 0 ≤ v) _ _ (h9 i k hi hk) (fun a b => ?_), fun i hi => g _ _ _ (h10 i hi) (fun a b => ?_), fun i k hi hk => g (fun v => 0 ≤ v) _ _ (h11 i k hi hk) (fun a b => ?_), fun r k hr hk => g _ _ _ (h12 r k hr hk) (fun a b => ?_)⟩ <;> (rcases hx with ⟨z1, z2, z⟩ | ⟨z1, z2, z⟩ | ⟨z1, z2, z⟩ | ⟨z1, z2, z⟩ | ⟨z1, z⟩ | ⟨z1, z⟩ | ⟨z1, z⟩ | ⟨z1, z2, z⟩ | ⟨z1, z⟩ | ⟨z1, z2, z⟩ | ⟨z1, z2, z⟩ <;> first | exact z | (exfalso; omega))
theorem JC.region {x y z : Int32} (h : JC σ) (hR6 : R ≤ 5) : JC (g_region σ x y z R) := by
  unfold g_region
  split
  · rename_i hx
    split
    · split
      · split
        · split
          · rename_i hR9
            have hR5 : R < 5 := (nI_ltI (a := R) (b := 5) (by omega) (by omega)).mp hR9
            refine JC.begin ?_
            unfold g_addRegion
            refine JC.put (JC.set (q := 1012) (JC.set (q := 1011) (JC.put h (.inr (.inr (.inr (.inr (.inr (.inr (.inl ⟨rfl, bd.bt hx (by decide) rfl (by decide)⟩)))))))) (ky.n (by decide))) (ky.n (by decide))) (.inl ⟨rfl, rfl, bd.nat (by omega) (by decide)⟩)
          · exact h
        · exact h
      · exact h
    · exact h
  · exact h
theorem JC.bidder {x y z v : Int32} (h : JC σ) (hB6 : B ≤ 6) : JC (g_bidder σ x y z v B) := by
  unfold g_bidder
  split
  · split
    · split
      · split
        · rename_i hv
          split
          · split
            · rename_i hB9
              have hB5 : B < 6 := (nI_ltI (a := B) (b := 6) (by omega) (by omega)).mp hB9
              refine JC.begin ?_
              unfold g_addBidder
              exact JC.put (JC.put (JC.set (q := 1016) (JC.set (q := 1015) (JC.set (q := 1014) h (ky.n (by decide))) (ky.n (by decide))) (ky.n (by decide))) (q := 1017) (.inr (.inr (.inr (.inr (.inl ⟨rfl, bd.bt hv (by decide) rfl (by decide)⟩)))))) (.inr (.inl ⟨rfl, rfl, bd.nat (by omega) (by decide)⟩))
            · exact h
          · exact h
        · exact h
      · exact h
    · exact h
  · exact h
theorem JC.border {x y : Int32} (h : JC σ) : JC (g_border σ x y R) := by
  unfold g_border
  split
  · split
    · split
      · exact h
      · split
        · unfold g_addBorder
          exact JC.set (q := 1013) (JC.set (q := 1013) h (ky.n (by decide))) (ky.n (by decide))
        · exact h
    · exact h
  · exact h
theorem JC.rules {x y : Int32} (h : JC σ) : JC (g_rules σ x y) := by
  have k1 : ∀ i, (i = 10 ∨ i = 11) → ¬ ky 1001 i := fun i hi k => by unfold ky at k; omega
  unfold g_rules
  split
  · split
    · exact JC.set (JC.set h (k1 10 (.inl rfl))) (k1 11 (.inr rfl))
    · exact h
  · exact h
theorem ky1000 {i : Nat} (hi : i ≠ 9) : ¬ ky 1000 i := fun k => by unfold ky at k; omega
theorem JC.step {x : Int32} (h : JC σ) : JC (g_step σ x) := by
  unfold g_step
  split
  · split
    · exact JC.set h (ky1000 (by decide))
    · split
      · exact JC.set h (ky1000 (by decide))
      · exact h
  · exact h
theorem JC.opn (h : JC σ) : JC (g_open σ R B) := by
  unfold g_open
  split
  · split
    · exact h
    · split
      · exact h
      · exact JC.set h (ky1000 (by decide))
  · exact h
theorem JC.wish {x y z : Int32} (h : JC σ) : JC (g_wish σ x y z R B) := by
  unfold g_wish
  split
  · split
    · split
      · split
        · split
          · exact h
          · exact JC.set (q := 2003) h (ky.n (by decide))
        · exact h
      · exact h
    · exact h
  · exact h
theorem JC.waive {x : Int32} (h : JC σ) : JC (g_waive σ x B) := by
  have k1 : ¬ ky 2000 12 := fun k => by unfold ky at k; omega
  unfold g_waive
  split
  · split
    · split
      · exact h
      · split
        · unfold g_useWaiver
          exact JC.set (q := 2000) (JC.set (q := 2005) h (ky.n (by decide))) k1
        · exact h
    · exact h
  · exact h
theorem JC.station {x y : Int32} (h : JC σ) (hR5 : R ≤ 5) (hC10 : C ≤ 10) : JC (g_station σ x y R C) := by
  unfold g_station
  split
  · rename_i hx
    split
    · split
      · rename_i hC9
        have hC5 : C < 10 := (nI_ltI (a := C) (b := 10) (by omega) (by omega)).mp hC9
        unfold g_add
        refine JC.put (JC.set (q := 1150) (JC.put h (q := 1151) (.inr (.inr (.inr (.inr (.inr (.inr (.inr (.inr (.inl ⟨rfl, ?_⟩)))))))))) (ky.n (by decide))) (.inr (.inr (.inl ⟨rfl, rfl, bd.nat (by omega) (by decide)⟩)))
        exact bd.nat (by have := hx.2; omega) (by decide)
      · exact h
    · exact h
  · exact h
theorem JC.ask {x y : Int32} (h : JC σ) : JC (g_ask σ x y C) := by
  unfold g_ask
  split
  · split
    · exact JC.set (q := 1150) h (ky.n (by decide))
    · exact h
  · exact h
theorem JC.pack {x : Int32} {ch : Nat} {rg : Nat → Nat} (h : JC σ) : JC (g_pack σ x ch C rg) := h.rows fun q hq => fr_packM (by omega)
theorem JC.cheapest {ch : Nat} {rg : Nat → Nat} (h : JC σ) : JC (g_cheapest σ ch C rg) := h.rows fun q hq => fr_cheapest (by omega)
theorem JC.packs {x y : Int32} {rg : Nat → Nat} (h : JC σ) : JC (g_packs σ x y C rg) := by
  unfold g_packs
  split
  · split
    · exact h.pack
    · exact h
  · exact h
theorem JC.channel {x y z : Int32} {rg : Nat → Nat} (h : JC σ) : JC (g_channel σ x y z C rg) := by
  unfold g_channel
  split
  · split
    · split
      · exact h.pack
      · exact h
    · exact h
  · exact h
theorem JC.clear {x : Int32} {rg : Nat → Nat} (h : JC σ) : JC (g_clear σ x C rg) := by
  unfold g_clear
  split
  · exact h.cheapest
  · exact h
theorem JC.runLog {x y : Int32} {j r : Nat} (h : JC σ) (hK60 : K ≤ 60) : JC (g_runLog σ 3000 2000 x j r y B R K) := h.rows fun q hq => fr_runLog hK60 (by omega)
theorem JC.anew {x y z v : Int32} (h : JC σ) (hK60 : K ≤ 60) : JC (g_anew σ x y z v R B K) := by
  unfold g_anew
  split
  · split
    · split
      · split
        · exact h.runLog hK60
        · exact h
      · exact h
    · exact h
  · exact h
theorem JC.isSound (h : JC σ) (hK60 : K ≤ 60) : JC (g_isSound σ R B w K) := h.runLog hK60
theorem JC.digest {rg : Nat → Nat} (h : JC σ) (hK60 : K ≤ 60) : JC (g_digest σ K B R C w rg) := by
  unfold g_digest g_dgS
  split
  · exact JC.isSound h.cheapest.cheapest hK60
  · exact JC.isSound h hK60
theorem JC.knock (h : JC σ) : JC (g_knock σ) := JC.set h (ky1000 (by decide))
theorem JC.addM {i : Nat} {x y : Int32} {gr cnt : Nat → Nat} (h : JC σ) (hi : i < 6) (hg : ∀ i, i < 6 → gr i < 4) (hc : cnt i ≤ 6) (hx : 0 ≤ x) (hy : 0 ≤ y) : JC (g_addM σ i x y R B gr cnt) := by
  have hgi := hg i hi
  have hp : 2 ^ i < 64 := by
    have := Nat.pow_lt_pow_right (a := 2) (by decide) hi
    exact this
  unfold g_addM
  split
  · rename_i q
    have hc6 : cnt i < 6 := (nI_ltI (a := cnt i) (b := 6) (by omega) (by omega)).mp q
    have A : JC (u2 (u2 (u2 σ (1022 + i) (cnt i) x) (1031 + i) (cnt i) y) 1020 i (nI (cnt i + 1))) :=
      JC.put (JC.put (JC.put h (.inr (.inr (.inr (.inr (.inr (.inr (.inr (.inl ⟨by omega, by omega, hx⟩))))))))) (.inr (.inr (.inr (.inr (.inr (.inr (.inr (.inr (.inr (.inl ⟨by omega, by omega, hy⟩))))))))))) (.inr (.inr (.inr (.inr (.inr (.inl ⟨rfl, bd.nat (by omega) (by decide)⟩))))))
    generalize u2 (u2 (u2 σ (1022 + i) (cnt i) x) (1031 + i) (cnt i) y) 1020 i (nI (cnt i + 1)) = s at A ⊢
    split
    · exact A.rows fun q hq => fr_findWinners (by omega)
    · refine A.rows fun q hq => ?_
      rw [fr_findWinners (by omega), fr_giveBack (by omega), fr_pickFrom ⟨hg, hp, by omega, by omega, by omega, by omega, by omega⟩, fr_take (by omega)]
  · exact h
theorem JC.find (h : JC σ) : JC (g_find σ) := h.rows fun q hq => fr_find (by omega)
theorem JC.offer {x y z : Int32} {gr cnt : Nat → Nat} (h : JC σ) (hB6 : B ≤ 6) (hg : ∀ i, i < 6 → gr i < 4) (hc : ∀ i, i < 6 → cnt i ≤ 6) : JC (g_offer σ x y z R B gr cnt) := by
  unfold g_offer
  split
  · rename_i hx
    have hx6 : cn x < 6 := by have := hx.2; omega
    split
    · exact h
    · rename_i hy
      have hy0 : 0 ≤ y := by
        refine Int32.not_lt.mp fun q => hy ?_
        unfold f_isCode
        rw [if_pos q]
      split
      · rename_i hz
        split
        · split
          · exact h
          · split
            · exact h
            · exact (h.addM hx6 hg (hc _ hx6) hy0 hz).find
        · exact h
      · exact h
  · exact h
def hdI (s : XS9) : Prop := ∀ r k, r < 5 → k < 5 → hd (s (1141 + r) k)
theorem hd.six {n : Nat} : hd (nI (n % 6)) := .inr (bd.nat (by omega) (by decide))
theorem hdI.u2 {s : XS9} (h : hdI s) {q k : Nat} {x : Int32} (hx : hd x) : hdI (u2 s q k x) := fun r9 k9 hr hk => by
  by_cases e : 1141 + r9 = q
  · by_cases e2 : k9 = k
    · rw [e, e2, u2_at]
      exact hx
    · rw [e, u2_oi e2, ← e]
      exact h r9 k9 hr hk
  · rw [u2_ne e]
    exact h r9 k9 hr hk
theorem hdI.fill {s : XS9} (h : hdI s) {a n : Nat} {x : Int32} (hx : hd x) : hdI (g_fill s a n x) := by
  unfold g_fill x_fill_5
  exact xit_inv hdI (N := n) (fun i3 s3 _ hP3 => hP3.u2 hx) n 0 _ (Nat.zero_add _) h
theorem hdI.turn62 {s s0 : XS9} {s2 : XS9 × Nat} {i : Nat} (h : hdI s0) {r t : Nat} {sp : Nat → Nat} : hdI (x_giveByTurn_62 s r t sp i s2 s0) := by
  unfold x_giveByTurn_62
  generalize min (s2.2 + cbw s2.1 ((t + i) % 6) r) (sp r) - s2.2 = n9
  exact xit_inv hdI (N := n9) (fun i3 s3 _ hP3 => hP3.u2 hd.six) n9 0 _ (Nat.zero_add _) h
theorem hdI.turn {s : XS9} (h : hdI s) {r t : Nat} {sp : Nat → Nat} : hdI (g_giveByTurn s r t sp) := by
  unfold g_giveByTurn x_giveByTurn_20
  generalize 6 = n9
  exact xit_inv (fun s : XS9 × Nat => hdI s.1) (N := n9) (fun i s2 _ hP => hdI.turn62 (s := s) hP) n9 0 _ (Nat.zero_add _) (hdI.fill h (.inl rfl))
theorem hdI.give25 {s : XS9} {s0 : XS9 × Nat × Int32} (h : hdI s0.1) {sp : Nat → Nat} {i : Nat} : hdI (x_give_25 s R sp i s0).1 := by
  unfold x_give_25
  generalize 6 = n9
  refine xit_inv (fun s : XS9 × Nat × Int32 => hdI s.1) (N := n9) (fun i3 s3 _ hP3 => ?_) n9 0 _ (Nat.zero_add _) h
  have e := hP3.turn (r := i) (t := i3) (sp := sp)
  generalize g_giveByTurn s3.1 i i3 sp = g9 at e ⊢
  split
  · exact e
  · exact e
theorem hdI.give {s : XS9} (h : hdI s) {sp : Nat → Nat} : hdI (g_give s R sp) := by
  unfold g_give x_give_7
  refine xit_inv hdI (N := R) (fun i s2 _ hP => ?_) R 0 _ (Nat.zero_add _) (fun r k hr hk => by rw [u2_ne (by omega)]; exact h r k hr hk)
  have e : hdI (x_give_25 s R sp i (s2, 0, 25)).1 := hdI.give25 hP
  generalize x_give_25 s R sp i (s2, 0, 25) = y9 at e ⊢
  have e2 := e.turn (r := i) (t := y9.2.1) (sp := sp)
  generalize g_giveByTurn y9.1 i y9.2.1 sp = z9 at e2 ⊢
  intro r k hr hk
  rw [u2_ne (by omega)]
  exact e2 r k hr hk
theorem JC.give {sp : Nat → Nat} (h : JC σ) (hR5 : R ≤ 5) : JC (g_give σ R sp) := by
  have e : ∀ q, q ≠ 1005 → (q < 1141 ∨ 1145 < q) → g_give σ R sp q = σ q := fun q a b => fr_give hR5 ⟨a, b⟩
  have hh : hdI (g_give σ R sp) := hdI.give (s := σ) (R := R) h.2.2.2.2.2.2.2.2.2.2.2
  obtain ⟨h1, h2, h3, h4, h5, h6, h7, h8, h9, h10, h11, h12⟩ := h
  refine ⟨by rw [e _ (by omega) (by omega)]; exact h1, by rw [e _ (by omega) (by omega)]; exact h2, by rw [e _ (by omega) (by omega)]; exact h3, by rw [e _ (by omega) (by omega)]; exact h4, by rw [e _ (by omega) (by omega)]; exact h5, fun i hi => ?_, fun i hi => ?_, fun i hi => ?_, fun i k hi hk => ?_, fun i hi => ?_, fun i k hi hk => ?_, hh⟩
  · rw [e _ (by omega) (by omega)]; exact h6 i hi
  · rw [e _ (by omega) (by omega)]; exact h7 i hi
  · rw [e _ (by omega) (by omega)]; exact h8 i hi
  · rw [e _ (by omega) (by omega)]; exact h9 i k hi hk
  · rw [e _ (by omega) (by omega)]; exact h10 i hi
  · rw [e _ (by omega) (by omega)]; exact h11 i k hi hk
theorem JC.settle {x : Int32} {sp : Nat → Nat} (h : JC σ) (hR5 : R ≤ 5) : JC (g_settle σ x R sp) := by
  unfold g_settle
  split
  · rename_i hx
    split
    · exact JC.give (JC.set (JC.put h (.inr (.inr (.inr (.inl ⟨rfl, rfl, bd.bt hx (by decide) rfl (by decide)⟩))))) (ky1000 (by decide))) hR5
    · exact h
  · exact h
theorem JC.leaveOut {i : Nat} (h : JC σ) : JC (g_leaveOut σ i) := h.rows fun q hq => fr_leaveOut (by omega)
theorem JC.fail {x : Int32} {sp : Nat → Nat} (h : JC σ) (hR5 : R ≤ 5) : JC (g_fail σ x R B sp) := by
  unfold g_fail
  split
  · split
    · split
      · exact h
      · exact JC.give (JC.set h (ky1000 (by decide))).leaveOut.find hR5
    · exact h
  · exact h
end
