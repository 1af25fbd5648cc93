/-! ===== pure facts: the reference's clock through the small methods ===== -/
section
variable {τ : XS9} {R B C K g w : Nat} {pk gr tn sp rg : Nat → Nat} {cd : Nat → Nat → Nat}
theorem JS.hi {τ2 : XS9} (h : JS τ) (r : JR τ) (e : ∀ q, q < 8000 → τ2 q = τ q) : JS τ2 := h.of r.hK.2 ⟨r.hg.2, r.hw.2⟩ fun q i hk => by rw [e q (by unfold ks at hk; omega)]
theorem JS.put {q i : Nat} {x : Int32} (h : JS τ) (r : JR τ) (hq : ¬ ks q i) : JS (u2 τ q i x) := h.set r.hK.2 ⟨r.hg.2, r.hw.2⟩ hq
theorem JS.border {x y : Int32} (h : JS τ) (r : JR τ) (hR5 : R ≤ 5) : JS (g_Mborder τ x y R) := by
  have k1 : ∀ c, c < R → ¬ ks (5010 + c) 3 := fun c hc k => by unfold ks at k; omega
  have k2 : ∀ c, c < R → ¬ kr (5010 + c) 3 := fun c hc k => by unfold kr at k; omega
  unfold g_Mborder
  split
  · rename_i hx
    split
    · rename_i hy
      split
      · exact h.s00 r
      · split
        · exact ((h.s0 r).put r.s0 (k1 _ hx.2)).put (r.s0.set (k2 _ hx.2) (.inl (by decide))) (k1 _ hy.2)
        · exact h.s00 r
    · exact h.s00 r
  · exact h.s00 r
theorem JS.rules {x y : Int32} (h : JS τ) (r : JR τ) : JS (g_Mrules τ x y) := by
  unfold g_Mrules
  split
  · split
    · exact ((h.s0 r).put r.s0 (ks50 (by decide))).put (r.s0.set (kr50 (by decide)) (.inl (by decide))) (ks50 (by decide))
    · exact h.s00 r
  · exact h.s00 r
theorem JS.step {x : Int32} (h : JS τ) (r : JR τ) : JS (g_Mstep τ x) := by
  unfold g_Mstep
  split
  · split
    · exact (h.s0 r).put r.s0 (ks50 (by decide))
    · exact h.s00 r
  · exact h.s00 r
theorem JS.knock (h : JS τ) (r : JR τ) : JS (g_Mknock τ) := (h.s0 r).put r.s0 (ks50 (by decide))
theorem JS.rest {τ2 : XS9} (h : JS τ) (r : JR τ) (e : ∀ q i, ks q i → τ2 q i = τ q i) : JS τ2 := h.of r.hK.2 ⟨r.hg.2, r.hw.2⟩ e
theorem JS.station {x y : Int32} (h : JS τ) (r : JR τ) : JS (g_Mstation τ x y R C) := by
  unfold g_Mstation
  split
  · split
    · split
      · exact h.s00 r
      · unfold g_addI
        exact (h.s0 r).rest r.s0 fun q i hk => by rw [u2_ne (by unfold ks at hk; omega), u2_ne (by unfold ks at hk; omega), u2_ne (by unfold ks at hk; omega), u2_ne (by unfold ks at hk; omega)]
    · exact h.s00 r
  · exact h.s00 r
theorem JS.ask {x y : Int32} (h : JS τ) (r : JR τ) : JS (g_Mask τ x y C) := by
  unfold g_Mask
  split
  · split
    · unfold g_setS
      exact (h.s0 r).rest r.s0 fun q i hk => by rw [u2_ne (by unfold ks at hk; omega), u2_ne (by unfold ks at hk; omega)]
    · exact h.s00 r
  · exact h.s00 r
theorem JS.region {x y v : Int32} (h : JS τ) (r : JR τ) (hR5 : R ≤ 5) : JS (g_Mregion τ x y v R) := by
  unfold g_Mregion
  split
  · split
    · split
      · split
        · split
          · exact h.s00 r
          · exact (h.s0 r).rest r.s0 fun q i hk => by rw [u2_ne (by unfold ks at hk; omega), uR_ne (by unfold ks at hk; omega)]
        · exact h.s00 r
      · exact h.s00 r
    · exact h.s00 r
  · exact h.s00 r
theorem JS.offer {x y v : Int32} (h : JS τ) (r : JR τ) (hB6 : B ≤ 6) : JS (g_Moffer τ x y v R B pk) := by
  unfold g_Moffer
  split
  · rename_i hx
    have hx2 := hx.2
    split
    · exact h.s00 r
    · split
      · exact h.s00 r
      · split
        · split
          · rename_i hs2
            split
            · exact h.s00 r
            · split
              · exact h.s00 r
              · split
                · exact h.s00 r
                · split
                  · exact h.s00 r
                  · split
                    · unfold g_Madd g_addI
                      have e : ∀ q, q ≠ 5030 + cn x → u2 (u2 (u2 (u2 (u2 τ 5000 0 0) (5030 + cn x) (2 * pk (cn x)) y) (5030 + cn x) 900 (nI (2 * pk (cn x) + 1))) (5030 + cn x) (2 * pk (cn x) + 1) v) (5030 + cn x) 900 (nI (2 * pk (cn x) + 1 + 1)) q = u2 τ 5000 0 0 q := fun q hq => by rw [u2_ne hq, u2_ne hq, u2_ne hq, u2_ne hq]
                      generalize u2 (u2 (u2 (u2 (u2 τ 5000 0 0) (5030 + cn x) (2 * pk (cn x)) y) (5030 + cn x) 900 (nI (2 * pk (cn x) + 1))) (5030 + cn x) (2 * pk (cn x) + 1) v) (5030 + cn x) 900 (nI (2 * pk (cn x) + 1 + 1)) = t at e
                      have s1 : t 5000 1 = 2 := by rw [e _ (by omega), u2_oi (by decide)]; exact hs2
                      refine ⟨fun hs => ?_, fun hs => ?_, fun i j hi hj => ?_⟩
                      · rw [s1] at hs
                        exact absurd hs (by decide)
                      · rw [s1] at hs
                        exact absurd hs (by decide)
                      · have eK : mK t = mK τ := congrArg cn (by rw [e _ (by omega), u2_ne (by omega)])
                        rw [eK] at hi
                        have := r.hK.2
                        rw [e _ (by omega), e _ (by omega), u2_ne (by omega), u2_ne (by omega)]
                        exact h.2.2 i j hi hj
                    · exact h.s00 r
          · exact h.s00 r
        · exact h.s00 r
  · exact h.s00 r
theorem JS.init : JS s0M := by
  refine ⟨fun hs => absurd hs (by decide), fun _ j hj => ?_, fun i j hi hj => absurd hi (Nat.not_lt_zero i)⟩
  show cn (s0M (5030 + j) 900) / 2 = 0
  unfold s0M
  rw [if_neg (by omega)]
  rfl
theorem JA.init : JA s0M := by
  have z : ∀ q i, q ≠ 5000 → s0M q i = 0 := fun q i hq => by unfold s0M; rw [if_neg hq]
  refine ⟨by rw [z _ _ (by decide)]; exact bd.zero, by rw [z _ _ (by decide)]; exact bd.zero, by rw [z _ _ (by decide)]; exact bd.zero, fun _ => ⟨z _ _ (by decide), z _ _ (by decide)⟩, .inl (z _ _ (by decide)), fun hs => absurd hs (by decide), fun b hb => ?_, by rw [z _ _ (by decide), z _ _ (by decide)], fun j hj => ?_, fun j hj => ?_, fun j k hj hk => ?_, by rw [z _ _ (by decide)]; exact ev.zero, fun q hq => ?_, fun q hq => ?_, fun q hq => ?_, fun hs => absurd hs (by decide), ⟨by decide, by decide⟩⟩
  · rw [z _ _ (by omega), z _ _ (by omega), z _ _ (by omega), z _ _ (by omega)]
    exact ⟨bd.zero, bd.zero, bd.zero, bd.zero⟩
  · rw [z _ _ (by omega)]; exact ev.zero
  · rw [z _ _ (by omega)]; exact bd.zero
  · rw [z _ _ (by omega)]; exact bd.zero
  · rw [z _ _ (by omega)] at hq
    exact absurd hq (Nat.not_lt_zero q)
  · rw [z _ _ (by omega)]; exact bd.zero
  · rw [z _ _ (by omega)]; exact bd.zero
theorem JR.init : JR s0M := ⟨JA.init, ⟨⟨rfl, rfl⟩, fun q a b => by unfold s0M; rw [if_neg (by omega)]⟩⟩
theorem R2.init : R2 s0M s0C := ⟨by decide, by decide, by decide⟩
end
