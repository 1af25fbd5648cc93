/-! ===== pure facts: the relation through bidder and the clock's beginning ===== -/
section
variable {σ τ : XS9} {R B C K g w : Nat} {gr cnt sp pk tn rg : Nat → Nat} {cd : Nat → Nat → Nat}
theorem R2.bidder {x y v u : Int32} (h : R2 τ σ) (hB6 : B ≤ 6) : R2 (g_Mbidder τ x y v u B) (g_bidder σ x y v u B) := by
  have s00 : ∀ x9, R2 (u2 (u2 τ 5000 0 0) 5000 0 x9) σ := fun x9 => h.s0.s0
  unfold g_Mbidder g_bidder
  by_cases q1 : n_bt x 0 99999
  · by_cases q2 : n_bt y 1 200
    · by_cases q3 : n_bt v 0 30
      · by_cases q7 : n_bt u 0 3
        · by_cases q4 : σ 1000 7 = 0
          · have q5 : τ 5000 1 = 0 := h.2.2.mp q4
            by_cases q6 : B < 6
            · have c6 : nI B < 6 := (nI_ltI (a := B) (b := 6) (by omega) (by omega)).mpr q6
              have d6 : ¬ nI B = 6 := fun e => by
                have := congrArg cn e
                rw [cn_nI (by omega)] at this
                exact absurd this (by show ¬ B = 6; omega)
              rw [if_pos q1, if_pos q2, if_pos q3, if_pos q7, if_pos q5, if_neg d6, if_pos q1, if_pos q2, if_pos q3, if_pos q7, if_pos q4, if_pos c6]
              refine h.bg ?_ ?_ ?_ ?_
              · unfold g_addBidder
                rw [u2_oi (by decide), u2_ne (by decide), u2_ne (by decide), u2_ne (by decide), u2_ne (by decide), u2_ne (by decide), u2_ne (by omega), uR_ne (by omega), u2_ne (by decide)]
                exact h.1
              · unfold g_addBidder
                rw [u2_at, u2_at]
              · unfold g_addBidder
                rw [u2_ne (by decide), u2_ne (by decide), u2_ne (by decide), u2_ne (by decide), u2_ne (by decide)]
              · rw [u2_ne (by decide), u2_ne (by omega), uR_ne (by omega), u2_oi (by decide)]
            · obtain rfl : B = 6 := by omega
              rw [if_pos q1, if_pos q2, if_pos q3, if_pos q7, if_pos q5, if_pos (show nI 6 = 6 from rfl), if_pos q1, if_pos q2, if_pos q3, if_pos q7, if_pos q4, if_neg (by decide)]
              exact s00 2
          · have q5 : ¬ τ 5000 1 = 0 := fun e => q4 (h.2.2.mpr e)
            rw [if_pos q1, if_pos q2, if_pos q3, if_pos q7, if_neg q5, if_pos q1, if_pos q2, if_pos q3, if_pos q7, if_neg q4]
            exact s00 2
        · rw [if_pos q1, if_pos q2, if_pos q3, if_neg q7, if_pos q1, if_pos q2, if_pos q3, if_neg q7]
          exact s00 1
      · rw [if_pos q1, if_pos q2, if_neg q3, if_pos q1, if_pos q2, if_neg q3]
        exact s00 1
    · rw [if_pos q1, if_neg q2, if_pos q1, if_neg q2]
      exact s00 1
  · rw [if_neg q1, if_neg q1]
    exact s00 1
theorem R2.opn (h : R2 τ σ) (hR5 : R ≤ 5) (hB6 : B ≤ 6) : R2 (g_Mopen τ R B) (g_open σ R B) := by
  have s00 : ∀ x9, R2 (u2 (u2 τ 5000 0 0) 5000 0 x9) σ := fun x9 => h.s0.s0
  unfold g_Mopen g_open
  by_cases q4 : σ 1000 7 = 0
  · have q5 : τ 5000 1 = 0 := h.2.2.mp q4
    rw [if_pos q5, if_pos q4]
    by_cases r0 : R = 0
    · rw [if_pos r0, if_pos (by rw [r0]; rfl)]
      exact s00 1
    · rw [if_neg r0, if_neg (fun e => r0 (nI_zero (by omega) e))]
      by_cases b0 : B = 0
      · rw [if_pos b0, if_pos (by rw [b0]; rfl)]
        exact s00 1
      · rw [if_neg b0, if_neg (fun e => b0 (nI_zero (by omega) e))]
        have k : ∀ q, q < 7000 → u2 (g_Kinit (u2 (u2 τ 5000 0 0) 5000 1 1) 7000 R B) 7000 25 1 q = u2 (u2 τ 5000 0 0) 5000 1 1 q := fun q hq => by rw [u2_ne (by omega), fr_Kinit (by omega)]
        refine ⟨?_, ?_, ?_⟩
        · rw [k _ (by omega), u2_ne (by decide), u2_ne (by decide), u2_ne (by decide)]
          exact h.1
        · rw [k _ (by omega), u2_ne (by decide), u2_ne (by decide), u2_ne (by decide)]
          exact h.2.1
        · rw [k _ (by omega), u2_at, u2_at]
  · have q5 : ¬ τ 5000 1 = 0 := fun e => q4 (h.2.2.mpr e)
    rw [if_neg q5, if_neg q4]
    exact s00 1
theorem VM.ofRegion {x y : Int32} : VM τ (g_MofRegion τ x y R B C g) := by
  unfold g_MofRegion
  (repeat' split) <;> first | exact VM.s00 | exact VM.s0
theorem VM.ofBidder {x y : Int32} : VM τ (g_MofBidder τ x y R B pk g) := by
  unfold g_MofBidder
  (repeat' split) <;> first | exact VM.s00 | exact VM.s0
theorem VM.wants {x y v : Int32} : VM τ (g_Mwants τ x y v R B g) := by
  unfold g_Mwants
  (repeat' split) <;> first | exact VM.s00 | exact VM.s0
theorem VM.priceIn {x y : Int32} : VM τ (g_MpriceIn τ x y R K) := by
  unfold g_MpriceIn
  (repeat' split) <;> first | exact VM.s00 | exact VM.s0
theorem VM.codeIn {x y v : Int32} : VM τ (g_McodeIn τ x y v B K) := by
  unfold g_McodeIn
  (repeat' split) <;> first | exact VM.s00 | exact VM.s0
theorem VM.ofPackage {x y v : Int32} : VM τ (g_MofPackage τ x y v B pk) := by
  unfold g_MofPackage
  (repeat' split) <;> first | exact VM.s00 | exact VM.s0
theorem VM.pays {x y : Int32} : VM τ (g_Mpays τ x y B) := by
  unfold g_Mpays
  (repeat' split) <;> first | exact VM.s00 | exact VM.s0
theorem VM.holder {x y : Int32} : VM τ (g_Mholder τ x y R B tn sp) := by
  unfold g_Mholder
  (repeat' split) <;> first | exact VM.s00 | exact VM.s0
theorem VM.most {x y : Int32} : VM τ (g_Mmost τ x y R B g) := by
  unfold g_Mmost
  (repeat' split) <;> first | exact VM.s00 | exact VM.s0
theorem VM.contradicts {x : Int32} {n : Nat} : VM τ (g_Mcontradicts τ x R B g n) := by
  unfold g_Mcontradicts
  (repeat' split) <;> first | exact VM.s00 | exact VM.s0
theorem VM.cpay {y : Nat} (hB6 : B ≤ 6) : VM τ (u2 (u2 (g_Cpay (g_Cinit τ R B pk gr cd) y 20000 B) 9000 20 0) 20000 20 0) := VM.hi fun q hq => by rw [u2_ne (by omega), u2_ne (by omega), fr_Cpay ⟨by omega, hB6⟩, fr_Cinit (by omega)]
theorem VM.wouldPay {x y : Int32} (hB6 : B ≤ 6) : VM τ (g_MwouldPay τ x y R B pk gr cd) := by
  unfold g_MwouldPay
  (repeat' split) <;> first | exact VM.s00 | exact VM.s0.trans (VM.cpay hB6)
theorem VM.objects {x y : Int32} (hB6 : B ≤ 6) : VM τ (g_Mobjects τ x y R B pk gr cd) := by
  unfold g_Mobjects
  (repeat' split) <;> first | exact VM.s00 | exact VM.s0.trans (VM.cpay hB6)
theorem VM.anew {x y v u : Int32} (hp : ∃ m, m ≤ 60 ∧ PA9 (u2 τ 5000 0 0) m (g_MrunAnew (u2 τ 5000 0 0) (nI (rn x + 1)) (cn y) (cn v) u R B K)) : VM τ (g_Manew τ x y v u R B K) := by
  obtain ⟨m, hm, -, -, -, -, -, pe⟩ := hp
  unfold g_Manew
  (repeat' split) <;> first | exact VM.s00 | exact VM.s0.trans (VM.rows (by rw [u2_ne (by decide), pe _ (by omega)]) (by rw [u2_ne (by decide), pe _ (by omega)]) (by rw [u2_ne (by decide), pe _ (by omega)]))
theorem VM.keep {wy : Nat} (hB6 : B ≤ 6) : VM τ (g_Mkeep τ R B pk gr cd wy sp) := VM.rows (fr_Mkeep ⟨by omega, by omega, by omega, hB6⟩) (fr_Mkeep ⟨by omega, by omega, by omega, hB6⟩) (fr_Mkeep ⟨by omega, by omega, by omega, hB6⟩)
theorem VM.settle {x : Int32} (hB6 : B ≤ 6) : VM τ (g_Msettle τ x R B pk gr cd sp) := by
  unfold g_Msettle
  split
  · split
    · rename_i h2
      refine VM.trans (τ2 := u2 (u2 (u2 τ 5000 0 0) 5000 1 3) 5000 7 (nI (cn x))) ⟨by rw [u2_ne (by decide), u2_ne (by decide), u2_ne (by decide)], by rw [u2_ne (by decide), u2_ne (by decide), u2_ne (by decide)], ?_⟩ (VM.keep hB6)
      rw [u2_oi (by decide), u2_at, h2]
      exact ⟨fun e => absurd e (by decide), fun e => absurd e (by decide)⟩
    · exact VM.s00
  · exact VM.s00
theorem VM.fail {x : Int32} {wy : Nat} (hB6 : B ≤ 6) : VM τ (g_Mfail τ x R B pk gr cd wy sp) := by
  unfold g_Mfail
  split
  · rename_i hx
    have hx2 := hx.2
    split
    · split
      · exact VM.s00
      · exact ((VM.s0.trans (VM.set (by decide))).trans (VM.set (by omega))).trans (VM.keep hB6)
    · exact VM.s00
  · exact VM.s00
end
