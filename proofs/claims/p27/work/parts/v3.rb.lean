/-! ===== stations, alike on both sides ===== -/
def RB (τ : XS9) : Prop := ∀ a b, a < 5 → b < 5 → bt (τ (5010 + a) 3) b = bt (τ (5010 + b) 3) a
section
variable {τ τ2 σ : XS9} {x y v : Int32} {R C ch : Nat}
theorem RB.kept (h : RB τ) (e : ∀ a, a < 5 → τ2 (5010 + a) 3 = τ (5010 + a) 3) : RB τ2 := fun a b ha hb => by
  rw [e a ha, e b hb]
  exact h a b ha hb
theorem RB.ma (h : RB τ) (m : MA τ τ2) : RB τ2 := h.kept fun a ha => m _ _ (by unfold kb; omega)
theorem RB.s00 (h : RB τ) {x : Int32} : RB (u2 (u2 τ 5000 0 0) 5000 0 x) := h.ma MA.s00
theorem RB.init : RB s0M := fun a b ha hb => by rw [s0M_50 (by omega), s0M_50 (by omega), b_0, b_0]
theorem RB.region (h : RB τ) (ha : RA τ σ) (hR5 : R ≤ 5) (eR : cn (τ 5001 900) = R) : RB (g_Mregion τ x y v R) := by
  unfold g_Mregion
  (repeat' split) <;> first | exact h.s00 | skip
  rename_i hn
  have hR : R < 5 := by
    have : R ≠ 5 := fun e => hn (by rw [e]; rfl)
    omega
  refine h.kept fun a ha5 => ?_
  by_cases e : a = R
  · subst e
    rw [u2_ne (by omega), uR_eq]
    exact (ha.2.2.2.2.2 a (by omega) ha5).symm
  · rw [u2_ne (by omega), uR_ne (by omega), u2_ne (by omega)]
theorem RB.bidder {u : Int32} {B : Nat} (h : RB τ) (hB6 : B ≤ 6) : RB (g_Mbidder τ x y v u B) := by
  unfold g_Mbidder
  (repeat' split) <;> first | exact h.s00 | (refine h.kept fun a ha5 => ?_; rw [u2_ne (by omega), u2_ne (by omega), uR_ne (by omega), u2_ne (by omega)])
theorem RB.rules (h : RB τ) : RB (g_Mrules τ x y) := by
  unfold g_Mrules
  (repeat' split) <;> first | exact h.s00 | (refine h.kept fun a ha5 => ?_; rw [u2_ne (by omega), u2_ne (by omega), u2_ne (by omega)])
theorem RB.knock (h : RB τ) : RB (g_Mknock τ) := h.kept fun a ha5 => by
  unfold g_Mknock
  rw [u2_ne (by omega), u2_ne (by omega)]
theorem RB.station (h : RB τ) : RB (g_Mstation τ x y R C) := by
  unfold g_Mstation g_addI
  (repeat' split) <;> first | exact h.s00 | (refine h.kept fun a ha5 => ?_; rw [u2_ne (by omega), u2_ne (by omega), u2_ne (by omega), u2_ne (by omega), u2_ne (by omega)])
theorem RB.ask (h : RB τ) : RB (g_Mask τ x y C) := by
  unfold g_Mask g_setS
  (repeat' split) <;> first | exact h.s00 | (refine h.kept fun a ha5 => ?_; rw [u2_ne (by omega), u2_ne (by omega), u2_ne (by omega)])
theorem RB.border (h : RB τ) (hR5 : R ≤ 5) : RB (g_Mborder τ x y R) := by
  unfold g_Mborder
  split
  · rename_i hx
    split
    · rename_i hy
      split
      · exact h.s00
      · rename_i hn
        split
        · have hx2 := hx.2
          have hy2 := hy.2
          have hxy : cn y ≠ cn x := fun e => hn (by rw [e])
          rw [u2_ne (show 5010 + cn y ≠ 5010 + cn x by omega), u2_ne (show 5010 + cn y ≠ 5000 by omega)]
          have row : ∀ a b, a < 5 → b < 5 → bt (u2 (u2 (u2 τ 5000 0 0) (5010 + cn x) 3 (τ (5010 + cn x) 3 ||| 1 <<< (nI (cn y) &&& 31))) (5010 + cn y) 3 (τ (5010 + cn y) 3 ||| 1 <<< (nI (cn x) &&& 31)) (5010 + a) 3) b = (bt (τ (5010 + a) 3) b || decide ((a = cn x ∧ b = cn y) ∨ (a = cn y ∧ b = cn x))) := fun a b ha hb => by
            by_cases e1 : a = cn y
            · subst e1
              rw [u2_at, b_or, b_bit (by omega) (by omega)]
              congr 1
              refine decide_eq_decide.mpr ⟨fun z => .inr ⟨rfl, z⟩, fun z => ?_⟩
              rcases z with z | z
              · exact absurd z.1 hxy
              · exact z.2
            · rw [u2_ne (show 5010 + a ≠ 5010 + cn y by omega)]
              by_cases e2 : a = cn x
              · subst e2
                rw [u2_at, b_or, b_bit (by omega) (by omega)]
                congr 1
                refine decide_eq_decide.mpr ⟨fun z => .inl ⟨rfl, z⟩, fun z => ?_⟩
                rcases z with z | z
                · exact z.2
                · exact absurd z.1 e1
              · rw [u2_ne (show 5010 + a ≠ 5010 + cn x by omega), u2_ne (show 5010 + a ≠ 5000 by omega), decide_eq_false (by omega), Bool.or_false]
          intro a b ha hb
          rw [row a b ha hb, row b a hb ha, h a b ha hb]
          congr 1
          exact decide_eq_decide.mpr ⟨fun z => by omega, fun z => by omega⟩
        · exact h.s00
    · exact h.s00
  · exact h.s00
/-- the search from any rows that hold what was told, on both sides -/
theorem pack_any {s0 t0 : XS9} (h : RA τ σ) (hb : RB τ) (r : JR τ) (hch : ch ≤ 6) (s1013 : s0 1013 = σ 1013) (s1152 : s0 1152 = g_findDisturbed σ (mC τ) (arg σ) 1152) (z1153 : ∀ c, c < 6 → s0 1153 c = 0) (hm : ∀ a, a < 5 → t0 (5010 + a) = τ (5010 + a)) (ht : t0 20000 = rowN ch) : (fg_pack ch x (mC τ) 10 0).1 s0 0 = f_Mcp t0 x 0 (mC τ) (mrg τ) 20000 ch := by
  have hC10 := r.hS.2
  have hrg : ∀ j, j < mC τ → mrg τ j < 5 := fun j hj => Nat.lt_of_lt_of_le (r.hrg j hj).2 r.hR.2
  have erg : ∀ j, j < mC τ → arg σ j = mrg τ j := fun j hj => by
    show cn (σ 1151 j) = cn (τ 5004 (2 * j))
    rw [(h.2.2.2.2.1 j (by omega)).2]
  have hrgC : ∀ j, j < mC τ → arg σ j < 5 := fun j hj => by rw [erg j hj]; exact hrg j hj
  obtain ⟨d1, d2⟩ := dist_all (σ := σ) hrgC hC10
  have nC : ∀ a j, a < mC τ → j < mC τ → (nearC σ (arg σ) a j ↔ nearC σ (mrg τ) a j) := fun a j ha hj => by
    unfold nearC
    rw [erg a ha, erg j hj]
  refine (sim (s0 := s0) (t0 := t0) hrg hC10 hch (qa := 20000) (Nat.le_refl _) ?_ ?_ 10 0 rfl (Nat.zero_le _) s0 t0 0 (fun _ _ => rfl) (fun _ _ => rfl) ⟨Nat.zero_le _, fun c hc => ?_⟩).1
  · intro a ha j hj
    rw [s1152, d1 a ha j hj]
    have e9 : ∀ rg : Nat → Nat, nearC s0 rg a j ↔ nearC σ rg a j := fun rg => by
      unfold nearC
      rw [s1013]
    rw [e9]
    exact ⟨fun ⟨p, q, w⟩ => ⟨p, q, (nC a j ha p).mp w⟩, fun ⟨p, q, w⟩ => ⟨p, q, (nC a j ha p).mpr w⟩⟩
  · intro a b ha hb2
    unfold nearC nearM
    rw [s1013, hm _ (hrg b hb2), (h.2.1 _ (hrg a ha)).2.2.2, hb _ _ (hrg a ha) (hrg b hb2)]
    exact ⟨fun z => z.imp Eq.symm id, fun z => z.imp Eq.symm id⟩
  · rw [z1153 c (by omega), ht]
    have : rowN ch c = 0 := by
      unfold rowN
      rw [if_neg (by omega), if_neg (by omega)]
    rw [this]
    exact ⟨rfl, 0, Nat.one_pos, rfl, ⟨fun _ => Nat.zero_le _, fun _ => rfl⟩⟩
theorem again_any {s0 t0 : XS9} (h : RA τ σ) (hb : RB τ) (r : JR τ) (hch : ch ≤ 6) (hs : ∀ q, q ≠ 1153 → s0 q = g_findDisturbed σ (mC τ) (arg σ) q) (hm : ∀ a, a < 5 → t0 (5010 + a) = τ (5010 + a)) (ht : t0 20000 = rowN ch) : f_packAgain s0 x ch (mC τ) = f_Mcp t0 x 0 (mC τ) (mrg τ) 20000 ch :=
  pack_any (s0 := g_fill s0 1153 6 0) h hb r hch (by rw [fr_fill (by decide), hs _ (by decide), fr_findDisturbed (by decide)]) (by rw [fr_fill (by decide), hs _ (by decide)]) (fun c hc => fill_at 6 0 _ (fun q => absurd q (by omega)) (by omega)) hm ht
theorem pack_eq (h : RA τ σ) (hb : RB τ) (r : JR τ) (hch : ch ≤ 6) : f_pack σ x ch (mC τ) (arg σ) = f_Mcp (uR (u2 τ 5000 0 0) 20000 (rowN ch)) x 0 (mC τ) (mrg τ) 20000 ch :=
  again_any h hb r hch (fun _ _ => rfl) (fun a ha => by rw [uR_ne (by omega), u2_ne (by omega)]) (uR_eq _ _ _)
end
