/-! ===== the answers of packs and clear ===== -/
section
variable {τ σ : XS9} {x y v : Int32} {C ch : Nat}
theorem cp_01 {s : XS9} {x : Int32} {i C : Nat} {rg : Nat → Nat} {qa ch : Nat} : f_Mcp s x i C rg qa ch = 0 ∨ f_Mcp s x i C rg qa ch = 1 := bo_Mpk C s i
theorem says_packs (h : RA τ σ) (hb : RB τ) (r : JR τ) (eC : aC σ = mC τ) : g_Mpacks τ x y (mR τ) (mC τ) (mrg τ) 5000 0 = lw_k [eIAE] (o_packs σ x y (aC σ) (arg σ)) ∧ ∀ w, o_packs σ x y (aC σ) (arg σ) = .inl w → w = f_Mpacks τ x y (mR τ) (mC τ) (mrg τ) := by
  rw [eC]
  unfold g_Mpacks o_packs f_Mpacks
  by_cases c1 : n_lt x (2 ^ mC τ)
  · by_cases c2 : n_bt y 1 6
    · have hc := cn6 c2
      simp only [if_pos c1, if_pos c2]
      refine ⟨?_, fun w e => ?_⟩
      · rw [u2_ne (by decide), fr_Mcp ⟨by decide, hc⟩, uR_ne (by decide), u2_at]
        rfl
      · rw [← Sum.inl.inj e, pack_eq h hb r hc]
        rcases cp_01 (s := uR (u2 τ 5000 0 0) 20000 (rowN (cn y))) (x := nI (cn x)) (i := 0) (C := mC τ) (rg := mrg τ) (qa := 20000) (ch := cn y) with z | z
        · rw [if_pos z, z]
        · rw [if_neg (by rw [z]; decide), z]
    · simp only [if_pos c1, if_neg c2]
      exact ⟨u2_at, fun w e => by cases e⟩
  · simp only [if_neg c1]
    exact ⟨u2_at, fun w e => by cases e⟩
/-- asks are from 1 to 9999 -/
def RS (τ : XS9) : Prop := ∀ k, k < mC τ → bd 9999 (τ 5004 (2 * k + 1)) ∧ τ 5004 (2 * k + 1) ≠ 0
end
