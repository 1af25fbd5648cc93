section
variable {s0 t0 s t : XS9} {x : Int32} {i C ch u qa : Nat} {rg : Nat → Nat}
theorem sim (hrg : ∀ j, j < C → rg j < 5) (hC10 : C ≤ 10) (hch : ch ≤ 6) (hqa : 20000 ≤ qa) (hD : DISr s0 rg C s0) (hN : ∀ a b, a < C → b < C → (nearC s0 rg a b ↔ nearM t0 rg b a)) : ∀ (f i : Nat), i + f = 10 → i ≤ C → ∀ (s t : XS9) (u : Nat), (∀ q, q ≠ 1153 → s q = s0 q) → (∀ q, q ≠ qa → t q = t0 q) → STC qa ch i u s t →
    (fg_pack ch x C f i).1 s u = f_Mcp t x i C rg qa ch ∧ ((fg_pack ch x C f i).1 s u = 0 → (fg_pack ch x C f i).2 s u = s)
  | 0, i, e, hi, s, t, u, hs, ht, h => by
    obtain rfl : i = C := by omega
    rw [cp_end hC10]
    exact ⟨rfl, fun _ => rfl⟩
  | f + 1, i, e, hi, s, t, u, hs, ht, h => by
    show f_packStep s (fg_pack ch x C f (i + 1)).1 (fg_pack ch x C f (i + 1)).2 i ch u x C = _ ∧ (f_packStep s (fg_pack ch x C f (i + 1)).1 (fg_pack ch x C f (i + 1)).2 i ch u x C = 0 → g_packStep s (fg_pack ch x C f (i + 1)).1 (fg_pack ch x C f (i + 1)).2 i ch u x C = s)
    unfold f_packStep g_packStep
    rcases Nat.lt_or_ge i C with l | l
    · have n1 : ¬ nI C ≤ nI i := fun q => absurd ((nI_leI (a := C) (b := i) (by omega) (by omega)).mp q) (by omega)
      rw [if_neg n1, if_neg n1]
      have ih := sim hrg hC10 hch hqa hD hN f (i + 1) (by omega) (by omega)
      by_cases hb : bt x i = true
      · have nb : ¬ (x &&& (1 <<< ((nI i) &&& 31))) = 0 := fun q => by rw [(b_tst2 (by omega)).mp q] at hb; cases hb
        have nb2 : ¬ ((x >>> ((nI i) &&& 31)) &&& 1) = 0 := fun q => by rw [(b_tst1 (by omega)).2.mp q] at hb; cases hb
        rw [if_neg nb, if_neg nb]
        obtain ⟨C', rfl⟩ : ∃ C', C = C' + 1 := ⟨C - 1, by omega⟩
        have e3 := x3_here hC10 l nb2
        have em : f_Mcp t x i (C' + 1) rg qa ch = vXR (x_MpkStep_51 t (fg_Mpk x (C' + 1) rg qa ch C').1 (fg_Mpk x (C' + 1) rg qa ch C').2 x i (C' + 1) rg qa ch t) := by
          show f_MpkStep t (fg_Mpk x (C' + 1) rg qa ch C').1 (fg_Mpk x (C' + 1) rg qa ch C').2 x i (C' + 1) rg qa ch = _
          unfold f_MpkStep
          rw [if_neg (by rw [e3]; exact fun q => absurd (nI_inj (by omega) (by omega) q) (by omega))]
          cases x_MpkStep_51 t (fg_Mpk x (C' + 1) rg qa ch C').1 (fg_Mpk x (C' + 1) rg qa ch C').2 x i (C' + 1) rg qa ch t <;> rfl
        rw [em]
        have key : vXR (x_packStep_43 s (fg_pack ch x (C' + 1) f (i + 1)).1 (fg_pack ch x (C' + 1) f (i + 1)).2 i ch u x (C' + 1) s) = vXR (x_MpkStep_51 t (fg_Mpk x (C' + 1) rg qa ch C').1 (fg_Mpk x (C' + 1) rg qa ch C').2 x i (C' + 1) rg qa ch t) ∧ (vXR (x_packStep_43 s (fg_pack ch x (C' + 1) f (i + 1)).1 (fg_pack ch x (C' + 1) f (i + 1)).2 i ch u x (C' + 1) s) = 0 → mXR (x_packStep_43 s (fg_pack ch x (C' + 1) f (i + 1)).1 (fg_pack ch x (C' + 1) f (i + 1)).2 i ch u x (C' + 1) s) = s) := by
          unfold x_packStep_43 x_MpkStep_51
          rw [e3]
          have fe : ∀ k, k < ch → ((s 1153 k) &&& (s 1152 i) = 0 ↔ ¬ f_MisFree t (t qa k) i rg = 0) := fun k hk => by
            obtain ⟨a, m, b, c2, d⟩ := h.2 k hk
            rw [free_eq hrg l hC10, b_dis, a, c2, hs 1152 (by decide)]
            refine ⟨fun H ⟨j, j1, j2, j3⟩ => ?_, fun H j j1 j2 => ?_⟩
            · have w := (hD i l j (by omega)).mpr ⟨by omega, by omega, (hN i j l (by omega)).mpr ?_⟩
              · rw [H j (by omega) j2] at w
                cases w
              · unfold nearM at j3 ⊢
                rw [← ht _ (by have := hrg j (by omega); omega)]
                exact j3
            · cases w : bt (s0 1152 i) j with
              | false => rfl
              | true =>
                exfalso
                obtain ⟨w1, w2, w3⟩ := (hD i l j j1).mp w
                have ji : j < i := by
                  rcases Nat.lt_or_ge j i with z | z
                  · exact z
                  · rw [b_lo b z] at j2
                    cases j2
                refine H ⟨j, ji, j2, ?_⟩
                have w4 := (hN i j l w1).mp w3
                unfold nearM at w4 ⊢
                rw [ht _ (by have := hrg j (by omega); omega)]
                exact w4
          have pm : ∀ k, k < ch → (fg_Mpk x (C' + 1) rg qa ch C').2 (u2 t qa k ((t qa k) ||| (1 <<< ((nI i) &&& 31)))) (i + 1) = u2 t qa k ((t qa k) ||| (1 <<< ((nI i) &&& 31))) := fun k hk => pk_same hC10 C' _ (i + 1) (by omega) (by omega) (h.cln.put (by omega) hk).1
          have pf : ∀ k, (fg_Mpk x (C' + 1) rg qa ch C').1 (u2 t qa k ((t qa k) ||| (1 <<< ((nI i) &&& 31)))) (i + 1) = f_Mcp (u2 t qa k ((t qa k) ||| (1 <<< ((nI i) &&& 31)))) x (i + 1) (C' + 1) rg qa ch := fun k => (pk_fuel hC10 C' (C' + 1) _ (i + 1) (by omega) (by omega) (by omega)).1
          have ihk : ∀ k, k < ch → k ≤ u → _ := fun k hk hku => ih (u2 s 1153 k ((s 1153 k) ||| (1 <<< ((nI i) &&& 31)))) (u2 t qa k ((t qa k) ||| (1 <<< ((nI i) &&& 31)))) (max u (k + 1)) (fun q hq => (u2_ne hq).trans (hs q hq)) (fun q hq => (u2_ne hq).trans (ht q hq)) (h.put (by omega) hk hku)
          have TL := two_loops (S := XS9) (T := XS9) (s := s) (t := t) (u := u) (ch := ch) (stepC := fun i43 s43 => (if (nI ch) ≤ (nI i43) then .inr (s43, 0) else (if ((s43 1153 i43) &&& (s43 1152 i)) = 0 then (if ((fg_pack ch x (C' + 1) f (i + 1)).1 (u2 s43 1153 i43 ((s43 1153 i43) ||| (1 <<< ((nI i) &&& 31)))) (max u (i43 + 1))) = 0 then .inl (u2 ((fg_pack ch x (C' + 1) f (i + 1)).2 (u2 s43 1153 i43 ((s43 1153 i43) ||| (1 <<< ((nI i) &&& 31)))) (max u (i43 + 1))) 1153 i43 ((((fg_pack ch x (C' + 1) f (i + 1)).2 (u2 s43 1153 i43 ((s43 1153 i43) ||| (1 <<< ((nI i) &&& 31)))) (max u (i43 + 1))) 1153 i43) - (1 <<< ((nI i) &&& 31)))) else .inr ((fg_pack ch x (C' + 1) f (i + 1)).2 (u2 s43 1153 i43 ((s43 1153 i43) ||| (1 <<< ((nI i) &&& 31)))) (max u (i43 + 1)), 1)) else .inl s43)))
            (stepM := fun i51 s51 => (if (f_MisFree s51 (s51 qa i51) i rg) = 0 then .inl s51 else (if ((fg_Mpk x (C' + 1) rg qa ch C').1 (u2 s51 qa i51 ((s51 qa i51) ||| (1 <<< ((nI i) &&& 31)))) (i + 1)) = 0 then (if ((((fg_Mpk x (C' + 1) rg qa ch C').2 (u2 s51 qa i51 ((s51 qa i51) ||| (1 <<< ((nI i) &&& 31)))) (i + 1)) qa i51) &&& ((1 <<< ((nI i) &&& 31)) ^^^ (-1))) = 0 then .inr (u2 ((fg_Mpk x (C' + 1) rg qa ch C').2 (u2 s51 qa i51 ((s51 qa i51) ||| (1 <<< ((nI i) &&& 31)))) (i + 1)) qa i51 ((((fg_Mpk x (C' + 1) rg qa ch C').2 (u2 s51 qa i51 ((s51 qa i51) ||| (1 <<< ((nI i) &&& 31)))) (i + 1)) qa i51) &&& ((1 <<< ((nI i) &&& 31)) ^^^ (-1))), 0) else .inl (u2 ((fg_Mpk x (C' + 1) rg qa ch C').2 (u2 s51 qa i51 ((s51 qa i51) ||| (1 <<< ((nI i) &&& 31)))) (i + 1)) qa i51 ((((fg_Mpk x (C' + 1) rg qa ch C').2 (u2 s51 qa i51 ((s51 qa i51) ||| (1 <<< ((nI i) &&& 31)))) (i + 1)) qa i51) &&& ((1 <<< ((nI i) &&& 31)) ^^^ (-1))))) else .inr (u2 ((fg_Mpk x (C' + 1) rg qa ch C').2 (u2 s51 qa i51 ((s51 qa i51) ||| (1 <<< ((nI i) &&& 31)))) (i + 1)) qa i51 ((((fg_Mpk x (C' + 1) rg qa ch C').2 (u2 s51 qa i51 ((s51 qa i51) ||| (1 <<< ((nI i) &&& 31)))) (i + 1)) qa i51) &&& ((1 <<< ((nI i) &&& 31)) ^^^ (-1))), 1))))
            (fun k => ¬ f_MisFree t (t qa k) i rg = 0) (fun k => f_Mcp (u2 t qa k ((t qa k) ||| (1 <<< ((nI i) &&& 31)))) x (i + 1) (C' + 1) rg qa ch) h.1 ?_ ?_ ?_ ?_ u 0 (Nat.zero_add u)
          · rw [Nat.sub_zero] at TL
            exact TL
          · intro k hku hk
            have n2 : ¬ nI ch ≤ nI k := fun q => absurd ((nI_leI (a := ch) (b := k) (by have := h.1; omega) (by omega)).mp q) (by omega)
            obtain ⟨r1, r2⟩ := ihk k hk hku
            (try dsimp only)
            rw [if_neg n2]
            refine ⟨fun a => ?_, fun a v => ?_, fun a v => ?_⟩
            · rw [if_neg (fun q => a ((fe k hk).mp q))]
            · rw [if_pos ((fe k hk).mpr a), if_pos (r1.trans v), r2 (r1.trans v)]
              congr 1
              refine u2_back ?_
              obtain ⟨a9, m, b, c2, d⟩ := h.2 k hk
              rw [u2_at, a9, c2, (bset (by omega) b).1, bsubm (by omega) b]
            · rw [if_pos ((fe k hk).mpr a), if_neg (fun q => v (r1.symm.trans q))]
              exact ⟨_, rfl⟩
          · intro eu
            (try dsimp only)
            rw [if_pos (by rw [eu]; exact Int32.le_refl _)]
          · intro k hku
            have hk : k < ch := by have := h.1; omega
            obtain ⟨a9, m, b, c2, d⟩ := h.2 k hk
            have m0 : ¬ t qa k = 0 := fun q => by
              rw [c2] at q
              have := nI_zero (n := m) (by have : 2 ^ i ≤ 2 ^ 9 := Nat.pow_le_pow_right (by decide) (by omega); omega) q
              omega
            obtain ⟨q1, q2⟩ := h.cln.put (by omega) hk
            have q3 : (u2 t qa k ((t qa k) ||| (1 <<< ((nI i) &&& 31)))) qa k &&& ((1 <<< ((nI i) &&& 31)) ^^^ (-1)) = t qa k := by rw [u2_at, c2, (bset (by omega) b).1, (bset (by omega) b).2]
            (try dsimp only)
            rw [pm k hk, pf k, q2, q3]
            refine ⟨fun a => ?_, fun a v => ?_, fun a v => ?_⟩
            · rw [if_pos (Classical.not_not.mp a)]
            · rw [if_neg a, if_pos v, if_neg m0]
            · rw [if_neg a, if_neg v]
              exact ⟨_, rfl⟩
          · intro huc
            obtain ⟨a9, m, b, c2, d⟩ := h.2 u huc
            have m0 : t qa u = 0 := by
              rw [c2, d.mpr (Nat.le_refl u)]
              rfl
            obtain ⟨q1, q2⟩ := h.cln.put (by omega) huc
            have q3 : (u2 t qa u ((t qa u) ||| (1 <<< ((nI i) &&& 31)))) qa u &&& ((1 <<< ((nI i) &&& 31)) ^^^ (-1)) = t qa u := by rw [u2_at, c2, (bset (by omega) b).1, (bset (by omega) b).2]
            have fr : ¬ f_MisFree t (t qa u) i rg = 0 := (fe u huc).mp (by
              rw [a9, m0]
              exact b_dis.mpr fun j _ z => by rw [b_0] at z; cases z)
            (try dsimp only)
            rw [pm u huc, pf u, q2, q3]
            refine ⟨fr, fun v => ?_, fun v => ?_⟩
            · rw [if_neg fr, if_pos v, if_pos m0]
              exact ⟨_, rfl⟩
            · rw [if_neg fr, if_neg v]
              exact ⟨_, rfl⟩
        generalize (x_packStep_43 s (fg_pack ch x (C' + 1) f (i + 1)).1 (fg_pack ch x (C' + 1) f (i + 1)).2 i ch u x (C' + 1) s) = w9 at key ⊢
        cases w9 with
        | inl a => exact key
        | inr a => exact key
      · have hb0 : bt x i = false := by cases w : bt x i with | false => rfl | true => exact absurd w hb
        rw [if_pos ((b_tst2 (by omega)).mpr hb0), if_pos ((b_tst2 (by omega)).mpr hb0), cp_out hC10 l ((b_tst1 (by omega)).2.mpr hb0)]
        exact ih s t u hs ht (h.mono (Nat.le_succ i))
    · obtain rfl : i = C := by omega
      rw [if_pos (Int32.le_refl _), if_pos (Int32.le_refl _), cp_end hC10]
      exact ⟨rfl, fun _ => rfl⟩
end
