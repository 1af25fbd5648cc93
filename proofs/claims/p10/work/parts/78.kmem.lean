/-! ===== the reference: what a close of the clock makes ===== -/
theorem lyB_eq {C C' : XS9} {b i : Nat} {s : Nat → Int32} (h0 : C 5001 900 = C' 5001 900)
    (h1 : C b 21 = C' b 21 ∨ (cn (C' b 21) = cn (C b 21) + 1 ∧ i ≠ 6 ∧ i ≠ 100 + cn (C b 21)))
    (h2 : C b 22 = C' b 22 ∨ (cn (C' b 22) = cn (C b 22) + 1 ∧ i ≠ 7 ∧ i ≠ 200 + cn (C b 22)))
    (h3 : C b 23 = C' b 23 ∨ (cn (C' b 23) = cn (C b 23) + 1 ∧ i ≠ 0 ∧ i ≠ 500 + cn (C' b 23)))
    (h4 : C b 24 = C' b 24 ∨ (cn (C' b 24) = cn (C b 24) + 1 ∧ i ≠ 0 ∧ i ≠ 700 + cn (C' b 24))) : lyB C b i s = lyB C' b i s := by
  have ite : ∀ {p q : Prop} [Decidable p] [Decidable q] {x y : Option XC}, (p ↔ q) → (if p then x else y) = (if q then x else y) := fun e => by
    by_cases a : ‹Prop›
    all_goals simp [e]
  unfold lyB
  by_cases u : i < 8
  · rw [if_pos u, if_pos u]
    split
    · rw [h3.resolve_right (fun e => e.2.1 rfl), h4.resolve_right (fun e => e.2.1 rfl)]
    · rw [h0]
    · rw [h1.resolve_right (fun e => e.2.1 rfl)]
    · rw [h2.resolve_right (fun e => e.2.1 rfl)]
    · rfl
  rw [if_neg u, if_neg u]
  by_cases u1 : i < 200
  · rw [if_pos u1, if_pos u1, h0]
    refine ite ?_
    rcases h1 with e | e
    · rw [e]
    · omega
  rw [if_neg u1, if_neg u1]
  by_cases u2 : i < 300
  · rw [if_pos u2, if_pos u2]
    refine ite ?_
    rcases h2 with e | e
    · rw [e]
    · omega
  rw [if_neg u2, if_neg u2]
  by_cases u3 : i < 700
  · rw [if_pos u3, if_pos u3]
    refine ite ?_
    rcases h3 with e | e
    · rw [e]
    · omega
  rw [if_neg u3, if_neg u3]
  by_cases u4 : i < 900
  · rw [if_pos u4, if_pos u4]
    refine ite ?_
    rcases h4 with e | e
    · rw [e]
    · omega
  rw [if_neg u4, if_neg u4]
theorem ctl_ne {σ : XS9} {q r i : Nat} {x : Int32} {f : Nat → Int32} {e : Nat} (h1 : q ≠ r) (h2 : q ≠ e) (j : Nat) : ctl σ q j = ctl (u2 (uR σ e f) r i x) q j := by
  unfold ctl
  rw [u2_ne h1, uR_ne h2]
theorem lyB_s {C : XS9} {b i : Nat} {s s' : Nat → Int32} (h : s = s' ∨ i = 0 ∧ s 9 = s' 9) : lyB C b i s = lyB C b i s' := by
  rcases h with rfl | ⟨rfl, h⟩
  · rfl
  · have e0 : ∀ s : Nat → Int32, lyB C b 0 s = some (17, 11, fun k => match k with | 0 => .ref (b + 1) | 1 => .ref (b + 2) | 2 => .ref (b + 500 + cn (C b 23)) | 3 => .ref (b + 700 + cn (C b 24)) | 4 => .ref (b + 3) | 5 => .ref (b + 4) | 6 => .ref (b + 5) | 7 => .ref (b + 6) | 8 => .ref (b + 7) | 9 => .int (s 9) | 10 => .ref 5000 | _ => .null) := fun s => rfl
    rw [e0, e0, h]
theorem isCtl_in {b q i : Nat} (hb : b = 7000 ∨ b = 8000) (h1 : b < q) (h2 : q < b + 1000) : isCtl q i = false := notCtl (by omega) i

theorem new_oldP {z : Int64} {σ : XS9} {h : XH} {b : Nat} (hb : b = 7000 ∨ b = 8000) (hf : σ b 20 = nI 1) {n : Nat} (hn : σ b 21 = nI n) (hn9 : n < 60) {R : Nat} (hR : σ 5001 900 = nI R) (hR5 : R ≤ 5) {f : Nat → Int32} : xx_up (xx_up (setM z σ h) (b + 100 + n) (100, R, fun k => .int (f k))) (b + 6) (206, n + 1, fun k => .ref (b + 100 + k)) = setM z (u2 (uR σ (b + 100 + n) f) b 21 (nI (n + 1))) h := by
  have a0 : u2 (uR σ (b + 100 + n) f) b 21 (nI (n + 1)) b = fun j => if j = 21 then nI (n + 1) else σ b j := by rw [u2_eq, uR_ne (by omega)]
  have g : ∀ j, j ≠ 21 → u2 (uR σ (b + 100 + n) f) b 21 (nI (n + 1)) b j = σ b j := fun j hj => by rw [a0]; exact if_neg hj
  have g1 : u2 (uR σ (b + 100 + n) f) b 21 (nI (n + 1)) b 21 = nI (n + 1) := by rw [a0]; exact if_pos rfl
  have hf' : u2 (uR σ (b + 100 + n) f) b 21 (nI (n + 1)) b 20 = nI 1 := by rw [g _ (by omega)]; exact hf
  funext q
  unfold xx_up
  by_cases e1 : q = b + 6
  · rw [if_pos e1, e1]
    rw [lm_kop hb (fl1 hf') g1 (by omega)]
  rw [if_neg e1]
  by_cases e2 : q = b + 100 + n
  · rw [if_pos e2, e2]
    rw [lm_opr hb (fl1 hf') (R := R) (by rw [u2_ne (by omega), uR_ne (by omega)]; exact hR) hR5 g1 (by omega) (by omega), u2_ne (by omega), uR_eq]
  rw [if_neg e2]
  unfold setM
  by_cases e3 : q < b ∨ b + 1000 ≤ q
  · rw [u2_ne (by omega), uR_ne e2, lyQ_K (C := ctl (u2 (uR σ (b + 100 + n) f) b 21 (nI (n + 1)))) (C' := ctl σ) hb (fun r i e => by
      unfold ctl
      by_cases e9 : r = b + 100 + n
      · rw [isCtl_in hb (by omega) (by omega)]
        rfl
      · rw [u2_ne e, uR_ne e9]) (by rw [ct_b hb (by omega), ct_b hb (by omega)]; exact g _ (by omega)) e3]
  · obtain ⟨i, rfl⟩ : ∃ i, q = b + i := ⟨q - b, by omega⟩
    have K : ∀ j, 20 ≤ j → j ≠ 21 → ctl σ b j = ctl (u2 (uR σ (b + 100 + n) f) b 21 (nI (n + 1))) b j := fun j h1 h2 => by rw [ct_b hb h1, ct_b hb h1]; exact (g j h2).symm
    have k9 : cn (ctl σ b 21) = n := by rw [ct_b hb (by omega), hn, cn_nI (by omega)]
    have k8 : cn (ctl (u2 (uR σ (b + 100 + n) f) b 21 (nI (n + 1))) b 21) = n + 1 := by rw [ct_b hb (by omega), g1, cn_nI (by omega)]
    rw [lq_B hb (fl1 hf) (by omega), lq_B hb (fl1 hf') (by omega), lyB_eq (C := ctl σ) (C' := ctl (u2 (uR σ (b + 100 + n) f) b 21 (nI (n + 1)))) (ctl_ne (by omega) (by omega) _) (.inr ⟨by rw [k8, k9], by omega, by rw [k9]; omega⟩) (.inl (K 22 (by omega) (by omega))) (.inl (K 23 (by omega) (by omega))) (.inl (K 24 (by omega) (by omega))), lyB_s (s := σ (b + i)) (s' := u2 (uR σ (b + 100 + n) f) b 21 (nI (n + 1)) (b + i)) (by
      by_cases e4 : i = 0
      · exact .inr ⟨e4, by rw [e4]; exact (g 9 (by omega)).symm⟩
      · exact .inl (by rw [u2_ne (by omega), uR_ne e2]))]
theorem new_oldH {z : Int64} {σ : XS9} {h : XH} {b : Nat} (hb : b = 7000 ∨ b = 8000) (hf : σ b 20 = nI 1) {n : Nat} (hn : σ b 22 = nI n) (hn9 : n < 60) {f : Nat → Int32} : xx_up (xx_up (setM z σ h) (b + 200 + n) (100, 6, fun k => .int (f k))) (b + 7) (206, n + 1, fun k => .ref (b + 200 + k)) = setM z (u2 (uR σ (b + 200 + n) f) b 22 (nI (n + 1))) h := by
  have a0 : u2 (uR σ (b + 200 + n) f) b 22 (nI (n + 1)) b = fun j => if j = 22 then nI (n + 1) else σ b j := by rw [u2_eq, uR_ne (by omega)]
  have g : ∀ j, j ≠ 22 → u2 (uR σ (b + 200 + n) f) b 22 (nI (n + 1)) b j = σ b j := fun j hj => by rw [a0]; exact if_neg hj
  have g1 : u2 (uR σ (b + 200 + n) f) b 22 (nI (n + 1)) b 22 = nI (n + 1) := by rw [a0]; exact if_pos rfl
  have hf' : u2 (uR σ (b + 200 + n) f) b 22 (nI (n + 1)) b 20 = nI 1 := by rw [g _ (by omega)]; exact hf
  funext q
  unfold xx_up
  by_cases e1 : q = b + 7
  · rw [if_pos e1, e1]
    rw [lm_koh hb (fl1 hf') g1 (by omega)]
  rw [if_neg e1]
  by_cases e2 : q = b + 200 + n
  · rw [if_pos e2, e2]
    rw [lm_ohe hb (fl1 hf') g1 (by omega) (by omega), u2_ne (by omega), uR_eq]
  rw [if_neg e2]
  unfold setM
  by_cases e3 : q < b ∨ b + 1000 ≤ q
  · rw [u2_ne (by omega), uR_ne e2, lyQ_K (C := ctl (u2 (uR σ (b + 200 + n) f) b 22 (nI (n + 1)))) (C' := ctl σ) hb (fun r i e => by
      unfold ctl
      by_cases e9 : r = b + 200 + n
      · rw [isCtl_in hb (by omega) (by omega)]
        rfl
      · rw [u2_ne e, uR_ne e9]) (by rw [ct_b hb (by omega), ct_b hb (by omega)]; exact g _ (by omega)) e3]
  · obtain ⟨i, rfl⟩ : ∃ i, q = b + i := ⟨q - b, by omega⟩
    have K : ∀ j, 20 ≤ j → j ≠ 22 → ctl σ b j = ctl (u2 (uR σ (b + 200 + n) f) b 22 (nI (n + 1))) b j := fun j h1 h2 => by rw [ct_b hb h1, ct_b hb h1]; exact (g j h2).symm
    have k9 : cn (ctl σ b 22) = n := by rw [ct_b hb (by omega), hn, cn_nI (by omega)]
    have k8 : cn (ctl (u2 (uR σ (b + 200 + n) f) b 22 (nI (n + 1))) b 22) = n + 1 := by rw [ct_b hb (by omega), g1, cn_nI (by omega)]
    rw [lq_B hb (fl1 hf) (by omega), lq_B hb (fl1 hf') (by omega), lyB_eq (C := ctl σ) (C' := ctl (u2 (uR σ (b + 200 + n) f) b 22 (nI (n + 1)))) (ctl_ne (by omega) (by omega) _) (.inl (K 21 (by omega) (by omega))) (.inr ⟨by rw [k8, k9], by omega, by rw [k9]; omega⟩) (.inl (K 23 (by omega) (by omega))) (.inl (K 24 (by omega) (by omega))), lyB_s (s := σ (b + i)) (s' := u2 (uR σ (b + 200 + n) f) b 22 (nI (n + 1)) (b + i)) (by
      by_cases e4 : i = 0
      · exact .inr ⟨e4, by rw [e4]; exact (g 9 (by omega)).symm⟩
      · exact .inl (by rw [u2_ne (by omega), uR_ne e2]))]
theorem new_wsh {z : Int64} {σ : XS9} {h : XH} {b : Nat} (hb : b = 7000 ∨ b = 8000) (hf : σ b 20 = nI 1) {n : Nat} (hn : σ b 23 = nI n) (hn9 : n < 199) {w : Nat} (hw : σ b 24 = nI w) (hw1 : w < 200) {f : Nat → Int32} : xx_up (xx_up (setM z σ h) (b + 500 + (n + 1)) (100, 6, fun k => .int (f k))) (b) (17, 11, updV (fun k => match k with | 0 => .ref (b + 1) | 1 => .ref (b + 2) | 2 => .ref (b + 500 + n) | 3 => .ref (b + 700 + w) | 4 => .ref (b + 3) | 5 => .ref (b + 4) | 6 => .ref (b + 5) | 7 => .ref (b + 6) | 8 => .ref (b + 7) | 9 => .int ((σ b) 9) | 10 => .ref 5000 | _ => .null) 2 (.ref (b + 500 + (n + 1)))) = setM z (u2 (uR σ (b + 500 + (n + 1)) f) b 23 (nI (n + 1))) h := by
  have a0 : u2 (uR σ (b + 500 + (n + 1)) f) b 23 (nI (n + 1)) b = fun j => if j = 23 then nI (n + 1) else σ b j := by rw [u2_eq, uR_ne (by omega)]
  have g : ∀ j, j ≠ 23 → u2 (uR σ (b + 500 + (n + 1)) f) b 23 (nI (n + 1)) b j = σ b j := fun j hj => by rw [a0]; exact if_neg hj
  have g1 : u2 (uR σ (b + 500 + (n + 1)) f) b 23 (nI (n + 1)) b 23 = nI (n + 1) := by rw [a0]; exact if_pos rfl
  have hf' : u2 (uR σ (b + 500 + (n + 1)) f) b 23 (nI (n + 1)) b 20 = nI 1 := by rw [g _ (by omega)]; exact hf
  funext q
  unfold xx_up
  by_cases e1 : q = b
  · rw [if_pos e1, e1]
    rw [lm_clk hb (fl1 hf') g1 (by omega) (w := w) (by rw [g _ (by omega)]; exact hw) hw1, g 9 (by omega)]
    congr 3
    funext k
    unfold updV
    by_cases e : k = 2
    · subst e; rfl
    · rw [if_neg e]
      match k, e with
      | 0, _ | 1, _ | 3, _ | 4, _ | 5, _ | 6, _ | 7, _ | 8, _ | 9, _ | 10, _ => rfl
      | 2, e => exact absurd rfl e
      | _ + 11, _ => rfl
  rw [if_neg e1]
  by_cases e2 : q = b + 500 + (n + 1)
  · rw [if_pos e2, e2]
    rw [lm_wsh hb (fl1 hf') g1 (by omega) (by omega), u2_ne (by omega), uR_eq]
  rw [if_neg e2]
  unfold setM
  by_cases e3 : q < b ∨ b + 1000 ≤ q
  · rw [u2_ne (by omega), uR_ne e2, lyQ_K (C := ctl (u2 (uR σ (b + 500 + (n + 1)) f) b 23 (nI (n + 1)))) (C' := ctl σ) hb (fun r i e => by
      unfold ctl
      by_cases e9 : r = b + 500 + (n + 1)
      · rw [isCtl_in hb (by omega) (by omega)]
        rfl
      · rw [u2_ne e, uR_ne e9]) (by rw [ct_b hb (by omega), ct_b hb (by omega)]; exact g _ (by omega)) e3]
  · obtain ⟨i, rfl⟩ : ∃ i, q = b + i := ⟨q - b, by omega⟩
    have K : ∀ j, 20 ≤ j → j ≠ 23 → ctl σ b j = ctl (u2 (uR σ (b + 500 + (n + 1)) f) b 23 (nI (n + 1))) b j := fun j h1 h2 => by rw [ct_b hb h1, ct_b hb h1]; exact (g j h2).symm
    have k9 : cn (ctl σ b 23) = n := by rw [ct_b hb (by omega), hn, cn_nI (by omega)]
    have k8 : cn (ctl (u2 (uR σ (b + 500 + (n + 1)) f) b 23 (nI (n + 1))) b 23) = n + 1 := by rw [ct_b hb (by omega), g1, cn_nI (by omega)]
    rw [lq_B hb (fl1 hf) (by omega), lq_B hb (fl1 hf') (by omega), lyB_eq (C := ctl σ) (C' := ctl (u2 (uR σ (b + 500 + (n + 1)) f) b 23 (nI (n + 1)))) (ctl_ne (by omega) (by omega) _) (.inl (K 21 (by omega) (by omega))) (.inl (K 22 (by omega) (by omega))) (.inr ⟨by rw [k8, k9], by omega, by rw [k8]; omega⟩) (.inl (K 24 (by omega) (by omega))), lyB_s (s := σ (b + i)) (s' := u2 (uR σ (b + 500 + (n + 1)) f) b 23 (nI (n + 1)) (b + i)) (by
      by_cases e4 : i = 0
      · exact .inr ⟨e4, by rw [e4]; exact (g 9 (by omega)).symm⟩
      · exact .inl (by rw [u2_ne (by omega), uR_ne e2]))]
theorem new_hwa {z : Int64} {σ : XS9} {h : XH} {b : Nat} (hb : b = 7000 ∨ b = 8000) (hf : σ b 20 = nI 1) {n : Nat} (hn : σ b 24 = nI n) (hn9 : n < 199) {g0 : Nat} (hg : σ b 23 = nI g0) (hg1 : g0 < 200) {f : Nat → Int32} : xx_up (xx_up (setM z σ h) (b + 700 + (n + 1)) (101, 6, fun k => .int (f k))) (b) (17, 11, updV (fun k => match k with | 0 => .ref (b + 1) | 1 => .ref (b + 2) | 2 => .ref (b + 500 + g0) | 3 => .ref (b + 700 + n) | 4 => .ref (b + 3) | 5 => .ref (b + 4) | 6 => .ref (b + 5) | 7 => .ref (b + 6) | 8 => .ref (b + 7) | 9 => .int ((σ b) 9) | 10 => .ref 5000 | _ => .null) 3 (.ref (b + 700 + (n + 1)))) = setM z (u2 (uR σ (b + 700 + (n + 1)) f) b 24 (nI (n + 1))) h := by
  have a0 : u2 (uR σ (b + 700 + (n + 1)) f) b 24 (nI (n + 1)) b = fun j => if j = 24 then nI (n + 1) else σ b j := by rw [u2_eq, uR_ne (by omega)]
  have g : ∀ j, j ≠ 24 → u2 (uR σ (b + 700 + (n + 1)) f) b 24 (nI (n + 1)) b j = σ b j := fun j hj => by rw [a0]; exact if_neg hj
  have g1 : u2 (uR σ (b + 700 + (n + 1)) f) b 24 (nI (n + 1)) b 24 = nI (n + 1) := by rw [a0]; exact if_pos rfl
  have hf' : u2 (uR σ (b + 700 + (n + 1)) f) b 24 (nI (n + 1)) b 20 = nI 1 := by rw [g _ (by omega)]; exact hf
  funext q
  unfold xx_up
  by_cases e1 : q = b
  · rw [if_pos e1, e1]
    rw [lm_clk hb (fl1 hf') (g := g0) (by rw [g _ (by omega)]; exact hg) hg1 g1 (by omega), g 9 (by omega)]
    congr 3
    funext k
    unfold updV
    by_cases e : k = 3
    · subst e; rfl
    · rw [if_neg e]
      match k, e with
      | 0, _ | 1, _ | 2, _ | 4, _ | 5, _ | 6, _ | 7, _ | 8, _ | 9, _ | 10, _ => rfl
      | 3, e => exact absurd rfl e
      | _ + 11, _ => rfl
  rw [if_neg e1]
  by_cases e2 : q = b + 700 + (n + 1)
  · rw [if_pos e2, e2]
    rw [lm_hwa hb (fl1 hf') g1 (by omega) (by omega), u2_ne (by omega), uR_eq]
  rw [if_neg e2]
  unfold setM
  by_cases e3 : q < b ∨ b + 1000 ≤ q
  · rw [u2_ne (by omega), uR_ne e2, lyQ_K (C := ctl (u2 (uR σ (b + 700 + (n + 1)) f) b 24 (nI (n + 1)))) (C' := ctl σ) hb (fun r i e => by
      unfold ctl
      by_cases e9 : r = b + 700 + (n + 1)
      · rw [isCtl_in hb (by omega) (by omega)]
        rfl
      · rw [u2_ne e, uR_ne e9]) (by rw [ct_b hb (by omega), ct_b hb (by omega)]; exact g _ (by omega)) e3]
  · obtain ⟨i, rfl⟩ : ∃ i, q = b + i := ⟨q - b, by omega⟩
    have K : ∀ j, 20 ≤ j → j ≠ 24 → ctl σ b j = ctl (u2 (uR σ (b + 700 + (n + 1)) f) b 24 (nI (n + 1))) b j := fun j h1 h2 => by rw [ct_b hb h1, ct_b hb h1]; exact (g j h2).symm
    have k9 : cn (ctl σ b 24) = n := by rw [ct_b hb (by omega), hn, cn_nI (by omega)]
    have k8 : cn (ctl (u2 (uR σ (b + 700 + (n + 1)) f) b 24 (nI (n + 1))) b 24) = n + 1 := by rw [ct_b hb (by omega), g1, cn_nI (by omega)]
    rw [lq_B hb (fl1 hf) (by omega), lq_B hb (fl1 hf') (by omega), lyB_eq (C := ctl σ) (C' := ctl (u2 (uR σ (b + 700 + (n + 1)) f) b 24 (nI (n + 1)))) (ctl_ne (by omega) (by omega) _) (.inl (K 21 (by omega) (by omega))) (.inl (K 22 (by omega) (by omega))) (.inl (K 23 (by omega) (by omega))) (.inr ⟨by rw [k8, k9], by omega, by rw [k8]; omega⟩), lyB_s (s := σ (b + i)) (s' := u2 (uR σ (b + 700 + (n + 1)) f) b 24 (nI (n + 1)) (b + i)) (by
      by_cases e4 : i = 0
      · exact .inr ⟨e4, by rw [e4]; exact (g 9 (by omega)).symm⟩
      · exact .inl (by rw [u2_ne (by omega), uR_ne e2]))]
