/-! ===== the search of the program: what is kept for each set is the best ===== -/
def PCx (D : Nat → Nat → Nat → Nat) (A : Nat → Nat → Nat) (q : Nat → Nat) (cap R : Nat) (pk : Nat → Nat) (s : XS9) : Prop := (∀ r, r < R → s 1010 r = nI (q r) ∧ q r ≤ 5) ∧ (s 1001 10 = nI cap ∧ cap ≤ 5) ∧ ∀ j, j < 6 → ∀ k, k < pk j → bd 7775 (s (1022 + j) k) ∧ (∀ r, r < R → D j k r = dgt (s (1022 + j) k) r) ∧ s (1031 + j) k = nI (A j k) ∧ A j k ≤ 300000
def BOc (A : Nat → Nat → Nat) (X : (Nat → Nat) → Prop) (s : XS9) : Prop := ∀ S, S < 64 → (s 1042 S = -1 ∧ ∀ c, X c → cSp c ≠ S) ∨ ∃ c, X c ∧ cSp c = S ∧ s 1042 S = nI (cAm A c) ∧ (∀ j, j < 6 → s (1051 + S) j = rwc (c j)) ∧ ∀ d, X d → cSp d = S → btr A c d
def pEx (D : Nat → Nat → Nat → Nat) (gr q : Nat → Nat) (cap R : Nat) (pk : Nat → Nat) (fx i : Nat) (c d : Nat → Nat) : Prop := cOk pk d ∧ cFe D gr q cap R d ∧ (∀ j, j < i → d j = c j) ∧ d fx = c fx
section
variable {σ s s2 : XS9} {D : Nat → Nat → Nat → Nat} {A : Nat → Nat → Nat} {gr q pk : Nat → Nat} {cap R B fx : Nat} {X Y : (Nat → Nat) → Prop} {c d : Nat → Nat}
theorem nI_j {a b : Nat} (ha : a < 2147483648) (hb : b < 2147483648) (h : nI a = nI b) : a = b := by rw [← cn_nI ha, ← cn_nI hb, h]
theorem m1_lt {a : Nat} (ha : a < 2147483648) : (-1 : Int32) < nI a := by
  rw [i_lt, toI_nI ha]
  show (-1 : Int) < a
  omega
theorem m1_ne {a : Nat} (ha : a < 2147483648) : ¬ (-1 : Int32) = nI a := fun z => by
  have := m1_lt ha
  rw [← z] at this
  exact absurd this (by decide)
theorem PCx.of (h : PCx D A q cap R pk s) (e : ∀ a, (a = 1001 ∨ a = 1010 ∨ (1022 ≤ a ∧ a ≤ 1036)) → s2 a = s a) : PCx D A q cap R pk s2 := by
  refine ⟨fun r hr => ?_, ?_, fun j hj k hk => ?_⟩
  · rw [e _ (by omega)]
    exact h.1 r hr
  · rw [e _ (by omega)]
    exact h.2.1
  · rw [e _ (by omega), e _ (by omega)]
    exact h.2.2 j hj k hk
theorem PCx.am (h : PCx D A q cap R pk s) (hc : cOk pk c) : cAm A c ≤ 1800000 := cAm_le (m := 300000) fun j hj => by
  unfold cAd
  split
  · exact Nat.zero_le _
  · have := hc j hj
    exact (h.2.2 j hj (c j - 1) (by omega)).2.2.2
theorem BOc.of (h : BOc A X s) (e : ∀ a, (a = 1042 ∨ (1051 ≤ a ∧ a ≤ 1114)) → s2 a = s a) : BOc A X s2 := fun S hS => by
  rw [e 1042 (by omega), e (1051 + S) (by omega)]
  exact h S hS
theorem BOc.iff (h : BOc A X s) (e : ∀ d, X d ↔ Y d) : BOc A Y s := by
  rw [← show X = Y from funext fun d => propext (e d)]
  exact h
/-- one more choice -/
theorem BOc.leaf {S : Nat} {x : Int32} (h : BOc A X s) (hX : ∀ d, X d → (∀ j, j < 6 → d j ≤ 6) ∧ cAm A d ≤ 1800000) (hc : ∀ j, j < 6 → c j ≤ 6) (hm : cAm A c ≤ 1800000) (hp : ∀ j, j < 6 → s 1043 j = rwc (c j)) (hS : S = cSp c) (hx : x = nI (cAm A c)) : BOc A (fun d => X d ∨ e6 d c) (g_keepIfBetter s S x) := by
  have hS64 : S < 64 := by rw [hS]; exact cSp_lt
  have oth : ∀ S2, S2 < 64 → S2 ≠ S → (s 1042 S2 = -1 ∧ ∀ d, (X d ∨ e6 d c) → cSp d ≠ S2) ∨ ∃ c0, (X c0 ∨ e6 c0 c) ∧ cSp c0 = S2 ∧ s 1042 S2 = nI (cAm A c0) ∧ (∀ j, j < 6 → s (1051 + S2) j = rwc (c0 j)) ∧ ∀ d, (X d ∨ e6 d c) → cSp d = S2 → btr A c0 d := fun S2 h2 hn => by
    rcases h S2 h2 with ⟨a, b⟩ | ⟨c0, a, b, e, f, g⟩
    · refine .inl ⟨a, fun d hd => ?_⟩
      rcases hd with hd | hd
      · exact b d hd
      · rw [hd.sp, ← hS]
        exact fun z => hn z.symm
    · refine .inr ⟨c0, .inl a, b, e, f, fun d hd hs => ?_⟩
      rcases hd with hd | hd
      · exact g d hd hs
      · rw [hd.sp, ← hS] at hs
        exact absurd hs.symm hn
  have put : (∀ d, X d → cSp d = S → btr A c d) → BOc A (fun d => X d ∨ e6 d c) (uR (u2 s 1042 S x) (1051 + S) (va_cpy (s 1043) (s (1051 + S)) 0 0 6)) := fun hb S2 h2 => by
    by_cases e : S2 = S
    · subst e
      refine .inr ⟨c, .inr (fun _ _ => rfl), hS.symm, ?_, fun j hj => ?_, fun d hd hs => ?_⟩
      · rw [uR_ne (by omega), u2_at]
        exact hx
      · rw [uR_eq, cpy_lo hj]
        exact hp j hj
      · rcases hd with hd | hd
        · exact hb d hd hs
        · exact hd.symm.btr
    · rw [uR_ne (show (1042 : Nat) ≠ 1051 + S by omega), u2_oi e, uR_ne (show 1051 + S2 ≠ 1051 + S by omega), u2_ne (show 1051 + S2 ≠ 1042 by omega)]
      exact oth S2 h2 e
  unfold g_keepIfBetter
  rcases h S hS64 with ⟨a, b⟩ | ⟨c0, a, b, e, f, g⟩
  · rw [if_pos (show s 1042 S < x by rw [a, hx]; exact m1_lt (by omega))]
    exact put fun d hd hs => absurd hs (b d hd)
  · obtain ⟨k1, k2⟩ := hX c0 a
    have keep : btr A c0 c → BOc A (fun d => X d ∨ e6 d c) s := fun hb S2 h2 => by
      by_cases e9 : S2 = S
      · subst e9
        refine .inr ⟨c0, .inl a, b, e, f, fun d hd hs => ?_⟩
        rcases hd with hd | hd
        · exact g d hd hs
        · exact hb.trans hd.symm.btr
      · exact oth S2 h2 e9
    rw [e, hx]
    by_cases c1 : cAm A c0 < cAm A c
    · rw [if_pos ((nlt (by omega) (by omega)).mpr c1), ← hx]
      exact put fun d hd hs => (show btr A c c0 from .inl c1).trans (g d hd hs)
    · rw [if_neg (fun z => c1 ((nlt (by omega) (by omega)).mp z))]
      by_cases c2 : cAm A c = cAm A c0
      · rw [if_pos (congrArg nI c2)]
        have ah := ahead_eq (f := s 1043) (g := s (1051 + S)) (c := c) (d := c0) (fun j hj => ⟨hp j hj, hc j hj⟩) (fun j hj => ⟨f j hj, k1 j hj⟩)
        by_cases c3 : lx c c0
        · rw [if_neg (fun z => ah.mp z c3), ← hx]
          exact put fun d hd hs => (show btr A c c0 from .inr ⟨c2.symm, fun z => lx_asym c3 z⟩).trans (g d hd hs)
        · rw [if_pos (ah.mpr c3)]
          exact keep (.inr ⟨c2, c3⟩)
      · rw [if_neg (fun z => c2 (nI_j (by omega) (by omega) z))]
        exact keep (.inl (by omega))
theorem pEx.leaf {i : Nat} (hc : cOk pk c) (hf : cFe D gr q cap R c) (hz : ∀ j, i ≤ j → j < 6 → j ≠ fx → c j = 0) (hB : B ≤ i) (hi : i ≤ 6) (hfx : fx < 6) (hpk : ∀ j, B ≤ j → j < 6 → pk j = 0) : e6 d c ↔ pEx D gr q cap R pk fx i c d := by
  refine ⟨fun h => ⟨h.symm.ok hc, h.symm.fe hf, fun j hj => h j (by omega), h fx hfx⟩, fun ⟨h1, _, h3, h4⟩ j hj => ?_⟩
  rcases Nat.lt_or_ge j i with l | l
  · exact h3 j l
  · by_cases e : j = fx
    · rw [e]
      exact h4
    · rw [hz j l hj e]
      have := h1 j hj
      rw [hpk j (by omega) hj] at this
      omega
theorem pf_ok (hg : ∀ j, j < 6 → gr j < 4) (hp6 : ∀ j, j < 6 → pk j ≤ 6) (hpk : ∀ j, B ≤ j → j < 6 → pk j = 0) (hfB : fx < B) (hB6 : B ≤ 6) : ∀ (f i : Nat), i + f = 6 → ∀ (s : XS9) (S : Nat) (x : Int32) (c : Nat → Nat) (X : (Nat → Nat) → Prop), PCx D A q cap R pk s → SCc D gr R c s → BOc A X s → (∀ d, X d → cOk pk d) → cOk pk c → cFe D gr q cap R c → (∀ j, i ≤ j → j < 6 → j ≠ fx → c j = 0) → c fx ≠ 0 → S = cSp c → x = nI (cAm A c) → SCc D gr R c (g_pickFrom fx R B gr pk f i s S x) ∧ BOc A (fun d => X d ∨ pEx D gr q cap R pk fx i c d) (g_pickFrom fx R B gr pk f i s S x) := by
  have leaf : ∀ (i : Nat), B ≤ i → i ≤ 6 → ∀ (s : XS9) (S : Nat) (x : Int32) (c : Nat → Nat) (X : (Nat → Nat) → Prop), PCx D A q cap R pk s → SCc D gr R c s → BOc A X s → (∀ d, X d → cOk pk d) → cOk pk c → cFe D gr q cap R c → (∀ j, i ≤ j → j < 6 → j ≠ fx → c j = 0) → S = cSp c → x = nI (cAm A c) → SCc D gr R c (g_keepIfBetter s S x) ∧ BOc A (fun d => X d ∨ pEx D gr q cap R pk fx i c d) (g_keepIfBetter s S x) := fun i hBi hi6 s S x c X P C O hX hc hf hz hS hx => by
    have hS64 : S < 64 := by rw [hS]; exact cSp_lt
    refine ⟨C.of fun a ha => fr_keepIfBetter (by omega), ?_⟩
    refine (O.leaf (c := c) (fun d hd => ⟨fun j hj => Nat.le_trans (hX d hd j hj) (hp6 j hj), P.am (hX d hd)⟩) (fun j hj => Nat.le_trans (hc j hj) (hp6 j hj)) (P.am hc) C.1 hS hx).iff fun d => ?_
    rw [pEx.leaf (d := d) hc hf hz hBi hi6 (by omega) hpk]
  intro f
  induction f with
  | zero =>
    intro i e s S x c X P C O hX hc hf hz hfx hS hx
    obtain rfl : i = 6 := by omega
    exact leaf 6 hB6 (Nat.le_refl _) s S x c X P C O hX hc hf hz hS hx
  | succ f ih =>
    intro i e s S x c X P C O hX hc hf hz hfx hS hx
    have hi : i < 6 := by omega
    have hS64 : S < 64 := by rw [hS]; exact cSp_lt
    show SCc D gr R c (g_pickStep s (fun σ S x => g_pickFrom fx R B gr pk f (i + 1) σ S x) i fx S x R B gr pk) ∧ BOc A (fun d => X d ∨ pEx D gr q cap R pk fx i c d) (g_pickStep s (fun σ S x => g_pickFrom fx R B gr pk f (i + 1) σ S x) i fx S x R B gr pk)
    unfold g_pickStep
    by_cases c1 : B ≤ i
    · rw [if_pos ((nle (by omega) (by omega)).mpr c1)]
      exact leaf i c1 (by omega) s S x c X P C O hX hc hf hz hS hx
    · rw [if_neg (fun z => c1 ((nle (by omega) (by omega)).mp z))]
      by_cases c2 : i = fx
      · rw [if_pos (congrArg nI c2)]
        obtain ⟨a, b⟩ := ih (i + 1) (by omega) s S x c X P C O hX hc hf (fun j h1 h2 h3 => hz j (by omega) h2 h3) hfx hS hx
        refine ⟨a, b.iff fun d => ?_⟩
        refine or_congr Iff.rfl ⟨fun ⟨h1, h2, h3, h4⟩ => ⟨h1, h2, fun j hj => h3 j (by omega), h4⟩, fun ⟨h1, h2, h3, h4⟩ => ⟨h1, h2, fun j hj => ?_, h4⟩⟩
        by_cases e9 : j = i
        · rw [e9, c2]
          exact h4
        · exact h3 j (by omega)
      · rw [if_neg (fun z => c2 (nI_j (by omega) (by omega) z))]
        have h0 : c i = 0 := hz i (Nat.le_refl _) hi c2
        have frow : ∀ (s : XS9) (S : Nat) (x : Int32) (a : Nat), S < 64 → (a = 1001 ∨ a = 1010 ∨ (1022 ≤ a ∧ a ≤ 1036)) → g_pickFrom fx R B gr pk f (i + 1) s S x a = s a := fun s S x a hS ha => fr_pickF hg f (i + 1) (by omega) ⟨hS, by omega, by omega, by omega, by omega, by omega⟩
        obtain ⟨r1, r2⟩ := ih (i + 1) (by omega) s S x c X P C O hX hc hf (fun j h1 h2 h3 => hz j (by omega) h2 h3) hfx hS hx
        have r0 : PCx D A q cap R pk (g_pickFrom fx R B gr pk f (i + 1) s S x) := P.of fun a ha => frow s S x a hS64 ha
        have H := xit_ind (step := fun i45 s45 => (if (f_fits s45 i (s45 (1022 + i) i45) R gr) = 0 then s45 else g_giveBack (g_pickFrom fx R B gr pk f (i + 1) (g_take s45 i i45 R gr) (S ||| 2 ^ i) (x + (s45 (1031 + i) i45))) i i45 R gr)) (fun k s2 => PCx D A q cap R pk s2 ∧ SCc D gr R c s2 ∧ BOc A (fun d => X d ∨ (pEx D gr q cap R pk fx i c d ∧ d i ≤ k)) s2) (N := pk i) (fun k s2 hk hP => ?_) (pk i) 0 (g_pickFrom fx R B gr pk f (i + 1) s S x) (Nat.zero_add _) ⟨r0, r1, r2.iff fun d => ?_⟩
        · obtain ⟨_, h1, h2⟩ := H
          refine ⟨h1, h2.iff fun d => ?_⟩
          exact or_congr Iff.rfl ⟨fun h => h.1, fun h => ⟨h, h.1 i hi⟩⟩
        · obtain ⟨P2, C2, O2⟩ := hP
          obtain ⟨d1, d2, d3, d4⟩ := P2.2.2 i hi k hk
          have gi := hg i hi
          have fi := fits_eq (σ := s2) (i := i) (x := s2 (1022 + i) k) (R := R) (q := q) (t := fun r => cTk D r c) (u := fun r => cTg D gr (gr i) r c) (cap := cap) (gr := gr) d1 (fun r hr => ⟨(P2.1 r hr).1, (P2.1 r hr).2, C2.2.1 r hr, (hf r hr).1⟩) (fun hn r hr => ⟨C2.2.2 (gr i) gi r hr, (hf r hr).2 (gr i) (by omega)⟩) P2.2.1.1 P2.2.1.2 gi
          have ff : cFe D gr q cap R (cUp c i (k + 1)) ↔ ∀ r, r < R → fOK (s2 (1022 + i) k) q (fun r => cTk D r c) (fun r => cTg D gr (gr i) r c) cap (gr i) r := by
            rw [cFe_up hi h0 hf]
            refine forall_congr' fun r => forall_congr' fun hr => ?_
            unfold fOK
            rw [d2 r hr]
          by_cases c3 : cFe D gr q cap R (cUp c i (k + 1))
          · rw [if_neg (fun z => fi.mp z (ff.mp c3))]
            have T := C2.take (k := k) hi h0 d1 d2 gi
            have tr : ∀ a, (a = 1001 ∨ a = 1010 ∨ (1022 ≤ a ∧ a ≤ 1036) ∨ a = 1042 ∨ (1051 ≤ a ∧ a ≤ 1114)) → g_take s2 i k R gr a = s2 a := fun a ha => fr_take ⟨by omega, by omega, by omega⟩
            have PT : PCx D A q cap R pk (g_take s2 i k R gr) := P2.of fun a ha => tr a (by omega)
            have OT := O2.of (s2 := g_take s2 i k R gr) fun a ha => tr a (by omega)
            have cu : ∀ j, j ≠ i → cUp c i (k + 1) j = c j := fun j hj => cUp_ne hj
            have hS2 : S ||| 2 ^ i = cSp (cUp c i (k + 1)) := by rw [hS]; exact cSp_or hi h0
            have hS2' : S ||| 2 ^ i < 64 := by rw [hS2]; exact cSp_lt
            have hx2 : x + s2 (1031 + i) k = nI (cAm A (cUp c i (k + 1))) := by rw [hx, d3, nI_plus, cAm_up hi h0]
            obtain ⟨u1, u2'⟩ := ih (i + 1) (by omega) (g_take s2 i k R gr) (S ||| 2 ^ i) (x + s2 (1031 + i) k) (cUp c i (k + 1)) _ PT T OT (fun d hd => hd.elim (hX d) (fun z => z.1.1)) (fun j hj => by
              by_cases e9 : j = i
              · rw [e9, cUp_at]
                omega
              · rw [cu j e9]
                exact hc j hj) c3 (fun j h1 h2 h3 => by
              rw [cu j (by omega)]
              exact hz j (by omega) h2 h3) (by
              rw [cu fx (fun z => c2 z.symm)]
              exact hfx) hS2 hx2
            have fr2 := fun a ha => frow (g_take s2 i k R gr) (S ||| 2 ^ i) (x + s2 (1031 + i) k) a hS2' ha
            have P3 : PCx D A q cap R pk (g_pickFrom fx R B gr pk f (i + 1) (g_take s2 i k R gr) (S ||| 2 ^ i) (x + s2 (1031 + i) k)) := PT.of fr2
            generalize g_pickFrom fx R B gr pk f (i + 1) (g_take s2 i k R gr) (S ||| 2 ^ i) (x + s2 (1031 + i) k) = s3 at u1 u2' P3 ⊢
            obtain ⟨v1, v2, v3, v4⟩ := P3.2.2 i hi k hk
            have br : ∀ a, (a = 1001 ∨ a = 1010 ∨ (1022 ≤ a ∧ a ≤ 1036) ∨ a = 1042 ∨ (1051 ≤ a ∧ a ≤ 1114)) → g_giveBack s3 i k R gr a = s3 a := fun a ha => fr_giveBack ⟨by omega, by omega, by omega⟩
            refine ⟨P3.of fun a ha => br a (by omega), u1.back hi h0 v1 v2 gi, (u2'.of fun a ha => br a (by omega)).iff fun d => ?_⟩
            refine ⟨fun h => ?_, fun h => ?_⟩
            · rcases h with (h | h) | h
              · exact .inl h
              · exact .inr ⟨h.1, by omega⟩
              · obtain ⟨h1, h2, h3, h4⟩ := h
                refine .inr ⟨⟨h1, h2, fun j hj => by rw [h3 j (by omega), cu j (by omega)], by rw [h4, cu fx (fun z => c2 z.symm)]⟩, ?_⟩
                rw [h3 i (by omega), cUp_at]
                exact Nat.le_refl _
            · rcases h with h | ⟨⟨h1, h2, h3, h4⟩, h5⟩
              · exact .inl (.inl h)
              · by_cases e9 : d i ≤ k
                · exact .inl (.inr ⟨⟨h1, h2, h3, h4⟩, e9⟩)
                · refine .inr ⟨h1, h2, fun j hj => ?_, by rw [h4, cu fx (fun z => c2 z.symm)]⟩
                  by_cases e8 : j = i
                  · rw [e8, cUp_at]
                    omega
                  · rw [cu j e8]
                    exact h3 j (by omega)
          · rw [if_pos (fi.mpr (fun z => c3 (ff.mpr z)))]
            refine ⟨P2, C2, O2.iff fun d => or_congr Iff.rfl ⟨fun h => ⟨h.1, by omega⟩, fun h => ⟨h.1, ?_⟩⟩⟩
            obtain ⟨⟨h1, h2, h3, h4⟩, h5⟩ := h
            rcases Nat.lt_or_ge k (d i) with l | l
            · exfalso
              refine c3 (cLe_fe (d := d) (fun j hj => ?_) h2)
              by_cases e9 : j = i
              · rw [e9, cUp_at]
                exact .inr (by omega)
              · rw [cUp_ne e9]
                by_cases e8 : j < i
                · exact .inr (h3 j e8).symm
                · by_cases e7 : j = fx
                  · rw [e7]
                    exact .inr h4.symm
                  · exact .inl (hz j (by omega) hj e7)
            · exact l
        · refine or_congr Iff.rfl ⟨fun ⟨h1, h2, h3, h4⟩ => ⟨⟨h1, h2, fun j hj => h3 j (by omega), h4⟩, by rw [h3 i (by omega), h0]; exact Nat.le_refl _⟩, fun ⟨⟨h1, h2, h3, h4⟩, h5⟩ => ⟨h1, h2, fun j hj => ?_, h4⟩⟩
          by_cases e9 : j = i
          · rw [e9, h0]
            omega
          · exact h3 j (by omega)
end
