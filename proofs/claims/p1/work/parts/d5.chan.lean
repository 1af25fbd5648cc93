/-! ===== pure facts: in a set that can be packed each station finds its channel ===== -/
theorem bset {t m : Nat} (ht : t < 10) (hm : m < 2 ^ t) : (nI m ||| ((1 : Int32) <<< (nI t &&& 31))) = nI (m + 2 ^ t) ∧ (nI (m + 2 ^ t) &&& (((1 : Int32) <<< (nI t &&& 31)) ^^^ (-1))) = nI m := by
  have : ∀ t, t < 10 → ∀ m, m < 2 ^ t → (nI m ||| ((1 : Int32) <<< (nI t &&& 31))) = nI (m + 2 ^ t) ∧ (nI (m + 2 ^ t) &&& (((1 : Int32) <<< (nI t &&& 31)) ^^^ (-1))) = nI m := by decide +kernel
  exact this t ht m hm
theorem u2_back {s : XS9} {q i : Nat} {x y : Int32} (e : y = s q i) : u2 (u2 s q i x) q i y = s := by
  funext r j
  by_cases e1 : r = q
  · by_cases e2 : j = i
    · rw [e1, e2, u2_at, e]
    · rw [e1, u2_oi e2, u2_oi e2]
  · rw [u2_ne e1, u2_ne e1]
def cln (qa ch i : Nat) (s : XS9) : Prop := ∀ c, c < ch → ∃ m, m < 2 ^ i ∧ s qa c = nI m
theorem xitR_pi {S R : Type} {step : Nat → S → S ⊕ R} (P : Nat → S → Prop) (PR : R → Prop) {N : Nat} (h : ∀ i s, i < N → P i s → (∀ s', step i s = .inl s' → P (i + 1) s') ∧ ∀ r, step i s = .inr r → PR r) : ∀ (f i : Nat) (s : S), i + f = N → P i s → (∀ s', xitR step f i s = .inl s' → P N s') ∧ ∀ r, xitR step f i s = .inr r → PR r
  | 0, i, s, e, hP => ⟨fun s' e' => by
      rw [← Sum.inl.inj e', show N = i by omega]
      exact hP, fun r e' => by cases e'⟩
  | f + 1, i, s, e, hP => by
    unfold xitR
    split
    · rename_i s' e'
      exact xitR_pi P PR h f (i + 1) s' (by omega) ((h i s (by omega) hP).1 s' e')
    · rename_i r e'
      refine ⟨fun s' e2 => (by cases e2), fun r2 e2 => ?_⟩
      rw [← Sum.inr.inj e2]
      exact (h i s (by omega) hP).2 r e'
theorem xitB_noi {S : Type} {step : Nat → S → S ⊕ S} (h : ∀ i j s, step i s = step j s) : ∀ (f i j : Nat) (s : S), xitB step f i s = xitB step f j s
  | 0, _, _, _ => rfl
  | f + 1, i, j, s => by
    unfold xitB
    rw [h i j s]
    split
    · exact xitB_noi h f (i + 1) (j + 1) _
    · rfl
section
variable {s : XS9} {x : Int32} {i t fr C qa ch c : Nat} {rg : Nat → Nat}
theorem cln.mono (h : cln qa ch i s) (hij : i ≤ t) : cln qa ch t s := fun c hc => by
  obtain ⟨m, a, b⟩ := h c hc
  exact ⟨m, Nat.lt_of_lt_of_le a (Nat.pow_le_pow_right (by decide) hij), b⟩
theorem cln.put (h : cln qa ch t s) (ht : t < 10) (hc : c < ch) : cln qa ch (t + 1) (u2 s qa c ((s qa c) ||| (1 <<< ((nI t) &&& 31)))) ∧ u2 (u2 s qa c ((s qa c) ||| (1 <<< ((nI t) &&& 31)))) qa c (((u2 s qa c ((s qa c) ||| (1 <<< ((nI t) &&& 31)))) qa c) &&& ((1 <<< ((nI t) &&& 31)) ^^^ (-1))) = s := by
  obtain ⟨m, a, b⟩ := h c hc
  obtain ⟨e1, e2⟩ := bset ht a
  refine ⟨fun k hk => ?_, ?_⟩
  · by_cases e : k = c
    · subst e
      refine ⟨m + 2 ^ t, ?_, ?_⟩
      · rw [Nat.pow_succ]
        omega
      · rw [u2_at, b, e1]
    · rw [u2_oi e]
      exact (h.mono (Nat.le_succ t)) k hk
  · refine u2_back ?_
    rw [u2_at, b, e1, e2]
theorem nI_inj {a b : Nat} (ha : a < 1000) (hb : b < 1000) (h : nI a = nI b) : a = b := by
  have := congrArg cn h
  rwa [cn_nI (by omega), cn_nI (by omega)] at this
theorem x3_rng (hC10 : C ≤ 10) (h : fr ≤ C) : fr ≤ x_MpkStep_3 x fr C fr ∧ x_MpkStep_3 x fr C fr ≤ C := by
  unfold x_MpkStep_3
  refine xitB_fin (fun k s => s = fr + k) (fun s => fr ≤ s ∧ s ≤ C) (N := C - fr) (fun k s hk hs => ?_) (fun s hs => by omega) (C - fr) 0 fr (Nat.zero_add _) rfl
  (try dsimp only)
  (repeat' split) <;> refine ⟨fun s' e => ?_, fun s' e => ?_⟩ <;> first | (cases e; done) | (rw [← Sum.inl.inj e]; omega) | (rw [← Sum.inr.inj e]; omega)
theorem x3_skip (hC10 : C ≤ 10) (hi : i < C) (hb : ((x >>> ((nI i) &&& 31)) &&& 1) = 0) : x_MpkStep_3 x i C i = x_MpkStep_3 x (i + 1) C (i + 1) := by
  unfold x_MpkStep_3
  rw [show C - i = (C - (i + 1)) + 1 by omega]
  conv => lhs; unfold xitB
  have n : ¬ nI C ≤ nI i := fun e => absurd ((nI_leI (a := C) (b := i) (by omega) (by omega)).mp e) (by omega)
  (try dsimp only)
  rw [if_neg n, if_pos hb]
  exact xitB_noi (fun _ _ _ => rfl) _ _ _ _
theorem x3_here (hC10 : C ≤ 10) (hi : i < C) (hb : ¬ ((x >>> ((nI i) &&& 31)) &&& 1) = 0) : x_MpkStep_3 x i C i = i := by
  unfold x_MpkStep_3
  rw [show C - i = (C - (i + 1)) + 1 by omega]
  unfold xitB
  have n : ¬ nI C ≤ nI i := fun e => absurd ((nI_leI (a := C) (b := i) (by omega) (by omega)).mp e) (by omega)
  (try dsimp only)
  rw [if_neg n, if_neg hb]
theorem pstep {f_rec : XS9 → Nat → Int32} {g_rec : XS9 → Nat → XS9} (hC10 : C ≤ 10) (e3 : x_MpkStep_3 x fr C fr = t) (ht : t < C) (hcl : cln qa ch t s) (hg : ∀ s, cln qa ch (t + 1) s → g_rec s (t + 1) = s) :
    (∀ s', x_MpkStep_51 s f_rec g_rec x fr C rg qa ch s = .inl s' → s' = s) ∧ ∀ r, x_MpkStep_51 s f_rec g_rec x fr C rg qa ch s = .inr r → r.1 = s ∧ (r.2 = 0 ∨ ∃ c, c < ch ∧ ¬ f_MisFree s (s qa c) t rg = 0 ∧ ¬ f_rec (u2 s qa c ((s qa c) ||| (1 <<< ((nI t) &&& 31)))) (t + 1) = 0) := by
  unfold x_MpkStep_51
  rw [e3]
  refine xitR_pi (fun _ s' => s' = s) (fun r : XS9 × Int32 => r.1 = s ∧ (r.2 = 0 ∨ ∃ c, c < ch ∧ ¬ f_MisFree s (s qa c) t rg = 0 ∧ ¬ f_rec (u2 s qa c ((s qa c) ||| (1 <<< ((nI t) &&& 31)))) (t + 1) = 0)) (N := ch) (fun k s' hk hs => ?_) ch 0 s (Nat.zero_add _) rfl
  subst hs
  obtain ⟨p1, p2⟩ := hcl.put (by omega) hk
  (try dsimp only)
  rw [hg _ p1, p2]
  (repeat' split)
  · exact ⟨fun s' e => (Sum.inl.inj e).symm, fun r e => (by cases e)⟩
  · exact ⟨fun s' e => (by cases e), fun r e => (by rw [← Sum.inr.inj e]; exact ⟨rfl, .inl rfl⟩)⟩
  · exact ⟨fun s' e => (Sum.inl.inj e).symm, fun r e => (by cases e)⟩
  · rename_i a1 a2
    exact ⟨fun s' e => (by cases e), fun r e => (by rw [← Sum.inr.inj e]; exact ⟨rfl, .inr ⟨k, hk, a1, a2⟩⟩)⟩
theorem gstep_same {f_rec : XS9 → Nat → Int32} {g_rec : XS9 → Nat → XS9} (hC10 : C ≤ 10) (hfr : fr ≤ C) (hcl : cln qa ch fr s) (hg : ∀ t s, fr ≤ t → t < C → cln qa ch (t + 1) s → g_rec s (t + 1) = s) : g_MpkStep s f_rec g_rec x fr C rg qa ch = s := by
  obtain ⟨r1, r2⟩ := x3_rng (x := x) hC10 hfr
  unfold g_MpkStep
  split
  · rfl
  · rename_i hn
    have hlt : x_MpkStep_3 x fr C fr < C := Nat.lt_of_le_of_ne r2 fun q => hn (by rw [q])
    have K := pstep (f_rec := f_rec) (rg := rg) hC10 rfl hlt (hcl.mono r1) (fun s hs => hg _ s r1 hlt hs)
    split
    · rename_i e
      exact K.1 _ e
    · rename_i e
      exact (K.2 _ e).1
theorem pk_same (hC10 : C ≤ 10) : ∀ (f : Nat) (s : XS9) (fr : Nat), fr ≤ C → C - fr ≤ f → cln qa ch fr s → (fg_Mpk x C rg qa ch f).2 s fr = s
  | 0, s, fr, h1, h2, hcl => gstep_same hC10 h1 hcl (fun t s a b => absurd b (by omega))
  | f + 1, s, fr, h1, h2, hcl => gstep_same hC10 h1 hcl (fun t s a b hs => pk_same hC10 f s (t + 1) (by omega) (by omega) hs)
theorem step_cg {F F' : XS9 → Nat → Int32} {G G' : XS9 → Nat → XS9} (hC10 : C ≤ 10) (hfr : fr ≤ C) (h : ∀ t s, fr ≤ t → t < C → F s (t + 1) = F' s (t + 1) ∧ G s (t + 1) = G' s (t + 1)) : f_MpkStep s F G x fr C rg qa ch = f_MpkStep s F' G' x fr C rg qa ch ∧ g_MpkStep s F G x fr C rg qa ch = g_MpkStep s F' G' x fr C rg qa ch := by
  obtain ⟨r1, r2⟩ := x3_rng (x := x) hC10 hfr
  unfold f_MpkStep g_MpkStep
  by_cases e : nI (x_MpkStep_3 x fr C fr) = nI C
  · rw [if_pos e, if_pos e, if_pos e, if_pos e]
    exact ⟨rfl, rfl⟩
  · have hlt : x_MpkStep_3 x fr C fr < C := Nat.lt_of_le_of_ne r2 fun q => e (by rw [q])
    have h1 : ∀ s, F s (x_MpkStep_3 x fr C fr + 1) = F' s (x_MpkStep_3 x fr C fr + 1) := fun s => (h _ s r1 hlt).1
    have h2 : ∀ s, G s (x_MpkStep_3 x fr C fr + 1) = G' s (x_MpkStep_3 x fr C fr + 1) := fun s => (h _ s r1 hlt).2
    have k : x_MpkStep_51 s F G x fr C rg qa ch s = x_MpkStep_51 s F' G' x fr C rg qa ch s := by
      unfold x_MpkStep_51
      simp only [h1, h2]
    rw [if_neg e, if_neg e, if_neg e, if_neg e, k]
    exact ⟨rfl, rfl⟩
theorem pk_fuel (hC10 : C ≤ 10) : ∀ (f f' : Nat) (s : XS9) (fr : Nat), fr ≤ C → C - fr ≤ f → C - fr ≤ f' → (fg_Mpk x C rg qa ch f).1 s fr = (fg_Mpk x C rg qa ch f').1 s fr ∧ (fg_Mpk x C rg qa ch f).2 s fr = (fg_Mpk x C rg qa ch f').2 s fr
  | 0, 0, s, fr, h1, h2, h3 => ⟨rfl, rfl⟩
  | 0, f' + 1, s, fr, h1, h2, h3 => step_cg hC10 h1 (fun t s a b => absurd b (by omega))
  | f + 1, 0, s, fr, h1, h2, h3 => step_cg hC10 h1 (fun t s a b => absurd b (by omega))
  | f + 1, f' + 1, s, fr, h1, h2, h3 => step_cg hC10 h1 (fun t s a b => pk_fuel hC10 f f' s (t + 1) (by omega) (by omega) (by omega))
theorem cp_out (hC10 : C ≤ 10) (hi : i < C) (hb : ((x >>> ((nI i) &&& 31)) &&& 1) = 0) : f_Mcp s x i C rg qa ch = f_Mcp s x (i + 1) C rg qa ch := by
  obtain ⟨C', rfl⟩ : ∃ C', C = C' + 1 := ⟨C - 1, by omega⟩
  show f_MpkStep s (fg_Mpk x (C' + 1) rg qa ch C').1 (fg_Mpk x (C' + 1) rg qa ch C').2 x i (C' + 1) rg qa ch = f_MpkStep s (fg_Mpk x (C' + 1) rg qa ch C').1 (fg_Mpk x (C' + 1) rg qa ch C').2 x (i + 1) (C' + 1) rg qa ch
  unfold f_MpkStep x_MpkStep_51
  rw [x3_skip hC10 hi hb]
theorem fits_same (hC10 : C ≤ 10) (hi : i < C) (hc : c < ch) (hcl : cln qa ch i s) : g_MisFits s x i c C rg qa ch = s := by
  unfold g_MisFits
  split
  · rfl
  · obtain ⟨p1, p2⟩ := hcl.put (by omega) hc
    unfold g_Mcp
    rw [pk_same hC10 C _ (i + 1) (by omega) (by omega) p1]
    exact p2
theorem cp_in (hC10 : C ≤ 10) (hi : i < C) (hb : ¬ ((x >>> ((nI i) &&& 31)) &&& 1) = 0) (hcl : cln qa ch i s) (h : ¬ f_Mcp s x i C rg qa ch = 0) : ∃ c, c < ch ∧ ¬ f_MisFits s x i c C rg qa ch = 0 := by
  obtain ⟨C', rfl⟩ : ∃ C', C = C' + 1 := ⟨C - 1, by omega⟩
  have e3 := x3_here hC10 hi hb
  have h : ¬ f_MpkStep s (fg_Mpk x (C' + 1) rg qa ch C').1 (fg_Mpk x (C' + 1) rg qa ch C').2 x i (C' + 1) rg qa ch = 0 := h
  unfold f_MpkStep at h
  rw [if_neg (by rw [e3]; exact fun q => absurd (nI_inj (by omega) (by omega) q) (by omega))] at h
  have K := pstep (f_rec := (fg_Mpk x (C' + 1) rg qa ch C').1) (g_rec := (fg_Mpk x (C' + 1) rg qa ch C').2) (rg := rg) hC10 e3 hi hcl (fun s hs => pk_same hC10 C' s (i + 1) (by omega) (by omega) hs)
  split at h
  · exact absurd rfl h
  · rename_i r e
    rcases (K.2 _ e).2 with z | ⟨c, c1, c2, c3⟩
    · exact absurd z h
    · refine ⟨c, c1, ?_⟩
      unfold f_MisFits
      rw [if_neg c2]
      unfold f_Mcp
      rw [(pk_fuel hC10 (C' + 1) C' _ (i + 1) (by omega) (by omega) (by omega)).1]
      exact c3
end
section
variable {τ : XS9} {x y v : Int32} {C : Nat} {rg : Nat → Nat}
def PIc (x y v : Int32) (C : Nat) (rg : Nat → Nat) (i : Nat) (s : XS9) : Prop := cn v < C ∧ cln 20000 (cn y) i s ∧ ¬ f_Mcp s (nI (cn x)) i C rg 20000 (cn y) = 0
def PJc (x y : Int32) (C : Nat) (rg : Nat → Nat) (i c : Nat) (s : XS9) : Prop := i < C ∧ ¬ (((nI (cn x)) >>> ((nI i) &&& 31)) &&& 1) = 0 ∧ cln 20000 (cn y) i s ∧ ¬ f_Mcp s (nI (cn x)) i C rg 20000 (cn y) = 0 ∧ ∀ c', c' < c → f_MisFits s (nI (cn x)) i c' C rg 20000 (cn y) = 0
theorem PJc.no (hC10 : C ≤ 10) {i : Nat} {s : XS9} (h : PJc x y C rg i (cn y) s) : False := by
  obtain ⟨h1, h2, h3, h4, h5⟩ := h
  obtain ⟨c, c1, c2⟩ := cp_in hC10 h1 h2 h3 h4
  exact c2 (h5 c c1)
theorem PJc.next (hC10 : C ≤ 10) {i c : Nat} {s : XS9} (h : PJc x y C rg i c s) (hc : c < cn y) (hf : f_MisFits s (nI (cn x)) i c C rg 20000 (cn y) = 0) : PJc x y C rg i (c + 1) (g_MisFits s (nI (cn x)) i c C rg 20000 (cn y)) := by
  obtain ⟨h1, h2, h3, h4, h5⟩ := h
  rw [fits_same hC10 h1 hc h3]
  refine ⟨h1, h2, h3, h4, fun c' hc' => ?_⟩
  rcases Nat.lt_or_ge c' c with q | q
  · exact h5 c' q
  · obtain rfl : c' = c := by omega
    exact hf
theorem PIc.start (hC10 : C ≤ 10) (hy : cn y ≤ 6) (hv : cn v < C) {s : XS9} (h : ¬ f_Mcp (uR s 20000 (rowN (cn y))) (nI (cn x)) 0 C rg 20000 (cn y) = 0) : PIc x y v C rg 0 (g_Mcp (uR s 20000 (rowN (cn y))) (nI (cn x)) 0 C rg 20000 (cn y)) := by
  have c0 : cln 20000 (cn y) 0 (uR s 20000 (rowN (cn y))) := fun c hc => ⟨0, by decide, by
    rw [uR_eq]
    unfold rowN
    rw [if_neg (by omega), if_neg (by omega)]
    rfl⟩
  have e : g_Mcp (uR s 20000 (rowN (cn y))) (nI (cn x)) 0 C rg 20000 (cn y) = uR s 20000 (rowN (cn y)) := pk_same hC10 C _ 0 (by omega) (by omega) c0
  rw [e]
  exact ⟨hv, c0, h⟩
theorem chan_found (hC10 : C ≤ 10) {i : Nat} {s : XS9} (h : PJc x y C rg i 0 s) : (x_Mchannel_104 x y C rg i (s, 0)).1 = s ∧ (x_Mchannel_104 x y C rg i (s, 0)).2 < cn y ∧ ¬ f_MisFits s (nI (cn x)) i (x_Mchannel_104 x y C rg i (s, 0)).2 C rg 20000 (cn y) = 0 := by
  unfold x_Mchannel_104
  refine xitB_fin (fun k t => t = (s, k) ∧ PJc x y C rg i k s) (fun t => t.1 = s ∧ t.2 < cn y ∧ ¬ f_MisFits s (nI (cn x)) i t.2 C rg 20000 (cn y) = 0) (N := cn y) (fun k t hk ht => ?_) (fun t ht => (PJc.no hC10 ht.2).elim) (cn y) 0 (s, 0) (Nat.zero_add _) ⟨rfl, h⟩
  obtain ⟨rfl, hp⟩ := ht
  have e := fits_same (rg := rg) (x := nI (cn x)) hC10 hp.1 hk hp.2.2.1
  (try dsimp only)
  split
  · rename_i hf
    refine ⟨fun s' q => ?_, fun s' q => (by cases q)⟩
    rw [← Sum.inl.inj q, e]
    have := hp.next hC10 hk hf
    rw [e] at this
    exact ⟨rfl, this⟩
  · rename_i hf
    refine ⟨fun s' q => (by cases q), fun s' q => ?_⟩
    rw [← Sum.inr.inj q]
    exact ⟨e, hk, hf⟩
theorem PIc.step (hC10 : C ≤ 10) {i : Nat} {s s' : XS9} (hi : i < cn v + 1) (h : PIc x y v C rg i s) (e : s_Mchan x y v C rg i s = .inl s') : PIc x y v C rg (i + 1) s' := by
  obtain ⟨h1, h2, h3⟩ := h
  unfold s_Mchan at e
  split at e
  · rename_i hb
    rw [← Sum.inl.inj e]
    exact ⟨h1, h2.mono (Nat.le_succ i), by rw [← cp_out hC10 (by omega) hb]; exact h3⟩
  · rename_i hb
    split at e
    · cases e
    · rw [← Sum.inl.inj e]
      obtain ⟨a, b, c⟩ := chan_found hC10 (show PJc x y C rg i 0 s from ⟨by omega, hb, h2, h3, fun c' hc' => absurd hc' (by omega)⟩)
      rw [a]
      refine ⟨h1, (h2.put (by omega) b).1, ?_⟩
      unfold f_MisFits at c
      split at c
      · exact absurd rfl c
      · exact c
theorem chan_mem {R : Nat} : (∃ t, g_Mchannel τ x y v R C rg = u2 (u2 τ 5000 0 0) 5000 0 t) ∨ ((∀ q, q ≠ 20000 → g_Mchannel τ x y v R C rg q = u2 τ 5000 0 0 q) ∧ g_Mchannel τ x y v R C rg 20000 20 = 0) := by
  unfold g_Mchannel
  split
  · split
    · split
      · rename_i hy
        have hc := cn6 hy
        refine .inr ?_
        split
        · exact ⟨fun q hq => by rw [u2_ne hq, uR_ne hq], u2_at⟩
        · split
          · exact ⟨fun q hq => by rw [u2_ne hq, fr_Mcp ⟨hq, hc⟩, uR_ne hq], u2_at⟩
          · have F : ∀ q, q ≠ 20000 → g_Mcp (uR (u2 τ 5000 0 0) 20000 (rowN (cn y))) (nI (cn x)) 0 C rg 20000 (cn y) q = u2 τ 5000 0 0 q := fun q hq => by rw [fr_Mcp ⟨hq, hc⟩, uR_ne hq]
            generalize g_Mcp (uR (u2 τ 5000 0 0) 20000 (rowN (cn y))) (nI (cn x)) 0 C rg 20000 (cn y) = s0 at F ⊢
            have A : ∀ i s, (∀ q, q ≠ 20000 → s q = u2 τ 5000 0 0 q) → ∀ q, q ≠ 20000 → (x_Mchannel_104 x y C rg i (s, 0)).1 q = u2 τ 5000 0 0 q := fun i s hs => by
              unfold x_Mchannel_104
              refine xitB_all (fun t : XS9 × Nat => ∀ q, q ≠ 20000 → t.1 q = u2 τ 5000 0 0 q) (N := cn y) (fun k t t' hk ht => ?_) (cn y) 0 _ (Nat.zero_add _) hs
              (try dsimp only)
              split
              · intro e
                rcases e with e | e
                · rw [← Sum.inl.inj e]
                  exact fun q hq => (fr_MisFits ⟨hq, hc⟩).trans (ht q hq)
                · cases e
              · intro e
                rcases e with e | e
                · cases e
                · rw [← Sum.inr.inj e]
                  exact fun q hq => (fr_MisFits ⟨hq, hc⟩).trans (ht q hq)
            have B := xitR_pi (step := s_Mchan x y v C rg) (fun _ s => ∀ q, q ≠ 20000 → s q = u2 τ 5000 0 0 q) (fun r : XS9 × Int32 => (∀ q, q ≠ 20000 → r.1 q = u2 τ 5000 0 0 q) ∧ r.1 20000 20 = 0) (N := cn v + 1) (fun i s hi hs => by
              unfold s_Mchan
              split
              · exact ⟨fun s' e => (by rw [← Sum.inl.inj e]; exact hs), fun r e => (by cases e)⟩
              · split
                · refine ⟨fun s' e => (by cases e), fun r e => ?_⟩
                  rw [← Sum.inr.inj e]
                  exact ⟨fun q hq => by dsimp only; rw [u2_ne hq, u2_ne hq]; exact A i s hs q hq, by dsimp only; rw [u2_at]⟩
                · refine ⟨fun s' e => ?_, fun r e => (by cases e)⟩
                  rw [← Sum.inl.inj e]
                  exact fun q hq => by rw [u2_ne hq]; exact A i s hs q hq) (cn v + 1) 0 s0 (Nat.zero_add _) F
            have B : (∀ s', x_Mchannel_83 x y v C rg s0 = .inl s' → ∀ q, q ≠ 20000 → s' q = u2 τ 5000 0 0 q) ∧ ∀ r, x_Mchannel_83 x y v C rg s0 = .inr r → (∀ q, q ≠ 20000 → r.1 q = u2 τ 5000 0 0 q) ∧ r.1 20000 20 = 0 := B
            generalize x_Mchannel_83 x y v C rg s0 = w at B ⊢
            cases w with
            | inl s83 => exact ⟨fun q hq => by dsimp only; rw [u2_ne hq]; exact B.1 _ rfl q hq, u2_at⟩
            | inr r83 => exact B.2 _ rfl
      · exact .inl ⟨2, rfl⟩
    · exact .inl ⟨2, rfl⟩
  · exact .inl ⟨1, rfl⟩
theorem chan_all {R : Nat} (r : JR τ) (h : JS τ) (p : JP τ) : (JR (g_Mchannel τ x y v R C rg) ∧ JS (g_Mchannel τ x y v R C rg) ∧ JP (g_Mchannel τ x y v R C rg)) ∧ VM τ (g_Mchannel τ x y v R C rg) := by
  rcases chan_mem (τ := τ) (x := x) (y := y) (v := v) (R := R) (C := C) (rg := rg) with ⟨t, e⟩ | ⟨e1, e2⟩
  · rw [e]
    exact ⟨⟨r.s00, h.s00 r, p.s00⟩, VM.s00⟩
  · generalize g_Mchannel τ x y v R C rg = u at e1 e2 ⊢
    have r0 := r.s0 (x := 0)
    refine ⟨⟨r0.hi (fun q hq => e1 q (by omega)) ⟨⟨?_, ?_⟩, fun q a b => ?_⟩, (h.s0 r).hi r0 fun q hq => e1 q (by omega), p.s0.hi fun q hq => e1 q (by omega)⟩, VM.s0.trans (VM.hi fun q hq => e1 q (by omega))⟩
    · rw [e1 _ (by decide)]
      exact r0.2.1.1
    · rw [e1 _ (by decide)]
      exact r0.2.1.2
    · by_cases e0 : q = 20000
      · rw [e0]
        exact e2
      · rw [e1 _ e0]
        exact r0.2.2 q a b
end
