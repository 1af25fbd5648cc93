/-! ===== pure facts: the clock's closing, its codes and prices ===== -/
theorem bd.subp {c d : Int32} (h : bd 7775 c) {r : Nat} (hr : r < 5) (hd : bd 5 d) (hg : ¬ f_of c r ≤ d) : bd 7775 (c - f_power r) := by
  have h2 := h.2
  have d2 := hd.2
  obtain ⟨p0, p1⟩ := pow6r hr
  rw [h.1, of_eq h2 hr, hd.1] at hg
  rw [h.1, power_eq hr]
  generalize cn c = n at h2 hg
  generalize cn d = m at d2 hg
  have hk : 6 ^ r ≤ n := by
    rcases Nat.lt_or_ge n (6 ^ r) with q | q
    · exfalso
      apply hg
      rw [Nat.div_eq_of_lt q, i_le, toI_nI (by omega), toI_nI (by omega)]
      omega
    · exact q
  rw [nI_minus hk]
  exact bd.nat (by omega) (by decide)
theorem xitB_all {S : Type} {step : Nat → S → S ⊕ S} (P : S → Prop) {N : Nat} (h : ∀ i s s', i < N → P s → step i s = .inl s' ∨ step i s = .inr s' → P s') : ∀ (f i : Nat) (s : S), i + f = N → P s → P (xitB step f i s)
  | 0, _, _, _, hP => hP
  | f + 1, i, s, e, hP => by
    unfold xitB
    split
    · rename_i s' e'
      exact xitB_all P h f (i + 1) s' (by omega) (h i s s' (by omega) hP (.inl e'))
    · rename_i s' e'
      exact h i s s' (by omega) hP (.inr e')
def kcP (σ : XS9) (b R B g w n : Nat) : XS9 := x_Kclose_65 σ b R B g w n (x_Kclose_2 σ b R B g w n σ)
def kc0 (σ : XS9) (b R B g w n : Nat) : XS9 := u2 (uR (kcP σ b R B g w n) (b + 100 + n) (kcP σ b R B g w n (b + 1))) b 21 (nI (n + 1))
def kcV (σ : XS9) (x : Int32) (b R B g w n : Nat) : XS9 × Int32 := x_Kclose_169 σ x b R B g w n (kc0 σ b R B g w n, 0)
def kcT (s : XS9) (f : Int32) (b n : Nat) : XS9 := u2 (u2 (uR s (b + 200 + n) (s (b + 2))) b 22 (nI (n + 1))) b 9 f
def kcF (s : XS9) (f : Int32) (b g w n : Nat) : XS9 := u2 (uR (u2 (uR (kcT s f b n) (b + 500 + (g + 1)) (kcT s f b n (b + 2))) b 23 (nI (g + 1))) (b + 700 + (w + 1)) (fun _ => 0)) b 24 (nI (w + 1))
section
variable {σ : XS9} {x : Int32} {b R B g w n : Nat}
theorem Kclose_eq : g_Kclose σ x b R B g w n = kcF (kcV σ x b R B g w n).1 (if (kcV σ x b R B g w n).2 = 0 then 1 else if nI (n + 1) = 60 then 1 else 0) b g w n := by
  unfold g_Kclose kcF kcT kcV kc0 kcP
  split
  · rfl
  · split <;> rfl
theorem kcT_row {s : XS9} {f : Int32} {q : Nat} (h : q ≠ b ∧ q ≠ b + 200 + n) : kcT s f b n q = s q := by
  unfold kcT
  rw [u2_ne h.1, u2_ne h.1, uR_ne h.2]
theorem kcF_row {s : XS9} {f : Int32} {q : Nat} (h : q ≠ b ∧ q ≠ b + 200 + n ∧ q ≠ b + 500 + (g + 1) ∧ q ≠ b + 700 + (w + 1)) : kcF s f b g w n q = s q := by
  unfold kcF
  rw [u2_ne h.1, uR_ne h.2.2.2, u2_ne h.1, uR_ne h.2.2.1, kcT_row ⟨h.1, h.2.1⟩]
theorem kcF_wish {s : XS9} {f : Int32} (hg : g < 199) (hn : n < 60) : kcF s f b g w n (b + 500 + (g + 1)) = s (b + 2) := by
  unfold kcF
  rw [u2_ne (by omega), uR_ne (by omega), u2_ne (by omega), uR_eq, kcT_row (by omega)]
theorem kcF_waived {s : XS9} {f : Int32} : kcF s f b g w n (b + 700 + (w + 1)) = fun _ => 0 := by
  unfold kcF
  rw [u2_ne (by omega), uR_eq]
theorem kcF_over {s : XS9} {f : Int32} : kcF s f b g w n b 9 = f := by
  unfold kcF kcT
  rw [u2_oi (by decide), uR_ne (by omega), u2_oi (by decide), uR_ne (by omega), u2_at]
/-- what is held, as codes -/
def HBk (b : Nat) (s : XS9) : Prop := ∀ i, i < 6 → bd 7775 (s (b + 2) i)
theorem HBk.put {s : XS9} (h : HBk b s) {i : Nat} {v : Int32} (hv : i < 6 → bd 7775 v) : HBk b (u2 s (b + 2) i v) := fun k hk => by
  by_cases e : k = i
  · subst e
    rw [u2_at]
    exact hv hk
  · rw [u2_oi e]
    exact h k hk
theorem HBk.c181 (hK : KW b g σ) (hB6 : B ≤ 6) (hg : g < 200) {s : XS9} {r : Nat} (hr : r < 5) (h : HBk b s) : HBk b (x_Kclose_181 σ b R B g w n r s) := by
  have W := (hK.clo2 (R := R) (w := w) (n := n) hB6 hg).2
  unfold x_Kclose_181
  refine xit_inv (HBk b) (N := B) (fun i s hi hP => ?_) B 0 _ (Nat.zero_add _) h
  (try dsimp only)
  split
  · exact hP
  · exact hP.put fun h6 => (hP i h6).withd hr ((W i h6).ofd hr)
theorem HBk.c274 (hK : KW b g σ) (hB6 : B ≤ 6) (hg : g < 200) {s s9 : XS9} {r i : Nat} (hr : r < 5) (h : HBk b s) : HBk b (x_Kclose_274 σ b R B g w n r i s9 s) := by
  have W := (hK.clo2 (R := R) (w := w) (n := n) hB6 hg).2
  unfold x_Kclose_274
  refine xitB_all (HBk b) (N := 5) (fun k s s' hk hP => ?_) 5 0 _ (Nat.zero_add _) h
  (try dsimp only)
  split
  · intro e
    rcases e with e | e
    · cases e
    · rw [← Sum.inr.inj e]
      exact hP
  · rename_i hn
    split
    · intro e
      rcases e with e | e
      · cases e
      · rw [← Sum.inr.inj e]
        exact hP
    · intro e
      rcases e with e | e
      · rw [← Sum.inl.inj e]
        exact hP.put fun h6 => (hP i h6).subp hr ((W i h6).ofd hr) hn
      · cases e
theorem HBk.c259 (hK : KW b g σ) (hB6 : B ≤ 6) (hg : g < 200) {s : XS9} {r : Nat} (hr : r < 5) (h : HBk b s) : HBk b (x_Kclose_259 σ b R B g w n r s) := by
  unfold x_Kclose_259
  refine xit_inv (HBk b) (N := B) (fun i s hi hP => ?_) B 0 _ (Nat.zero_add _) h
  exact hP.c274 hK hB6 hg hr
theorem HBk.rowof {s s' : XS9} (h : HBk b s) (e : s' (b + 2) = s (b + 2)) : HBk b s' := fun i hi => by rw [e]; exact h i hi
theorem kcP_row {q : Nat} (h : q ≠ b + 500 + g ∧ q ≠ b + 5 ∧ q ≠ b + 3) : kcP σ b R B g w n q = σ q := by
  unfold kcP
  rw [fx_Kclose_65 h.2.2, fx_Kclose_2 ⟨h.1, h.2.1⟩]
theorem kc0_row {q : Nat} (h : q ≠ b + 500 + g ∧ q ≠ b + 5 ∧ q ≠ b + 3 ∧ q ≠ b ∧ q ≠ b + 100 + n) : kc0 σ b R B g w n q = σ q := by
  unfold kc0
  rw [u2_ne h.2.2.2.1, uR_ne h.2.2.2.2, kcP_row ⟨h.1, h.2.1, h.2.2.1⟩]
theorem kcV_held (hK : KW b g σ) (hR5 : R ≤ 5) (hB6 : B ≤ 6) (hg : g < 200) : HBk b (kcV σ x b R B g w n).1 := by
  unfold kcV x_Kclose_169
  refine xit_inv (fun s : XS9 × Int32 => HBk b s.1) (N := R) (fun i s hi hP => ?_) R 0 _ (Nat.zero_add _) (HBk.rowof (s := σ) (fun i hi => hK.1 i hi) (kc0_row (by omega)))
  have H : HBk b (x_Kclose_259 σ b R B g w n i (x_Kclose_181 σ b R B g w n i s.1)) := (HBk.c181 hK hB6 hg (by omega) hP).c259 hK hB6 hg (by omega)
  (try dsimp only)
  split
  · exact H.rowof (u2_ne (by omega))
  · exact H
theorem KW.close (hK : KW b g σ) (hR5 : R ≤ 5) (hB6 : B ≤ 6) (hg : g < 199) (hw : w < 199) (hn : n < 60) : KW b (g + 1) (g_Kclose σ x b R B g w n) := by
  have H : HBk b (kcV σ x b R B g w n).1 := kcV_held hK hR5 hB6 (by omega)
  rw [Kclose_eq]
  refine ⟨fun i hi => ?_, fun i hi => ?_⟩
  · rw [kcF_row (by omega)]
    exact H i hi
  · rw [kcF_wish hg hn]
    exact H i hi
/-- the prices -/
def PBk (b : Nat) (s : XS9) : Prop := ∀ r, r < 5 → bd 9999 (s (b + 1) r)
theorem kcV_price (hx : bd 20 x) (hp : PBk b σ) : PBk b (kcV σ x b R B g w n).1 := by
  unfold kcV x_Kclose_169
  refine xit_inv (fun s : XS9 × Int32 => PBk b s.1) (N := R) (fun i s hi hP => ?_) R 0 _ (Nat.zero_add _) (fun r hr => ?_)
  · have H : x_Kclose_259 σ b R B g w n i (x_Kclose_181 σ b R B g w n i s.1) (b + 1) = s.1 (b + 1) := by rw [fx_Kclose_259 (by omega), fx_Kclose_181 (by omega)]
    (try dsimp only)
    split
    · intro r hr
      show bd 9999 (u2 _ (b + 1) i _ (b + 1) r)
      by_cases e : r = i
      · subst e
        rw [u2_at]
        exact raise_amt (hP r hr) hx
      · rw [u2_oi e, H]
        exact hP r hr
    · intro r hr
      show bd 9999 (x_Kclose_259 σ b R B g w n i (x_Kclose_181 σ b R B g w n i s.1) (b + 1) r)
      rw [H]
      exact hP r hr
  · show bd 9999 (kc0 σ b R B g w n (b + 1) r)
    rw [kc0_row (by omega)]
    exact hp r hr
theorem PBk.close (hx : bd 20 x) (hp : PBk b σ) (hg : g < 199) (hw : w < 199) (hn : n < 60) : PBk b (g_Kclose σ x b R B g w n) := by
  have H : PBk b (kcV σ x b R B g w n).1 := kcV_price hx hp
  rw [Kclose_eq]
  intro r hr
  rw [kcF_row (by omega)]
  exact H r hr
theorem Kclose_on (h : g_Kclose σ x b R B g w n b 9 = 0) : ¬ nI (n + 1) = 60 := by
  rw [Kclose_eq, kcF_over] at h
  intro e
  rw [if_pos e] at h
  revert h
  split <;> decide
theorem Kclose_waived : g_Kclose σ x b R B g w n (b + 700 + (w + 1)) = fun _ => 0 := by
  rw [Kclose_eq, kcF_waived]
theorem Kclose_step (hb : b + 1000 ≤ 9000) : g_Kclose σ x b R B g w n b 9 = 0 ∨ g_Kclose σ x b R B g w n b 9 = 1 := by
  rw [Kclose_eq, kcF_over]
  (repeat' split) <;> first | exact .inl rfl | exact .inr rfl
end
