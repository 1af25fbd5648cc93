/-! ===== the search of the reference: the first best of all, and the greatest for each set ===== -/
def SCm (D : Nat → Nat → Nat → Nat) (gr q : Nat → Nat) (R i : Nat) (c : Nat → Nat) (s : XS9) : Prop := (∀ j, j < i → s 9002 j = rwc (c j)) ∧ (∀ r, r < R → s 9004 r = nI (q r - cTk D r c)) ∧ ∀ g, g < 4 → ∀ r, r < R → s 9005 (5 * g + r) = nI (cTg D gr g r c)
def PCm (D : Nat → Nat → Nat → Nat) (A : Nat → Nat → Nat) (q : Nat → Nat) (cap R B : Nat) (pk : Nat → Nat) (cd : Nat → Nat → Nat) (t : XS9) : Prop := (∀ r, r < R → q r ≤ 5) ∧ (t 5000 2 = nI cap ∧ cap ≤ 5) ∧ ∀ j, j < B → ∀ k, k < pk j → cd j k ≤ 7775 ∧ cd j k < 6 ^ R ∧ (∀ r, r < R → D j k r = cd j k / 6 ^ r % 6) ∧ t (5030 + j) (2 * k + 1) = nI (A j k) ∧ A j k ≤ 300000
def BOm (A : Nat → Nat → Nat) (X : (Nat → Nat) → Prop) (s : XS9) : Prop := (∀ S, S < 64 → ∃ w, s 9003 S = nI w ∧ w ≤ 1800000 ∧ (∀ d, X d → cSp d = S → cAm A d ≤ w) ∧ (w = 0 ∨ ∃ c, X c ∧ cSp c = S ∧ cAm A c = w)) ∧ ((s 9000 5 = -1 ∧ ∀ c, ¬ X c) ∨ ∃ c, X c ∧ s 9000 5 = nI (cAm A c) ∧ (∀ j, j < 6 → s 9001 j = rwc (c j)) ∧ ∀ d, X d → btr A c d)
def mEx (D : Nat → Nat → Nat → Nat) (gr q : Nat → Nat) (cap R : Nat) (pk : Nat → Nat) (t : XS9) (i : Nat) (c d : Nat → Nat) : Prop := cOk pk d ∧ cFe D gr q cap R d ∧ (∀ j, j < i → d j = c j) ∧ ∀ j, j < 6 → d j ≠ 0 → t (5020 + j) 4 = 0
section
variable {σ s s2 t : XS9} {D : Nat → Nat → Nat → Nat} {A : Nat → Nat → Nat} {gr grM q pk pkM : Nat → Nat} {cd : Nat → Nat → Nat} {cap R B : Nat} {X Y : (Nat → Nat) → Prop} {c d : Nat → Nat}
theorem BOm.of (h : BOm A X s) (e : ∀ a, (a = 9000 ∨ a = 9001 ∨ a = 9003) → s2 a = s a) : BOm A X s2 := by
  refine ⟨fun S hS => ?_, ?_⟩
  · rw [e 9003 (by omega)]
    exact h.1 S hS
  · rw [e 9000 (by omega), e 9001 (by omega)]
    exact h.2
theorem BOm.iff (h : BOm A X s) (e : ∀ d, X d ↔ Y d) : BOm A Y s := by
  rw [← show X = Y from funext fun d => propext (e d)]
  exact h
theorem PCm.am (h : PCm D A q cap R B pk cd t) (hpk : ∀ j, B ≤ j → j < 6 → pk j = 0) (hc : cOk pk c) : cAm A c ≤ 1800000 := cAm_le (m := 300000) fun j hj => by
  unfold cAd
  split
  · exact Nat.zero_le _
  · have h1 := hc j hj
    rcases Nat.lt_or_ge j B with l | l
    · exact (h.2.2 j l (c j - 1) (by omega)).2.2.2.2
    · rw [hpk j l hj] at h1
      omega
theorem BOm.leaf {S : Nat} {x : Int32} (h : BOm A X s) (hX : ∀ d, X d → lx d c ∧ cAm A d ≤ 1800000) (hm : cAm A c ≤ 1800000) (hB6 : B ≤ 6) (hp : ∀ j, j < B → s 9002 j = rwc (c j)) (hz : ∀ j, B ≤ j → j < 6 → c j = 0) (hS : S = cSp c) (hx : x = nI (cAm A c)) : BOm A (fun d => X d ∨ e6 d c) (g_CpickBase s S x B) := by
  have wpart : ∀ s2 : XS9, s2 9003 = u2 s 9003 S (if s 9003 S < x then x else s 9003 S) 9003 → ∀ S2, S2 < 64 → ∃ w, s2 9003 S2 = nI w ∧ w ≤ 1800000 ∧ (∀ d, (X d ∨ e6 d c) → cSp d = S2 → cAm A d ≤ w) ∧ (w = 0 ∨ ∃ c0, (X c0 ∨ e6 c0 c) ∧ cSp c0 = S2 ∧ cAm A c0 = w) := fun s2 e S2 h2 => by
    obtain ⟨w, w1, w2, w3, w4⟩ := h.1 S2 h2
    rw [e]
    by_cases e2 : S2 = S
    · subst e2
      rw [u2_at, w1, hx]
      by_cases l : w < cAm A c
      · rw [if_pos ((nlt (by omega) (by omega)).mpr l)]
        refine ⟨_, rfl, hm, fun d hd hs => ?_, .inr ⟨c, .inr (fun _ _ => rfl), hS.symm, rfl⟩⟩
        rcases hd with hd | hd
        · have := w3 d hd hs
          omega
        · rw [hd.am]
          exact Nat.le_refl _
      · rw [if_neg (fun z => l ((nlt (by omega) (by omega)).mp z))]
        refine ⟨w, rfl, w2, fun d hd hs => ?_, w4.elim .inl (fun ⟨c0, a, b⟩ => .inr ⟨c0, .inl a, b⟩)⟩
        rcases hd with hd | hd
        · exact w3 d hd hs
        · rw [hd.am]
          omega
    · rw [u2_oi e2]
      refine ⟨w, w1, w2, fun d hd hs => ?_, w4.elim .inl (fun ⟨c0, a, b⟩ => .inr ⟨c0, .inl a, b⟩)⟩
      rcases hd with hd | hd
      · exact w3 d hd hs
      · rw [hd.sp, ← hS] at hs
        exact absurd hs.symm e2
  have f62 : ∀ (s9 : XS9) (a : Nat), a ≠ 9001 → x_CpickBase_62 s S x B s9 a = s9 a := fun s9 a ha => xit_keep (fun s : XS9 => s a) (fun i s => by (try dsimp only); rw [u2_ne ha]) _ _ _
  have r62 : ∀ (s9 : XS9) (j : Nat), j < 6 → x_CpickBase_62 s S x B s9 9001 j = if j < B then s9 9001 j else -1 := fun s9 j hj => by
    have H : ∀ (f i : Nat) (s8 : XS9), xit (fun i62 (s62 : XS9) => u2 s62 9001 (B + i62) (-1)) f i s8 9001 j = if B + i ≤ j ∧ j < B + i + f then -1 else s8 9001 j := by
      intro f
      induction f with
      | zero => exact fun i s8 => (if_neg (by omega)).symm
      | succ f ih =>
        intro i s8
        refine (ih (i + 1) (u2 s8 9001 (B + i) (-1))).trans ?_
        by_cases e : j = B + i
        · rw [if_neg (by omega), if_pos (by omega), e, u2_at]
        · rw [u2_oi e]
          by_cases e2 : B + i ≤ j ∧ j < B + i + (f + 1)
          · rw [if_pos e2, if_pos (by omega)]
          · rw [if_neg e2, if_neg (by omega)]
    refine (H (6 - B) 0 s9).trans ?_
    by_cases e : j < B
    · rw [if_neg (by omega), if_pos e]
    · rw [if_pos (by omega), if_neg e]
  have put : (∀ d, X d → btr A c d) → BOm A (fun d => X d ∨ e6 d c) (x_CpickBase_62 s S x B (uR (u2 (u2 s 9003 S (if s 9003 S < x then x else s 9003 S)) 9000 5 x) 9001 (va_cpy (s 9002) (s 9001) 0 0 6))) := fun hb => by
    refine ⟨wpart _ (by rw [f62 _ _ (by decide), uR_ne (by decide), u2_ne (by decide)]), .inr ⟨c, .inr (fun _ _ => rfl), ?_, fun j hj => ?_, fun d hd => ?_⟩⟩
    · rw [f62 _ _ (by decide), uR_ne (by decide), u2_at]
      exact hx
    · rw [r62 _ j hj]
      by_cases e : j < B
      · rw [if_pos e, uR_eq, cpy_lo hj]
        exact hp j e
      · rw [if_neg e, hz j (by omega) hj]
        rfl
    · rcases hd with hd | hd
      · exact hb d hd
      · exact hd.symm.btr
  unfold g_CpickBase
  rcases h.2 with ⟨a, b⟩ | ⟨c0, a, b, e, f⟩
  · rw [if_pos (show s 9000 5 < x by rw [a, hx]; exact m1_lt (by omega))]
    exact put fun d hd => absurd hd (b d)
  · obtain ⟨k1, k2⟩ := hX c0 a
    by_cases c1 : cAm A c0 < cAm A c
    · rw [if_pos (show s 9000 5 < x by rw [b, hx]; exact (nlt (by omega) (by omega)).mpr c1)]
      exact put fun d hd => (show btr A c c0 from .inl c1).trans (f d hd)
    · rw [if_neg (show ¬ s 9000 5 < x by rw [b, hx]; exact fun z => c1 ((nlt (by omega) (by omega)).mp z))]
      have hb : btr A c0 c := by
        by_cases c2 : cAm A c = cAm A c0
        · exact .inr ⟨c2, fun z => lx_asym k1 z⟩
        · exact .inl (by omega)
      refine ⟨wpart _ rfl, .inr ⟨c0, .inl a, ?_, fun j hj => ?_, fun d hd => ?_⟩⟩
      · rw [u2_ne (by decide)]
        exact b
      · rw [u2_ne (by decide)]
        exact e j hj
      · rcases hd with hd | hd
        · exact f d hd
        · exact hb.trans hd.symm.btr
theorem SCm.of {i : Nat} (h : SCm D gr q R i c s) (e : ∀ a, (a = 9002 ∨ a = 9004 ∨ a = 9005) → s2 a = s a) : SCm D gr q R i c s2 := ⟨fun j hj => by rw [e _ (by omega)]; exact h.1 j hj, fun r hr => by rw [e _ (by omega)]; exact h.2.1 r hr, fun g hg r hr => by rw [e _ (by omega)]; exact h.2.2 g hg r hr⟩
theorem cp_ok (hg : ∀ j, j < 6 → gr j < 4) (hp6 : ∀ j, j < 6 → pk j ≤ 6) (hpk : ∀ j, B ≤ j → j < 6 → pk j = 0) (hB6 : B ≤ 6) (hR5 : R ≤ 5) (eg : ∀ j, j < B → grM j = gr j) (ep : ∀ j, j < B → pkM j = pk j) (P : PCm D A q cap R B pk cd t) : ∀ (f i : Nat), i + f = B → ∀ (s : XS9) (S : Nat) (x : Int32) (c : Nat → Nat) (X : (Nat → Nat) → Prop), (∀ a, a < 9000 → s a = t a) → SCm D gr q R i c s → BOm A X s → (∀ d, X d → cOk pk d ∧ ∃ m, m < i ∧ (∀ j, j < m → d j = c j) ∧ d m < c m) → cOk pk c → cFe D gr q cap R c → (∀ j, i ≤ j → j < 6 → c j = 0) → (∀ j, j < 6 → c j ≠ 0 → t (5020 + j) 4 = 0) → S = cSp c → x = nI (cAm A c) → (∀ a, a < 9000 → g_Cpick B pkM grM cd f i s S x a = t a) ∧ SCm D gr q R i c (g_Cpick B pkM grM cd f i s S x) ∧ BOm A (fun d => X d ∨ mEx D gr q cap R pk t i c d) (g_Cpick B pkM grM cd f i s S x) := by
  intro f
  induction f with
  | zero =>
    intro i e s S x c X rows C O hX hc hf hz ho hS hx
    obtain rfl : i = B := by omega
    show (∀ a, a < 9000 → g_CpickBase s S x i a = t a) ∧ SCm D gr q R i c (g_CpickBase s S x i) ∧ BOm A (fun d => X d ∨ mEx D gr q cap R pk t i c d) (g_CpickBase s S x i)
    have kp : ∀ a, a ≠ 9000 → a ≠ 9001 → a ≠ 9003 → g_CpickBase s S x i a = s a := fun a h0 h1 h3 => by
      unfold g_CpickBase
      split
      · refine (xit_keep (fun s : XS9 => s a) (fun i s => by (try dsimp only); rw [u2_ne h1]) _ _ _).trans ?_
        (try dsimp only)
        rw [uR_ne h1, u2_ne h0, u2_ne h3]
      · rw [u2_ne h3]
    refine ⟨fun a ha => (kp a (by omega) (by omega) (by omega)).trans (rows a ha), C.of fun a ha => kp a (by omega) (by omega) (by omega), ?_⟩
    refine (O.leaf (c := c) (B := i) (fun d hd => ⟨?_, P.am hpk (hX d hd).1⟩) (P.am hpk hc) hB6 C.1 hz hS hx).iff fun d => or_congr Iff.rfl ⟨fun h => ⟨h.symm.ok hc, h.symm.fe hf, fun j hj => h j (by omega), fun j hj hn => ho j hj (by rw [← h j hj]; exact hn)⟩, fun ⟨h1, _, h3, _⟩ j hj => ?_⟩
    · obtain ⟨_, m, m1, m2, m3⟩ := hX d hd
      exact ⟨m, by omega, m2, m3⟩
    · rcases Nat.lt_or_ge j i with l | l
      · exact h3 j l
      · rw [hz j l hj]
        have := h1 j hj
        rw [hpk j l hj] at this
        omega
  | succ f ih =>
    intro i e s S x c X rows C O hX hc hf hz ho hS hx
    have hiB : i < B := by omega
    have hi : i < 6 := by omega
    have h0 : c i = 0 := hz i (Nat.le_refl _) hi
    have gi := hg i hi
    show (∀ a, a < 9000 → x_CpickStep_119 s (fun σ S x => g_Cpick B pkM grM cd f (i + 1) σ S x) i S x B pkM grM cd (g_Cpick B pkM grM cd f (i + 1) (u2 s 9002 i (-1)) S x) a = t a) ∧ SCm D gr q R i c (x_CpickStep_119 s (fun σ S x => g_Cpick B pkM grM cd f (i + 1) σ S x) i S x B pkM grM cd (g_Cpick B pkM grM cd f (i + 1) (u2 s 9002 i (-1)) S x)) ∧ BOm A (fun d => X d ∨ mEx D gr q cap R pk t i c d) (x_CpickStep_119 s (fun σ S x => g_Cpick B pkM grM cd f (i + 1) σ S x) i S x B pkM grM cd (g_Cpick B pkM grM cd f (i + 1) (u2 s 9002 i (-1)) S x))
    have R0 := ih (i + 1) (by omega) (u2 s 9002 i (-1)) S x c X (fun a ha => by rw [u2_ne (by omega)]; exact rows a ha) ⟨fun j hj => by
      by_cases e9 : j = i
      · rw [e9, u2_at, h0]
        rfl
      · rw [u2_oi e9]
        exact C.1 j (by omega), fun r hr => by rw [u2_ne (by decide)]; exact C.2.1 r hr, fun g hg4 r hr => by rw [u2_ne (by decide)]; exact C.2.2 g hg4 r hr⟩ (O.of fun a ha => u2_ne (by omega)) (fun d hd => ⟨(hX d hd).1, by
      obtain ⟨_, m, m1, m2, m3⟩ := hX d hd
      exact ⟨m, by omega, m2, m3⟩⟩) hc hf (fun j h1 h2 => hz j (by omega) h2) ho hS hx
    generalize g_Cpick B pkM grM cd f (i + 1) (u2 s 9002 i (-1)) S x = s1 at R0 ⊢
    obtain ⟨r1, r2, r3⟩ := R0
    unfold x_CpickStep_119
    refine xitB_fin (fun k s2 => (∀ a, a < 9000 → s2 a = t a) ∧ SCm D gr q R i c s2 ∧ BOm A (fun d => X d ∨ (mEx D gr q cap R pk t i c d ∧ d i ≤ k)) s2) (fun s2 => (∀ a, a < 9000 → s2 a = t a) ∧ SCm D gr q R i c s2 ∧ BOm A (fun d => X d ∨ mEx D gr q cap R pk t i c d) s2) (N := pkM i) (fun k s2 hk hP => ?_) (fun s2 hP => ?_) (pkM i) 0 s1 (Nat.zero_add _) ⟨r1, ⟨fun j hj => r2.1 j (by omega), r2.2⟩, r3.iff fun d => ?_⟩
    · obtain ⟨P1, C2, O2⟩ := hP
      rw [ep i hiB] at hk
      obtain ⟨d1, d2, d3, d4, d5⟩ := P.2.2 i hiB k hk
      (try dsimp only)
      rw [rows _ (by omega), eg i hiB]
      by_cases c0 : t (5020 + i) 4 = 0
      · rw [if_pos c0]
        have fi := can_eq (σ := s2) (j := i) (n := cd i k) (x := nI (cd i k)) (R := R) (q := q) (t := fun r => cTk D r c) (u := fun r => cTg D gr (gr i) r c) (cap := cap) (g := gr i) d1 hR5 d2 (funext fun r => by
          unfold dgt
          rw [cn_nI (by omega)]) (fun r hr => ⟨C2.2.1 r hr, P.1 r hr, (hf r hr).1⟩) (fun hn r hr => ⟨C2.2.2 (gr i) gi r hr, (hf r hr).2 (gr i) (by omega)⟩) (by rw [P1 5000 (by decide)]; exact P.2.1.1) P.2.1.2 gi
        have ff : cFe D gr q cap R (cUp c i (k + 1)) ↔ ∀ r, r < R → fOK (nI (cd i k)) q (fun r => cTk D r c) (fun r => cTg D gr (gr i) r c) cap (gr i) r := by
          rw [cFe_up hi h0 hf]
          refine forall_congr' fun r => forall_congr' fun hr => ?_
          unfold fOK
          rw [d3 r hr, show dgt (nI (cd i k)) r = cd i k / 6 ^ r % 6 by unfold dgt; rw [cn_nI (by omega)]]
        by_cases c3 : cFe D gr q cap R (cUp c i (k + 1))
        · rw [if_neg (fun z => fi.mp z (ff.mp c3))]
          refine ⟨fun s' e9 => ?_, fun s' e9 => (by cases e9)⟩
          rw [← Sum.inl.inj e9]
          have cu : ∀ j, j ≠ i → cUp c i (k + 1) j = c j := fun j hj => cUp_ne hj
          obtain ⟨t1, t2⟩ := took (σ := s2) (j := i) (n := cd i k) (y := 1) (g := gr i) d1
          have tr : ∀ a, a ≠ 9004 → a ≠ 9005 → g_Ctake s2 i (cd i k) 1 (gr i) a = s2 a := fun a h1 h2 => fr_Ctake ⟨h1, h2⟩
          have hS2 : S ||| 2 ^ i = cSp (cUp c i (k + 1)) := by rw [hS]; exact cSp_or hi h0
          have hb : f_Bamount (u2 (g_Ctake s2 i (cd i k) 1 (gr i)) 9002 i (nI k)) i k = nI (A i k) := by
            unfold f_Bamount
            rw [u2_ne (by omega), tr _ (by omega) (by omega), P1 _ (by omega)]
            exact d4
          rw [hb]
          have hx2 : x + nI (A i k) = nI (cAm A (cUp c i (k + 1))) := by rw [hx, nI_plus, cAm_up hi h0]
          have U := ih (i + 1) (by omega) (u2 (g_Ctake s2 i (cd i k) 1 (gr i)) 9002 i (nI k)) (S ||| 2 ^ i) (x + nI (A i k)) (cUp c i (k + 1)) _ (fun a ha => by rw [u2_ne (by omega), tr _ (by omega) (by omega)]; exact P1 a ha) ⟨fun j hj => by
              by_cases e8 : j = i
              · rw [e8, u2_at, cUp_at]
                unfold rwc
                rw [if_neg (by omega), Nat.add_sub_cancel]
              · rw [u2_oi e8, tr _ (by decide) (by decide), cu j e8]
                exact C2.1 j (by omega), fun r hr => by
              have a1 := (c3 r hr).1
              rw [cTk_up hi h0] at a1
              rw [u2_ne (by decide), (t1 r (by omega)).1, C2.2.1 r hr, cTk_up hi h0, ← d3 r hr, Int32.one_mul, nI_minus (by omega)]
              congr 1
              omega, fun g hg4 r hr => by
              rw [u2_ne (by decide), cTg_up hi h0]
              by_cases e8 : gr i = g
              · rw [← e8, (t1 r (by omega)).2, C2.2.2 (gr i) gi r hr, if_pos rfl, d3 r hr, Int32.one_mul, nI_plus]
              · rw [t2 _ (by omega), C2.2.2 g hg4 r hr, if_neg e8, Nat.add_zero]⟩ (O2.of fun a ha => by rw [u2_ne (by omega), tr _ (by omega) (by omega)]) (fun d hd => by
              rcases hd with hd | ⟨hd, hd2⟩
              · obtain ⟨h1, m, m1, m2, m3⟩ := hX d hd
                exact ⟨h1, m, by omega, fun j hj => by rw [cu j (by omega)]; exact m2 j hj, by rw [cu m (by omega)]; exact m3⟩
              · exact ⟨hd.1, i, by omega, fun j hj => by rw [cu j (by omega)]; exact hd.2.2.1 j hj, by rw [cUp_at]; omega⟩) (fun j hj => by
              by_cases e8 : j = i
              · rw [e8, cUp_at]
                omega
              · rw [cu j e8]
                exact hc j hj) c3 (fun j h1 h2 => by
              rw [cu j (by omega)]
              exact hz j (by omega) h2) (fun j hj hn => by
              by_cases e8 : j = i
              · rw [e8]
                exact c0
              · rw [cu j e8] at hn
                exact ho j hj hn) hS2 hx2
          generalize g_Cpick B pkM grM cd f (i + 1) (u2 (g_Ctake s2 i (cd i k) 1 (gr i)) 9002 i (nI k)) (S ||| 2 ^ i) (x + nI (A i k)) = s3 at U ⊢
          obtain ⟨u1, u2', u3⟩ := U
          obtain ⟨b1, b2⟩ := took (σ := s3) (j := i) (n := cd i k) (y := -1) (g := gr i) d1
          have br : ∀ a, a ≠ 9004 → a ≠ 9005 → g_Ctake s3 i (cd i k) (-1) (gr i) a = s3 a := fun a h1 h2 => fr_Ctake ⟨h1, h2⟩
          refine ⟨fun a ha => (br a (by omega) (by omega)).trans (u1 a ha), ⟨fun j hj => ?_, fun r hr => ?_, fun g hg4 r hr => ?_⟩, (u3.of fun a ha => br a (by omega) (by omega)).iff fun d => ⟨fun h => ?_, fun h => ?_⟩⟩
          · rw [br _ (by decide) (by decide), u2'.1 j (by omega), cu j (by omega)]
          · have a1 := (c3 r hr).1
            rw [cTk_up hi h0] at a1
            rw [(b1 r (by omega)).1, u2'.2.1 r hr, cTk_up hi h0, ← d3 r hr, Int32.neg_mul, Int32.one_mul, Int32.sub_eq_add_neg, Int32.neg_neg, nI_plus]
            congr 1
            omega
          · by_cases e8 : gr i = g
            · rw [← e8, (b1 r (by omega)).2, u2'.2.2 (gr i) gi r hr, cTg_up hi h0, if_pos rfl, ← d3 r hr, Int32.neg_mul, Int32.one_mul, ← Int32.sub_eq_add_neg, nI_minus (by omega), Nat.add_sub_cancel]
            · rw [b2 _ (by omega), u2'.2.2 g hg4 r hr, cTg_up hi h0, if_neg e8, Nat.add_zero]
          · rcases h with (h | h) | h
            · exact .inl h
            · exact .inr ⟨h.1, by omega⟩
            · obtain ⟨h1, h2, h3, h4⟩ := h
              refine .inr ⟨⟨h1, h2, fun j hj => by rw [h3 j (by omega), cu j (by omega)], h4⟩, ?_⟩
              rw [h3 i (by omega), cUp_at]
              exact Nat.le_refl _
          · rcases h with h | ⟨⟨h1, h2, h3, h4⟩, h5⟩
            · exact .inl (.inl h)
            · by_cases e8 : d i ≤ k
              · exact .inl (.inr ⟨⟨h1, h2, h3, h4⟩, e8⟩)
              · refine .inr ⟨h1, h2, fun j hj => ?_, h4⟩
                by_cases e7 : j = i
                · rw [e7, cUp_at]
                  omega
                · rw [cu j e7]
                  exact h3 j (by omega)
        · rw [if_pos (fi.mpr (fun z => c3 (ff.mpr z)))]
          refine ⟨fun s' e9 => ?_, fun s' e9 => (by cases e9)⟩
          rw [← Sum.inl.inj e9]
          refine ⟨P1, C2, O2.iff fun d => or_congr Iff.rfl ⟨fun h => ⟨h.1, by omega⟩, fun h => ⟨h.1, ?_⟩⟩⟩
          obtain ⟨⟨h1, h2, h3, h4⟩, h5⟩ := h
          rcases Nat.lt_or_ge k (d i) with l | l
          · exfalso
            refine c3 (cLe_fe (d := d) (fun j hj => ?_) h2)
            by_cases e8 : j = i
            · rw [e8, cUp_at]
              exact .inr (by omega)
            · rw [cUp_ne e8]
              by_cases e7 : j < i
              · exact .inr (h3 j e7).symm
              · exact .inl (hz j (by omega) hj)
          · exact l
      · rw [if_neg c0]
        refine ⟨fun s' e9 => (by cases e9), fun s' e9 => ?_⟩
        rw [← Sum.inr.inj e9]
        refine ⟨P1, C2, O2.iff fun d => or_congr Iff.rfl ⟨fun h => h.1, fun h => ⟨h, ?_⟩⟩⟩
        by_cases z : d i = 0
        · omega
        · exact absurd (h.2.2.2 i hi z) c0
    · obtain ⟨P1, C2, O2⟩ := hP
      rw [ep i hiB] at O2
      exact ⟨P1, C2, O2.iff fun d => or_congr Iff.rfl ⟨fun h => h.1, fun h => ⟨h, h.1 i hi⟩⟩⟩
    · refine or_congr Iff.rfl ⟨fun ⟨h1, h2, h3, h4⟩ => ⟨⟨h1, h2, fun j hj => h3 j (by omega), h4⟩, by rw [h3 i (by omega), h0]; exact Nat.le_refl _⟩, fun ⟨⟨h1, h2, h3, h4⟩, h5⟩ => ⟨h1, h2, fun j hj => ?_, h4⟩⟩
      by_cases e9 : j = i
      · rw [e9, h0]
        omega
      · exact h3 j (by omega)
end
