/-! ===== what is asked of the sale ===== -/
/-! nothing is of bidders that are not there -/
def OZ (σ : XS9) : Prop := (∀ j, aB σ ≤ j → j < 6 → σ 2002 j = 0 ∧ σ 2003 j = 0 ∧ σ 2006 j = 0) ∧ ∀ k, k < 60 → k < aK σ → ∀ j, aB σ ≤ j → j < 6 → σ (2201 + k) j = 0
section
variable {τ σ σ2 s : XS9} {x y z v : Int32} {R B K b : Nat} {gr cnt sp rg : Nat → Nat}
theorem OZ.of (h : OZ σ) (e9 : σ2 1001 9 = σ 1001 9) (eK : σ2 2000 9 = σ 2000 9) (e : ∀ q, (q = 2002 ∨ q = 2003 ∨ q = 2006 ∨ (2201 ≤ q ∧ q ≤ 2260)) → ∀ j, aB σ ≤ j → σ2 q j = σ q j) : OZ σ2 := by
  have eB : aB σ2 = aB σ := congrArg cn e9
  have eK2 : aK σ2 = aK σ := congrArg cn eK
  refine ⟨fun j h1 h2 => ?_, fun k h0 hk j h1 h2 => ?_⟩
  · rw [eB] at h1
    rw [e _ (by omega) j h1, e _ (by omega) j h1, e _ (by omega) j h1]
    exact h.1 j h1 h2
  · rw [eB] at h1
    rw [eK2] at hk
    rw [e _ (by omega) j h1]
    exact h.2 k h0 hk j h1 h2
theorem OZ.row (h : OZ σ) (v : VC σ σ2) (k : VK σ σ2) : OZ σ2 := h.of v.2.1 (k 2000 9 (by unfold kc; omega)) fun q hq j _ => k q j (by unfold kc; omega)
theorem OZ.init : OZ s0C := by
  have z : ∀ q j, 2001 ≤ q → s0C q j = 0 := fun q j hq => by
    rw [s0C_z (by omega) (by omega) (by omega) (by omega)]
    rfl
  exact ⟨fun j _ _ => ⟨z _ _ (by decide), z _ _ (by decide), z _ _ (by decide)⟩, fun k _ _ j _ _ => z _ _ (by omega)⟩
theorem OZ.begun : OZ (g_begin s 2000) := ⟨fun j _ hj => begin_ok.2.2.1 j hj, fun k _ hk => by
  have e : aK (g_begin s 2000) = 0 := (congrArg cn begin_ok.2.2.2.2.2).trans rfl
  omega⟩
theorem OZ.region (h : OZ σ) : OZ (g_region σ x y z R) := by
  unfold g_region
  (repeat' split) <;> first | exact OZ.begun | exact h
theorem OZ.bidder (h : OZ σ) : OZ (g_bidder σ x y z v B) := by
  unfold g_bidder
  (repeat' split) <;> first | exact OZ.begun | exact h
theorem OZ.u1 {i : Nat} (h : OZ σ) : OZ (u2 σ 1000 i x) := h.of (congrFun (u2_ne (by decide)) 9) (congrFun (u2_ne (by decide)) 9) (fun q hq j _ => congrFun (u2_ne (by omega)) j)
theorem OZ.opn (h : OZ σ) : OZ (g_open σ R B) := by
  unfold g_open
  (repeat' split) <;> first | exact h | exact h.u1
theorem OZ.step (h : OZ σ) : OZ (g_step σ x) := by
  unfold g_step
  (repeat' split) <;> first | exact h | exact h.u1
theorem OZ.wish (h : OZ σ) : OZ (g_wish σ x y z R (aB σ)) := by
  unfold g_wish
  by_cases hx : n_lt x (aB σ)
  · have hx2 := hx.2
    rw [if_pos hx]
    (repeat' split) <;> first | exact h | exact h.of (congrFun (u2_ne (by decide)) 9) (congrFun (u2_ne (by decide)) 9) (fun q hq j hj => u2_o (fun a b => by omega))
  · rw [if_neg hx]
    exact h
theorem OZ.waive (h : OZ σ) : OZ (g_waive σ x B) := by
  have go : ∀ i, OZ (g_useWaiver σ 2000 i) := fun i => h.of (congrFun (fr_useWaiver (by decide)) 9) (by
    unfold g_useWaiver
    rw [u2_oi (by decide), u2_ne (by decide)]) (fun q hq j _ => congrFun (fr_useWaiver (by omega)) j)
  unfold g_waive
  (repeat' split) <;> first | exact h | exact go _
theorem OZ.settle (h : OZ σ) (hR5 : R ≤ 5) : OZ (g_settle σ x R sp) := by
  have go : OZ (g_give (u2 (u2 σ 1000 9 x) 1000 7 3) R sp) := h.of (congrFun ((fr_give hR5 (by decide)).trans ((u2_ne (by decide)).trans (u2_ne (by decide)))) 9) (congrFun ((fr_give hR5 (by decide)).trans ((u2_ne (by decide)).trans (u2_ne (by decide)))) 9) (fun q hq j _ => congrFun ((fr_give hR5 (by omega)).trans ((u2_ne (by omega)).trans (u2_ne (by omega)))) j)
  unfold g_settle
  (repeat' split) <;> first | exact h | exact go
theorem undo_hi {j : Nat} (hj : B ≤ j) : g_undoContradictions s b B K (b + 6) j = s (b + 6) j := by
  unfold g_undoContradictions x_undoContradictions_2
  refine xit_inv (fun v : XS9 => v (b + 6) j = s (b + 6) j) (N := B) (fun i v hi hP => ?_) B 0 s (Nat.zero_add _) rfl
  (try dsimp only)
  split
  · exact hP
  · rw [u2_ne (by omega), u2_oi (by omega)]
    exact hP
theorem mh_hi {r j : Nat} (hj : B ≤ j) : g_moveHeld s b r B (b + 2) j = s (b + 2) j := by
  unfold g_moveHeld
  have h1 : x_moveHeld_2 s b r B s (b + 2) j = s (b + 2) j := by
    unfold x_moveHeld_2
    refine xit_inv (fun v : XS9 => v (b + 2) j = s (b + 2) j) (N := B) (fun i v hi hP => ?_) B 0 s (Nat.zero_add _) rfl
    (try dsimp only)
    split
    · exact hP
    · rw [u2_oi (by omega)]
      exact hP
  refine Eq.trans ?_ h1
  generalize x_moveHeld_2 s b r B s = v
  unfold x_moveHeld_80
  refine xitB_all (fun p : XS9 × Int32 => p.1 (b + 2) j = v (b + 2) j) (N := B) (fun i p p' hi hP => ?_) B 0 _ (Nat.zero_add _) rfl
  (try dsimp only)
  split
  · intro e
    rcases e with e | e
    · cases e
    · rw [← Sum.inr.inj e]
      exact hP
  · intro e
    rcases e with e | e
    · rw [← Sum.inl.inj e]
      (try dsimp only)
      rw [u2_oi (by omega)]
      exact hP
    · cases e
theorem crM_hi {j : Nat} (hj : B ≤ j) : crM s b x B R K (b + 2) j = s (b + 2) j ∧ crM s b x B R K (b + 6) j = s (b + 6) j := by
  unfold crM x_closeRound_92
  have e6 : crU s b x B K (b + 6) j = s (b + 6) j := by
    unfold crU
    split
    · rw [crL_row (by omega)]
    · rw [undo_hi hj, crL_row (by omega)]
  have e2 : crU s b x B K (b + 2) j = s (b + 2) j := by
    unfold crU
    split
    · rw [crL_row (by omega)]
    · rw [fr_undoContradictions (by omega), crL_row (by omega)]
  refine ⟨?_, ?_⟩
  · refine Eq.trans (xit_inv (fun v : XS9 => v (b + 2) j = g_lowerEligible (crU s b x B K) b B (b + 2) j) (N := R) (fun i v hi hP => ?_) R 0 _ (Nat.zero_add _) rfl) ?_
    · (try dsimp only)
      rw [mh_hi hj]
      exact hP
    · rw [fr_lowerEligible (by omega)]
      exact e2
  · rw [xit_keep (fun s : XS9 => s (b + 6)) (fun i s => by
      show g_moveHeld s b i B (b + 6) = s (b + 6)
      exact fr_moveHeld (by omega)) R 0 _, fr_lowerEligible (by omega)]
    exact e6
theorem OZ.closeRound (h : OZ s) (hK : s 2000 9 = nI (aK s) ∧ aK s ≤ 60) : OZ (g_closeRound s 2000 x (aB s) R (aK s)) := by
  rcases Nat.lt_or_ge (aK s) 60 with l | l
  · have c : nI (aK s) < 60 := (nI_ltI (a := aK s) (b := 60) (by omega) (by omega)).mpr l
    have e9 : aB (g_closeRound s 2000 x (aB s) R (aK s)) = aB s := congrArg cn (congrFun (fr_closeRound (by omega)) 9)
    have eK : aK (g_closeRound s 2000 x (aB s) R (aK s)) = aK s + 1 := by
      show cn (g_closeRound s 2000 x (aB s) R (aK s) 2000 9) = _
      rw [closeRound_eq c]
      refine (congrArg cn (crF_c (b := 2000))).trans (cn_nI (by omega))
    refine ⟨fun j h1 h2 => ?_, fun k h0 hk j h1 h2 => ?_⟩
    · rw [e9] at h1
      obtain ⟨z2, z3, z6⟩ := h.1 j h1 h2
      obtain ⟨m2, m6⟩ := crM_hi (s := s) (b := 2000) (x := x) (R := R) (K := aK s) h1
      rw [closeRound_eq c]
      refine ⟨?_, ?_, ?_⟩
      · rw [show crF (crM s 2000 x (aB s) R (aK s)) 2000 x R (aK s) 2002 = crM s 2000 x (aB s) R (aK s) 2002 from crF_row (b := 2000) (by omega)]
        exact m2.trans z2
      · refine (crF_w (b := 2000) h2).trans ?_
        exact m2.trans z2
      · rw [show crF (crM s 2000 x (aB s) R (aK s)) 2000 x R (aK s) 2006 = crM s 2000 x (aB s) R (aK s) 2006 from crF_row (b := 2000) (by omega)]
        exact m6.trans z6
    · rw [e9] at h1
      rw [eK] at hk
      by_cases ek : k = aK s
      · rw [ek]
        exact (cR_w (b := 2000) c l h2).trans (h.1 j h1 h2).2.1
      · rw [closeRound_eq c, crF_row (by omega), crM_row (by omega), crL_row (by omega)]
        exact h.2 k h0 (by omega) j h1 h2
  · have c : ¬ nI (aK s) < 60 := fun q => absurd ((nI_ltI (a := aK s) (b := 60) (by omega) (by omega)).mp q) (by omega)
    unfold g_closeRound
    rw [if_neg c]
    exact h
theorem OZ.endClock (h : OZ s) (hJ : JC s) (hB6 : B ≤ 6) (hg : ∀ i, i < 6 → gr i < 4) : OZ (g_endClock s R B K gr) := by
  have hx : XCT (u2 s 1000 7 2) := fun i hi => by
    rw [u2_ne (by omega)]
    exact hJ.hct i hi
  have H := endClock_loop (σ := s) (R := R) (K := K) hB6 hg (s0 := u2 s 1000 7 2) hx
  have e : ∀ q, q = 1001 ∨ (2000 ≤ q ∧ q ≤ 2999) → g_endClock s R B K gr q = s q := fun q hq => by
    unfold g_endClock
    rw [fr_find (by omega), H.2 q (by omega), u2_ne (by omega)]
  exact h.of (congrFun (e 1001 (by decide)) 9) (congrFun (e 2000 (by decide)) 9) (fun q hq j _ => congrFun (e q (by omega)) j)
theorem OZ.close (h : OZ σ) (hJ : JC σ) (hK : KB σ) (hR5 : R ≤ 5) (hg : ∀ i, i < 6 → gr i < 4) : OZ (g_close σ x R (aB σ) gr) := by
  have hB6 := hJ.hB.2
  unfold g_close
  split
  · split
    · have go : (JC (x_close_14 σ x R (aB σ) gr σ) ∧ KB (x_close_14 σ x R (aB σ) gr σ)) ∧ aB (x_close_14 σ x R (aB σ) gr σ) = aB σ ∧ OZ (x_close_14 σ x R (aB σ) gr σ) := by
        unfold x_close_14
        refine xitB_all (fun s => (JC s ∧ KB s) ∧ aB s = aB σ ∧ OZ s) (N := cn x) (fun i s s' hi hP => ?_) (cn x) 0 _ (Nat.zero_add _) ⟨⟨hJ, hK⟩, rfl, h⟩
        have h60 := hP.1.1.hK.2
        have C1 : JC (g_closeRound s 2000 (s 1000 8) (aB σ) R (cn (s 2000 9))) ∧ KB (g_closeRound s 2000 (s 1000 8) (aB σ) R (cn (s 2000 9))) := ⟨hP.1.1.closeRound, hP.1.2.closeRound hP.1.2.2.2.2.2.2 hR5 hB6 h60⟩
        have C2 : aB (g_closeRound s 2000 (s 1000 8) (aB σ) R (cn (s 2000 9))) = aB σ := (congrArg cn (congrFun (fr_closeRound (by omega)) 9)).trans hP.2.1
        have C3 : OZ (g_closeRound s 2000 (s 1000 8) (aB σ) R (cn (s 2000 9))) := by
          have := hP.2.2.closeRound (x := s 1000 8) (R := R) hP.1.1.hK
          rw [hP.2.1] at this
          exact this
        (try dsimp only)
        split
        · split
          · intro e
            rcases e with e | e
            · rw [← Sum.inl.inj e]
              exact ⟨C1, C2, C3⟩
            · cases e
          · intro e
            rcases e with e | e
            · rw [← Sum.inl.inj e]
              exact ⟨JK.endClock C1.1 C1.2 hB6 (by omega) hg, ((congrArg cn (congrFun (VC.endClock C1.1 hB6 hg).1 9)).trans C2), C3.endClock C1.1 hB6 hg⟩
            · cases e
        · intro e
          rcases e with e | e
          · cases e
          · rw [← Sum.inr.inj e]
            exact hP
      exact go.2.2
    · exact h
  · exact h
end
/-! loops that look for one thing -/
theorem xitU_l {step : Nat → Unit → Unit ⊕ Int32} : ∀ (n k : Nat), (∀ q, k ≤ q → q < k + n → step q () = .inl ()) → xitR step n k () = .inl ()
  | 0, _, _ => rfl
  | n + 1, k, h => by
    unfold xitR
    rw [h k (Nat.le_refl _) (by omega)]
    exact xitU_l n (k + 1) fun q h1 h2 => h q (by omega) (by omega)
theorem xitU_r {step : Nat → Unit → Unit ⊕ Int32} {r : Int32} : ∀ (n k : Nat), (∀ q, k ≤ q → q < k + n → step q () = .inl () ∨ step q () = .inr r) → (∃ q, k ≤ q ∧ q < k + n ∧ step q () = .inr r) → xitR step n k () = .inr r
  | 0, _, _, e => by
    obtain ⟨q, h1, h2, _⟩ := e
    omega
  | n + 1, k, h, e => by
    unfold xitR
    rcases h k (Nat.le_refl _) (by omega) with z | z
    · rw [z]
      refine xitU_r n (k + 1) (fun q h1 h2 => h q (by omega) (by omega)) ?_
      obtain ⟨q, h1, h2, h3⟩ := e
      by_cases c : q = k
      · rw [c, z] at h3
        cases h3
      · exact ⟨q, by omega, by omega, h3⟩
    · rw [z]
theorem xitBR_l {step : Nat → Unit → Unit ⊕ (Unit ⊕ Int32)} : ∀ (n k : Nat), (∀ q, k ≤ q → q < k + n → step q () = .inl ()) → xitBR step n k () = .inl ()
  | 0, _, _ => rfl
  | n + 1, k, h => by
    unfold xitBR
    rw [h k (Nat.le_refl _) (by omega)]
    exact xitBR_l n (k + 1) fun q h1 h2 => h q (by omega) (by omega)
theorem xitBR_b {step : Nat → Unit → Unit ⊕ (Unit ⊕ Int32)} : ∀ (n k : Nat), step k () = .inr (.inl ()) → xitBR step n k () = .inl ()
  | 0, _, _ => rfl
  | n + 1, k, h => by
    unfold xitBR
    rw [h]
theorem xitBR_r {step : Nat → Unit → Unit ⊕ (Unit ⊕ Int32)} {r : Int32} : ∀ (n k : Nat), (∀ q, k ≤ q → q < k + n → step q () = .inl () ∨ step q () = .inr (.inr r)) → (∃ q, k ≤ q ∧ q < k + n ∧ step q () = .inr (.inr r)) → xitBR step n k () = .inr r
  | 0, _, _, e => by
    obtain ⟨q, h1, h2, _⟩ := e
    omega
  | n + 1, k, h, e => by
    unfold xitBR
    rcases h k (Nat.le_refl _) (by omega) with z | z
    · rw [z]
      refine xitBR_r n (k + 1) (fun q h1 h2 => h q (by omega) (by omega)) ?_
      obtain ⟨q, h1, h2, h3⟩ := e
      by_cases c : q = k
      · rw [c, z] at h3
        cases h3
      · exact ⟨q, by omega, by omega, h3⟩
    · rw [z]
theorem xit_add {step : Nat → Int32 → Int32} {d : Nat → Int32} (h : ∀ i s, step i s = s + d i) : ∀ (f i : Nat) (s : Int32), xit step f i s = s + xit step f i 0
  | 0, _, s => (Int32.add_zero s).symm
  | f + 1, i, s => by
    show xit step f (i + 1) (step i s) = s + xit step f (i + 1) (step i 0)
    rw [xit_add h f (i + 1) (step i s), xit_add h f (i + 1) (step i 0), h i s, h i 0, Int32.zero_add, Int32.add_assoc]
theorem xitB_lall {S : Type} {step : Nat → S → S ⊕ S} {g : Nat → S → S} (h : ∀ i s, step i s = .inl (g i s)) : ∀ (f i : Nat) (s : S), xitB step f i s = xit g f i s
  | 0, _, _ => rfl
  | f + 1, i, s => by
    rw [xitB_l (h i s)]
    exact xitB_lall h f (i + 1) (g i s)
/-! signals -/
section
variable {τ σ t : XS9} {x y : Int32} {R B i n d : Nat} {cnt pk : Nat → Nat}
theorem le0_d {k : Nat} (hk : k ≤ 5) : nI k ≤ 0 ↔ k = 0 := nI_le0 (by omega)
theorem asks_eq {j : Nat} (hd : d < 5) (hc : ∀ k, k < cnt j → bd 7775 (σ (1022 + j) k)) : f_asksFor σ j d cnt = 0 ↔ ∀ k, k < cnt j → dgt (σ (1022 + j) k) d = 0 := by
  unfold f_asksFor
  by_cases c : ∀ k, k < cnt j → dgt (σ (1022 + j) k) d = 0
  · have e : x_asksFor_2 σ j d cnt () = .inl () := by
      unfold x_asksFor_2
      refine xitU_l _ _ fun k h1 h2 => ?_
      (try dsimp only)
      rw [many_d (hc k (by omega)) hd, if_pos ((le0_d dgt_le).mpr (c k (by omega)))]
    rw [e]
    exact ⟨fun _ => c, fun _ => rfl⟩
  · have e : x_asksFor_2 σ j d cnt () = .inr 1 := by
      unfold x_asksFor_2
      have st : ∀ k, k < cnt j → ¬ dgt (σ (1022 + j) k) d = 0 → (if (f_many (σ (1022 + j) k) d) ≤ 0 then (.inl () : Unit ⊕ Int32) else .inr 1) = .inr 1 := fun k hk hn => by
        rw [many_d (hc k hk) hd, if_neg (fun z => hn ((le0_d dgt_le).mp z))]
      refine xitU_r _ _ (fun k h1 h2 => ?_) ?_
      · (try dsimp only)
        split
        · exact .inl rfl
        · exact .inr rfl
      · obtain ⟨k, hk⟩ := Classical.not_forall.mp c
        obtain ⟨h1, h2⟩ := Classical.not_imp.mp hk
        exact ⟨k, Nat.zero_le _, by omega, st k h1 h2⟩
    rw [e]
    exact ⟨fun w => absurd (show (1 : Int32) = 0 from w) (by decide), fun w => absurd w c⟩
theorem ally_eq {j : Nat} (hi : i < 6) (hj : j < 6) : f_areAllies σ i j = 0 ↔ (i = j ∨ σ 1017 i = 0 ∨ ¬ σ 1017 i = σ 1017 j) := by
  unfold f_areAllies
  by_cases c1 : i = j
  · rw [if_pos (congrArg nI c1)]
    exact ⟨fun _ => .inl c1, fun _ => rfl⟩
  · rw [if_neg (fun z => c1 (by
      have := congrArg cn z
      rw [cn_nI (by omega), cn_nI (by omega)] at this
      exact this))]
    by_cases c2 : σ 1017 i = 0
    · rw [if_pos c2]
      exact ⟨fun _ => .inr (.inl c2), fun _ => rfl⟩
    · rw [if_neg c2]
      by_cases c3 : σ 1017 i = σ 1017 j
      · rw [if_pos c3]
        exact ⟨fun w => absurd w (by decide), fun w => w.elim (fun z => absurd z c1) (fun w => w.elim (fun z => absurd z c2) (fun z => absurd c3 z))⟩
      · rw [if_neg c3]
        exact ⟨fun _ => .inr (.inr c3), fun _ => rfl⟩
/-- another one of the group asks for the region -/
def riv (τ : XS9) (i d : Nat) : Prop := ∃ j, j < mB τ ∧ ¬ i = j ∧ τ (5020 + j) 3 = τ (5020 + i) 3 ∧ ∃ k, k < mpk τ j ∧ ¬ dgt (τ (5030 + j) (2 * k)) d = 0
theorem sig_eq (h : RM τ σ) (r : JR τ) (p : JP τ) (a : RA τ σ) (hcn : ∀ j, j < 6 → cnt j = pkB τ j) (e : ∀ q, 5001 ≤ q → q < 6000 → t q = τ q) (hi : i < mB τ) (hn : n < mpk τ i) : f_isSignal σ i n (mR τ) (mB τ) cnt = f_MisSignal t i n (mR τ) (mB τ) (mpk τ) := by
  have R5 := r.hR.2
  have B6 := r.hB.2
  have hc : ∀ j, j < mB τ → cnt j = mpk τ j := fun j hj => by
    rw [hcn j (by omega)]
    exact if_pos hj
  have k6 := (r.hpk i hi).2
  have am := AMs.ofP p i n (by omega) (by omega)
  have am2 := am.2
  have g7 : ∀ j, j < mB τ → σ 1017 j = τ (5020 + j) 3 := fun j hj => (a.2.2.1 j (by omega)).2.2.2
  have cd : ∀ j, j < mB τ → ∀ k, k < mpk τ j → σ (1022 + j) k = τ (5030 + j) (2 * k) ∧ bd 7775 (τ (5030 + j) (2 * k)) := fun j hj k hk => ⟨h.k.cd hj hk, Dm_bd r hj hk⟩
  obtain ⟨A, eA⟩ : ∃ A, A = cn (τ (5030 + i) (2 * n + 1)) := ⟨_, rfl⟩
  obtain ⟨d, ed⟩ : ∃ d, d = A % 10 := ⟨_, rfl⟩
  have d10 : d < 10 := by omega
  have e10 : τ (5030 + i) (2 * n + 1) - τ (5030 + i) (2 * n + 1) / 10 * 10 = nI d := by
    rw [am.1, ← eA, ed]
    exact nI_rem (m := A) (k := 10) (by omega) (by decide) (by decide)
  have cy := cd i hi n hn
  have lR : nI (mR τ) ≤ nI d ↔ mR τ ≤ d := nle (by omega) (by omega)
  have cd' : cn (nI d) = d := cn_nI (by omega)
  have nl : n_lt (nI d) (mR τ) ↔ d < mR τ := ⟨fun z => by have := z.2; rw [cd'] at this; exact this, fun z => ⟨by rw [cd'], by rw [cd']; exact z⟩⟩
  have ec : ∀ c, cn (σ (1031 + i) n - σ (1031 + i) n / 10 * 10) = c ↔ d = c := fun c => by rw [h.k.a hi hn, e10, cd']
  have em : ∀ c, cn (f_Bamount t i n - f_Bamount t i n / 10 * 10) = c ↔ d = c := fun c => by
    unfold f_Bamount
    rw [e _ (by omega) (by omega), e10, cd']
  have ecd : cn (σ (1031 + i) n - σ (1031 + i) n / 10 * 10) = d := (ec d).mpr rfl
  have emd : cn (f_Bamount t i n - f_Bamount t i n / 10 * 10) = d := (em d).mpr rfl
  -- the program's search
  have C0 : d < 5 → (τ (5020 + i) 3 = 0 ∨ ¬ riv τ i d) → x_isSignal_43 σ i n (mR τ) (mB τ) cnt () = .inl () := fun hd hh => by
    unfold x_isSignal_43
    refine xitU_l _ _ fun j h1 h2 => ?_
    (try dsimp only)
    rw [ecd]
    by_cases c : f_areAllies σ i j = 0
    · rw [if_pos c]
    · rw [if_neg c]
      have nc := fun z => c ((ally_eq (σ := σ) (i := i) (j := j) (by omega) (by omega)).mpr z)
      rw [if_pos ((asks_eq (σ := σ) (j := j) hd (fun k hk => by
        rw [hc j (by omega)] at hk
        rw [(cd j (by omega) k hk).1]
        exact (cd j (by omega) k hk).2)).mpr fun k hk => ?_)]
      rw [hc j (by omega)] at hk
      rw [(cd j (by omega) k hk).1]
      refine Classical.byContradiction fun hne => ?_
      rw [g7 i hi, g7 j (by omega)] at nc
      rcases hh with hh | hh
      · exact nc (.inr (.inl hh))
      · exact hh ⟨j, by omega, fun z => nc (.inl z), Classical.byContradiction fun z => nc (.inr (.inr fun z2 => z z2.symm)), k, hk, hne⟩
  have C1 : d < 5 → ¬ τ (5020 + i) 3 = 0 → riv τ i d → x_isSignal_43 σ i n (mR τ) (mB τ) cnt () = .inr 1 := fun hd h0 hh => by
    obtain ⟨j, j1, j2, j3, k, k1, k2⟩ := hh
    unfold x_isSignal_43
    refine xitU_r _ _ (fun q h1 h2 => ?_) ⟨j, Nat.zero_le _, by omega, ?_⟩
    · (try dsimp only)
      split
      · exact .inl rfl
      · split
        · exact .inl rfl
        · exact .inr rfl
    · have g1 : ¬ f_areAllies σ i j = 0 := fun z => by
        have := (ally_eq (σ := σ) (i := i) (j := j) (by omega) (by omega)).mp z
        rw [g7 i hi, g7 j j1] at this
        exact this.elim j2 fun w => w.elim h0 fun w => w j3.symm
      have g2 : ¬ f_asksFor σ j d cnt = 0 := fun z => by
        have := (asks_eq (σ := σ) (j := j) hd (fun k hk => by
          rw [hc j j1] at hk
          rw [(cd j j1 k hk).1]
          exact (cd j j1 k hk).2)).mp z k (by rw [hc j j1]; exact k1)
        rw [(cd j j1 k k1).1] at this
        exact k2 this
      (try dsimp only)
      rw [ecd, if_neg g1, if_neg g2]
  -- the reference's
  have bc : ∀ j, j < mB τ → ∀ k, f_Bcode t j k = τ (5030 + j) (2 * k) := fun j hj k => by
    unfold f_Bcode
    rw [e _ (by omega) (by omega)]
  have t3 : ∀ j, j < mB τ → t (5020 + j) 3 = τ (5020 + j) 3 := fun j hj => by rw [e _ (by omega) (by omega)]
  have I0 : d < 5 → ∀ j, j < mB τ → (i = j ∨ ¬ τ (5020 + j) 3 = τ (5020 + i) 3 ∨ ∀ k, k < mpk τ j → dgt (τ (5030 + j) (2 * k)) d = 0) → x_MisSignal_85 t i n (mR τ) (mB τ) (mpk τ) j () = .inl () := fun hd j hj hh => by
    unfold x_MisSignal_85
    by_cases c1 : i = j
    · refine xitBR_b _ _ ?_
      (try dsimp only)
      rw [if_pos (congrArg nI c1.symm)]
    · have c1' : ¬ nI j = nI i := fun z => c1 (by
        have := congrArg cn z
        rw [cn_nI (by omega), cn_nI (by omega)] at this
        exact this.symm)
      by_cases c2 : τ (5020 + j) 3 = τ (5020 + i) 3
      · have h3 := (hh.resolve_left c1).resolve_left (fun z => z c2)
        refine xitBR_l _ _ fun k h1 h2 => ?_
        (try dsimp only)
        rw [if_neg c1', if_pos (by rw [t3 j hj, t3 i hi]; exact c2), emd, bc j hj, of_d (cd j hj k (by omega)).2 hd, if_pos ((le0_d dgt_le).mpr (h3 k (by omega)))]
      · refine xitBR_b _ _ ?_
        (try dsimp only)
        rw [if_neg c1', if_neg (by rw [t3 j hj, t3 i hi]; exact c2)]
  have I1 : d < 5 → ∀ j, j < mB τ → ¬ i = j → τ (5020 + j) 3 = τ (5020 + i) 3 → (∃ k, k < mpk τ j ∧ ¬ dgt (τ (5030 + j) (2 * k)) d = 0) → x_MisSignal_85 t i n (mR τ) (mB τ) (mpk τ) j () = .inr 1 := fun hd j hj c1 c2 hh => by
    have c1' : ¬ nI j = nI i := fun z => c1 (by
      have := congrArg cn z
      rw [cn_nI (by omega), cn_nI (by omega)] at this
      exact this.symm)
    obtain ⟨k, k1, k2⟩ := hh
    unfold x_MisSignal_85
    refine xitBR_r _ _ (fun q h1 h2 => ?_) ⟨k, Nat.zero_le _, by omega, ?_⟩
    · (try dsimp only)
      rw [if_neg c1', if_pos (by rw [t3 j hj, t3 i hi]; exact c2)]
      split
      · exact .inl rfl
      · exact .inr rfl
    · (try dsimp only)
      rw [if_neg c1', if_pos (by rw [t3 j hj, t3 i hi]; exact c2), emd, bc j hj, of_d (cd j hj k k1).2 hd, if_neg (fun z => k2 ((le0_d dgt_le).mp z))]
  have M0 : d < 5 → ¬ riv τ i d → x_MisSignal_56 t i n (mR τ) (mB τ) (mpk τ) () = .inl () := fun hd hh => by
    unfold x_MisSignal_56
    refine xitU_l _ _ fun j h1 h2 => ?_
    (try dsimp only)
    rw [I0 hd j (by omega) ?_]
    by_cases c1 : i = j
    · exact .inl c1
    · by_cases c2 : τ (5020 + j) 3 = τ (5020 + i) 3
      · exact .inr (.inr fun k hk => Classical.byContradiction fun z => hh ⟨j, by omega, c1, c2, k, hk, z⟩)
      · exact .inr (.inl c2)
  have M1 : d < 5 → riv τ i d → x_MisSignal_56 t i n (mR τ) (mB τ) (mpk τ) () = .inr 1 := fun hd hh => by
    obtain ⟨j, j1, j2, j3, j4⟩ := hh
    unfold x_MisSignal_56
    refine xitU_r _ _ (fun q h1 h2 => ?_) ⟨j, Nat.zero_le _, by omega, ?_⟩
    · (try dsimp only)
      by_cases c : i = q ∨ ¬ τ (5020 + q) 3 = τ (5020 + i) 3 ∨ ∀ k, k < mpk τ q → dgt (τ (5030 + q) (2 * k)) d = 0
      · rw [I0 hd q (by omega) c]
        exact .inl rfl
      · rw [I1 hd q (by omega) (fun z => c (.inl z)) (Classical.byContradiction fun z => c (.inr (.inl z))) (Classical.byContradiction fun z => c (.inr (.inr fun k hk => Classical.byContradiction fun z2 => z ⟨k, hk, z2⟩)))]
        exact .inr rfl
    · (try dsimp only)
      rw [I1 hd j j1 j2 j3 j4]
  have eb : f_Bamount t i n - f_Bamount t i n / 10 * 10 = nI d := by
    unfold f_Bamount
    rw [e _ (by omega) (by omega)]
    exact e10
  have ea : σ (1031 + i) n - σ (1031 + i) n / 10 * 10 = nI d := by
    rw [h.k.a hi hn]
    exact e10
  unfold f_isSignal f_MisSignal
  rw [eb, ea, bc i hi n, t3 i hi, cy.1]
  by_cases c1 : d < mR τ
  · have d5 : d < 5 := by omega
    rw [if_neg (fun z => absurd (lR.mp z) (by omega)), if_pos (nl.mpr c1), cd', many_d cy.2 d5, of_d cy.2 d5]
    have g5 : dgt (τ (5030 + i) (2 * n)) d ≤ 5 := dgt_le
    by_cases c2 : dgt (τ (5030 + i) (2 * n)) d = 0
    · rw [c2, if_pos (show nI 0 = (0 : Int32) from rfl), if_neg (show ¬ (0 : Int32) < nI 0 by decide)]
      by_cases c3 : τ (5020 + i) 3 = 0
      · rw [if_pos c3, C0 d5 (.inl c3)]
      · rw [if_neg c3]
        by_cases c4 : riv τ i d
        · rw [C1 d5 c3 c4, M1 d5 c4]
        · rw [C0 d5 (.inr c4), M0 d5 c4]
    · rw [if_neg (fun z => c2 ((le0_d g5).mp (by rw [z]; exact Int32.le_refl _))), if_pos (Int32.not_le.mp fun z => c2 ((le0_d g5).mp z))]
  · rw [if_pos (lR.mpr (by omega)), if_neg (fun z => c1 (nl.mp z))]
theorem sigs_eq (h : RM τ σ) (r : JR τ) (p : JP τ) (a : RA τ σ) (hcn : ∀ j, j < 6 → cnt j = pkB τ j) (e : ∀ q, 5001 ≤ q → q < 6000 → t q = τ q) : f_signals σ (mR τ) (mB τ) cnt = f_Msignals t (mR τ) (mB τ) (mpk τ) := by
  have B6 := r.hB.2
  unfold f_signals f_Msignals x_signals_4 x_Msignals_4
  refine xit_cg (N := mB τ) (fun i s hi => ?_) (mB τ) 0 0 (Nat.zero_add _)
  (try dsimp only)
  have hc : cnt i = mpk τ i := by
    rw [hcn i (by omega)]
    exact if_pos hi
  unfold x_signals_15 x_Msignals_17
  rw [hc]
  refine xit_cg (N := mpk τ i - 1) (fun k s hk => ?_) (mpk τ i - 1) 0 s (Nat.zero_add _)
  (try dsimp only)
  rw [sig_eq h r p a hcn e hi (show 1 + k < mpk τ i by omega), Int32.add_zero]
end
