/-! ===== is it sound: both sides ask the same ===== -/
def yn (P : Prop) (v : Int32) : Prop := (P → v = 1) ∧ (¬ P → v = 0)
theorem yn.iff {P Q : Prop} {v : Int32} (h : yn P v) (e : P ↔ Q) : yn Q v := ⟨fun q => h.1 (e.mpr q), fun q => h.2 fun p => q (e.mp p)⟩
theorem yn.eq {P Q : Prop} {v w : Int32} (h : yn P v) (k : yn Q w) (e : P ↔ Q) : v = w := by
  by_cases p : P
  · rw [h.1 p, k.1 (e.mp p)]
  · rw [h.2 p, k.2 fun q => p (e.mpr q)]
theorem yn.if3 {P Q S : Prop} {u v w : Int32} (h : yn P u) (k : yn Q v) (m : yn S w) : yn (P ∧ Q ∧ S) (if u = 0 then 0 else if v = 0 then 0 else if w = 0 then 0 else 1) := by
  have d : ¬ (1 : Int32) = 0 := by decide
  by_cases p : P
  · rw [h.1 p, if_neg d]
    by_cases q : Q
    · rw [k.1 q, if_neg d]
      by_cases s : S
      · rw [m.1 s, if_neg d]
        exact ⟨fun _ => rfl, fun n => absurd ⟨p, q, s⟩ n⟩
      · rw [m.2 s, if_pos rfl]
        exact ⟨fun n => absurd n.2.2 s, fun _ => rfl⟩
    · rw [k.2 q, if_pos rfl]
      exact ⟨fun n => absurd n.2.1 q, fun _ => rfl⟩
  · rw [h.2 p, if_pos rfl]
    exact ⟨fun n => absurd n.1 p, fun _ => rfl⟩
theorem xitU_c {step : Nat → Unit → Unit ⊕ Int32} {c : Nat → Prop} (n : Nat) (h1 : ∀ q, q < n → c q → step q () = .inl ()) (h0 : ∀ q, q < n → ¬ c q → step q () = .inr 0) : ((∀ q, q < n → c q) → xitR step n 0 () = .inl ()) ∧ (¬ (∀ q, q < n → c q) → xitR step n 0 () = .inr 0) := by
  refine ⟨fun h => xitU_l n 0 fun q _ h2 => h1 q (by omega) (h q (by omega)), fun h => xitU_r n 0 (fun q _ h2 => ?_) ?_⟩
  · by_cases cq : c q
    · exact .inl (h1 q (by omega) cq)
    · exact .inr (h0 q (by omega) cq)
  · obtain ⟨q, hq⟩ := Classical.not_forall.mp h
    obtain ⟨h3, h4⟩ := Classical.not_imp.mp hq
    exact ⟨q, Nat.zero_le _, by omega, h0 q h3 h4⟩
/-- what comes behind a loop that ended well -/
def aft (a : Unit ⊕ Int32) (k : Int32) : Int32 := match a with
  | .inl _ => k
  | .inr r => r
/-- what comes behind a loop that ended well, for loops that go on -/
def aftU (a : Unit ⊕ Int32) (k : Unit ⊕ Int32) : Unit ⊕ Int32 := match a with
  | .inl _ => k
  | .inr r => .inr r
/-- a loop that ends well or with 0, in a match -/
theorem mat2 {P Q : Prop} {a b : Unit ⊕ Int32} (ha : (P → a = .inl ()) ∧ (¬ P → a = .inr 0)) (hb : (Q → b = .inl ()) ∧ (¬ Q → b = .inr 0)) : yn (P ∧ Q) (aft a (aft b 1)) := by
  by_cases p : P
  · rw [ha.1 p, show ∀ k, aft (.inl ()) k = k from fun _ => rfl]
    by_cases q : Q
    · rw [hb.1 q]
      exact ⟨fun _ => rfl, fun n => absurd ⟨p, q⟩ n⟩
    · rw [hb.2 q]
      exact ⟨fun n => absurd n.2 q, fun _ => rfl⟩
  · rw [ha.2 p]
    exact ⟨fun n => absurd n.1 p, fun _ => rfl⟩
section
variable {τ σ s t : XS9} {R B C K w g : Nat} {pk tn sp : Nat → Nat}
/-! the program's side -/
theorem rep_yn : yn ((∀ r, r < R → s (3000 + 1) r = s (2000 + 1) r) ∧ ∀ j, j < B → s (3000 + 2) j = s (2000 + 2) j) (f_isReplaySame s R B) := by
  have a := xitU_c (step := fun i2 (s2 : Unit) => (if (s (3000 + 1) i2) = (s (2000 + 1) i2) then (.inl () : Unit ⊕ Int32) else .inr 0)) (c := fun r => s (3000 + 1) r = s (2000 + 1) r) R (fun q _ hc => if_pos hc) (fun q _ hc => if_neg hc)
  have b := xitU_c (step := fun i2 (s2 : Unit) => (if (s (3000 + 2) i2) = (s (2000 + 2) i2) then (.inl () : Unit ⊕ Int32) else .inr 0)) (c := fun r => s (3000 + 2) r = s (2000 + 2) r) B (fun q _ hc => if_pos hc) (fun q _ hc => if_neg hc)
  exact mat2 a b
theorem clk_yn : yn ((∀ r, r < R → s 1012 r ≤ s (2000 + 1) r) ∧ ∀ j, j < B → (¬ s (2000 + 4) j < 0 ∧ ¬ f_isWithin (s (2000 + 2) j) 5 (s 1010) = 0)) (f_isClockSound s R B) := by
  have a := xitU_c (step := fun i2 (s2 : Unit) => (if (s 1012 i2) ≤ (s (2000 + 1) i2) then (.inl () : Unit ⊕ Int32) else .inr 0)) (c := fun r => s 1012 r ≤ s (2000 + 1) r) R (fun q _ hc => if_pos hc) (fun q _ hc => if_neg hc)
  have b := xitU_c (step := fun i44 (s44 : Unit) => (if (s (2000 + 4) i44) < 0 then (.inr 0 : Unit ⊕ Int32) else (if (f_isWithin (s (2000 + 2) i44) 5 (s 1010)) = 0 then .inr 0 else .inl ()))) (c := fun j => ¬ s (2000 + 4) j < 0 ∧ ¬ f_isWithin (s (2000 + 2) j) 5 (s 1010) = 0) B (fun q _ hc => (if_neg hc.1).trans (if_neg hc.2)) (fun q _ hc => by
    (try dsimp only)
    by_cases c1 : s (2000 + 4) q < 0
    · rw [if_pos c1]
    · rw [if_neg c1, if_pos (Classical.byContradiction fun n => hc ⟨c1, n⟩)])
  exact mat2 a b
theorem agr_0 : ∀ r, x_agreeWith_2 s R B () = .inr r → r = 0 := fun r e => by
  refine xitR_res (fun r => r = 0) (fun k u r e => ?_) R 0 () r e
  revert e
  (try dsimp only)
  have inner : ∀ r, x_agreeWith_16 s R B k 0 = .inr r → r = 0 := fun r e => by
    refine xitR_res (fun r => r = 0) (fun k2 u r e => ?_) B 0 0 r e
    revert e
    (try dsimp only)
    split
    · intro e
      cases e
    · exact fun e => (Sum.inr.inj e).symm
  generalize x_agreeWith_16 s R B k 0 = a at inner ⊢
  cases a with
  | inl v =>
    (try dsimp only)
    split
    · intro e
      cases e
    · exact fun e => (Sum.inr.inj e).symm
  | inr v => exact fun e => (inner v rfl) ▸ (Sum.inr.inj e).symm
theorem set_yn : yn (s 1000 7 = 3 → (∀ j, j < B → f_paymentOf s j w ≤ f_amountWon s j) ∧ x_agreeWith_2 s R B () = .inl ()) (f_isSettlementSound s R B w) := by
  unfold f_isSettlementSound
  by_cases c : s 1000 7 = 3
  · rw [if_pos c]
    have a := xitU_c (step := fun i12 (s12 : Unit) => (if (f_paymentOf s i12 w) ≤ (f_amountWon s i12) then (.inl () : Unit ⊕ Int32) else .inr 0)) (c := fun j => f_paymentOf s j w ≤ f_amountWon s j) B (fun q _ hc => if_pos hc) (fun q _ hc => if_neg hc)
    have b : (x_agreeWith_2 s R B () = .inl () → x_agreeWith_2 s R B () = .inl ()) ∧ (¬ x_agreeWith_2 s R B () = .inl () → x_agreeWith_2 s R B () = .inr 0) := ⟨id, fun n => by
      cases e : x_agreeWith_2 s R B () with
      | inl v => exact absurd e n
      | inr v => rw [agr_0 v e]⟩
    have m := mat2 a b
    exact ⟨fun h => m.1 (h c), fun h => m.2 fun z => h fun _ => z⟩
  · rw [if_neg c]
    exact ⟨fun _ => rfl, fun h => absurd (fun z => absurd z c) h⟩
/-! the reference's side -/
theorem nam_0 : ∀ r, x_MareNamed_2 t R B sp tn pk () = .inr r → r = 0 := fun r e => by
  refine xitR_res (fun r => r = 0) (fun k u r e => ?_) R 0 () r e
  revert e
  (try dsimp only)
  have inner : ∀ r, x_MareNamed_73 t B sp tn pk k 0 = .inr r → r = 0 := fun r e => by
    refine xitR_res (fun r => r = 0) (fun k2 u r e => ?_) B 0 0 r e
    revert e
    (try dsimp only)
    split
    · split
      · intro e
        cases e
      · exact fun e => (Sum.inr.inj e).symm
    · split
      · intro e
        cases e
      · exact fun e => (Sum.inr.inj e).symm
  generalize x_MareNamed_73 t B sp tn pk k 0 = a at inner ⊢
  cases a with
  | inl v =>
    (try dsimp only)
    split
    · intro e
      cases e
    · exact fun e => (Sum.inr.inj e).symm
  | inr v => exact fun e => (inner v rfl) ▸ (Sum.inr.inj e).symm
theorem nam_yn : yn (x_MareNamed_2 t R B sp tn pk () = .inl ()) (f_MareNamed t R B sp tn pk) := by
  have n := nam_0 (t := t) (R := R) (B := B) (sp := sp) (tn := tn) (pk := pk)
  unfold f_MareNamed
  generalize x_MareNamed_2 t R B sp tn pk () = a at n ⊢
  cases a with
  | inl v => exact ⟨fun _ => rfl, fun h => absurd rfl h⟩
  | inr v => exact ⟨fun h => (by cases h), fun _ => n v rfl⟩
theorem log_yn : yn ((∀ r, r < R → g_MrunAnew t (-1) 0 0 0 R B K (8000 + 1) r = t (7000 + 1) r) ∧ ∀ j, j < B → g_MrunAnew t (-1) 0 0 0 R B K (8000 + 2) j = t (7000 + 2) j) (f_MisLogged t R B K) := by
  have a := xitU_c (step := fun i2 (s2 : Unit) => (if (g_MrunAnew t (-1) 0 0 0 R B K (8000 + 1) i2) = (t (7000 + 1) i2) then (.inl () : Unit ⊕ Int32) else .inr 0)) (c := fun r => g_MrunAnew t (-1) 0 0 0 R B K (8000 + 1) r = t (7000 + 1) r) R (fun q _ hc => if_pos hc) (fun q _ hc => if_neg hc)
  have b := xitU_c (step := fun i2 (s2 : Unit) => (if (g_MrunAnew t (-1) 0 0 0 R B K (8000 + 2) i2) = (t (7000 + 2) i2) then (.inl () : Unit ⊕ Int32) else .inr 0)) (c := fun r => g_MrunAnew t (-1) 0 0 0 R B K (8000 + 2) r = t (7000 + 2) r) B (fun q _ hc => if_pos hc) (fun q _ hc => if_neg hc)
  exact mat2 a b
/-- what is asked of a bidder -/
def bOK (t : XS9) (R B : Nat) (pk : Nat → Nat) (g : Nat) (sp : Nat → Nat) (H : Nat → Int32) (i : Nat) : Prop := 0 ≤ f_MofBidderNow t i R B pk g 1 ∧ (∀ r, r < R → f_of (H i) r ≤ nI (sp r)) ∧ (t 5000 1 = 3 → ¬ t 5005 i = -1 → t 5006 i ≤ f_Bamount t i (cn (t 5005 i)))
theorem bid_go {H : Nat → Int32} {x26 : Nat → Unit ⊕ Int32} (hx : ∀ i, ((∀ r, r < R → f_of (H i) r ≤ nI (sp r)) → x26 i = .inl ()) ∧ (¬ (∀ r, r < R → f_of (H i) r ≤ nI (sp r)) → x26 i = .inr 0)) : ((∀ i, i < B → bOK t R B pk g sp H i) → xitR (fun i2 (s2 : Unit) => (if 0 ≤ (f_MofBidderNow t i2 R B pk g 1) then (aftU (x26 i2) (if (t 5000 1) = 3 then (if (t 5005 i2) = (-1) then (.inl () : Unit ⊕ Int32) else (if (t 5006 i2) ≤ (f_Bamount t i2 (cn (t 5005 i2))) then .inl () else .inr 0)) else .inl ())) else .inr 0)) B 0 () = .inl ()) ∧ (¬ (∀ i, i < B → bOK t R B pk g sp H i) → xitR (fun i2 (s2 : Unit) => (if 0 ≤ (f_MofBidderNow t i2 R B pk g 1) then (aftU (x26 i2) (if (t 5000 1) = 3 then (if (t 5005 i2) = (-1) then (.inl () : Unit ⊕ Int32) else (if (t 5006 i2) ≤ (f_Bamount t i2 (cn (t 5005 i2))) then .inl () else .inr 0)) else .inl ())) else .inr 0)) B 0 () = .inr 0) := by
  refine xitU_c (c := bOK t R B pk g sp H) B (fun i _ hc => ?_) (fun i _ hc => ?_)
  · obtain ⟨h1, h2, h3⟩ := hc
    (try dsimp only)
    rw [if_pos h1, (hx i).1 h2, show ∀ k, aftU (.inl ()) k = k from fun _ => rfl]
    by_cases c : t 5000 1 = 3
    · rw [if_pos c]
      by_cases k : t 5005 i = -1
      · rw [if_pos k]
      · rw [if_neg k, if_pos (h3 c k)]
    · rw [if_neg c]
  · (try dsimp only)
    by_cases h1 : 0 ≤ f_MofBidderNow t i R B pk g 1
    · rw [if_pos h1]
      by_cases h2 : ∀ r, r < R → f_of (H i) r ≤ nI (sp r)
      · rw [(hx i).1 h2, show ∀ k, aftU (.inl ()) k = k from fun _ => rfl]
        by_cases c : t 5000 1 = 3
        · rw [if_pos c]
          by_cases k : t 5005 i = -1
          · exact absurd ⟨h1, h2, fun _ z => absurd k z⟩ hc
          · rw [if_neg k, if_neg (fun z => hc ⟨h1, h2, fun _ _ => z⟩)]
        · exact absurd ⟨h1, h2, fun z => absurd z c⟩ hc
      · rw [(hx i).2 h2]
        rfl
    · rw [if_neg h1]
theorem msd_yn {a b : Unit ⊕ Int32} {P Q N L : Prop} {vn vl : Int32} (ha : (P → a = .inl ()) ∧ (¬ P → a = .inr 0)) (hb : (Q → b = .inl ()) ∧ (¬ Q → b = .inr 0)) (hn : yn N vn) (hl : yn L vl) : yn (P ∧ Q ∧ (t 5000 1 = 3 → N) ∧ L) (aft a (aft b (if (t 5000 1) = 3 then (if vn = 0 then (0 : Int32) else (if vl = 0 then 0 else 1)) else (if vl = 0 then 0 else 1)))) := by
  have d : ¬ (1 : Int32) = 0 := by decide
  by_cases p : P
  · rw [ha.1 p, show ∀ k, aft (.inl ()) k = k from fun _ => rfl]
    by_cases q : Q
    · rw [hb.1 q, show ∀ k, aft (.inl ()) k = k from fun _ => rfl]
      by_cases c : t 5000 1 = 3
      · rw [if_pos c]
        by_cases n : N
        · rw [hn.1 n, if_neg d]
          by_cases k : L
          · rw [hl.1 k, if_neg d]
            exact ⟨fun _ => rfl, fun z => absurd ⟨p, q, fun _ => n, k⟩ z⟩
          · rw [hl.2 k, if_pos rfl]
            exact ⟨fun z => absurd z.2.2.2 k, fun _ => rfl⟩
        · rw [hn.2 n, if_pos rfl]
          exact ⟨fun z => absurd (z.2.2.1 c) n, fun _ => rfl⟩
      · rw [if_neg c]
        by_cases k : L
        · rw [hl.1 k, if_neg d]
          exact ⟨fun _ => rfl, fun z => absurd ⟨p, q, fun w => absurd w c, k⟩ z⟩
        · rw [hl.2 k, if_pos rfl]
          exact ⟨fun z => absurd z.2.2.2 k, fun _ => rfl⟩
    · rw [hb.2 q]
      exact ⟨fun z => absurd z.2.1 q, fun _ => rfl⟩
  · rw [ha.2 p]
    exact ⟨fun z => absurd z.1 p, fun _ => rfl⟩
theorem msn_yn {a b : Unit ⊕ Int32} {P Q N : Prop} {vn : Int32} (ha : (P → a = .inl ()) ∧ (¬ P → a = .inr 0)) (hb : (Q → b = .inl ()) ∧ (¬ Q → b = .inr 0)) (hn : yn N vn) : yn (P ∧ Q ∧ (t 5000 1 = 3 → N)) (aft a (aft b (if (t 5000 1) = 3 then (if vn = 0 then (0 : Int32) else 1) else 1))) := by
  have d : ¬ (1 : Int32) = 0 := by decide
  by_cases p : P
  · rw [ha.1 p, show ∀ k, aft (.inl ()) k = k from fun _ => rfl]
    by_cases q : Q
    · rw [hb.1 q, show ∀ k, aft (.inl ()) k = k from fun _ => rfl]
      by_cases c : t 5000 1 = 3
      · rw [if_pos c]
        by_cases n : N
        · rw [hn.1 n, if_neg d]
          exact ⟨fun _ => rfl, fun z => absurd ⟨p, q, fun _ => n⟩ z⟩
        · rw [hn.2 n, if_pos rfl]
          exact ⟨fun z => absurd (z.2.2 c) n, fun _ => rfl⟩
      · rw [if_neg c]
        exact ⟨fun _ => rfl, fun z => absurd ⟨p, q, fun w => absurd w c⟩ z⟩
    · rw [hb.2 q]
      exact ⟨fun z => absurd z.2.1 q, fun _ => rfl⟩
  · rw [ha.2 p]
    exact ⟨fun z => absurd z.1 p, fun _ => rfl⟩
theorem x26_c (i : Nat) : ((∀ r, r < R → f_of (f_MheldCode_c t i g) r ≤ nI (sp r)) → x_MisSound_c_26 t R B K C pk g tn sp i () = .inl ()) ∧ (¬ (∀ r, r < R → f_of (f_MheldCode_c t i g) r ≤ nI (sp r)) → x_MisSound_c_26 t R B K C pk g tn sp i () = .inr 0) :=
  xitU_c (step := fun i26 (s26 : Unit) => (if (f_of (f_MheldCode_c t i g) i26) ≤ (nI (sp i26)) then (.inl () : Unit ⊕ Int32) else .inr 0)) (c := fun r => f_of (f_MheldCode_c t i g) r ≤ nI (sp r)) R (fun q _ hc => if_pos hc) (fun q _ hc => if_neg hc)
theorem x26_n (i : Nat) : ((∀ r, r < R → f_of (f_MheldCode_n t i) r ≤ nI (sp r)) → x_MisSound_n_26 t R B K C pk g tn sp i () = .inl ()) ∧ (¬ (∀ r, r < R → f_of (f_MheldCode_n t i) r ≤ nI (sp r)) → x_MisSound_n_26 t R B K C pk g tn sp i () = .inr 0) :=
  xitU_c (step := fun i26 (s26 : Unit) => (if (f_of (f_MheldCode_n t i) i26) ≤ (nI (sp i26)) then (.inl () : Unit ⊕ Int32) else .inr 0)) (c := fun r => f_of (f_MheldCode_n t i) r ≤ nI (sp r)) R (fun q _ hc => if_pos hc) (fun q _ hc => if_neg hc)
theorem sc_yn : yn ((∀ i, i < B → bOK t R B pk g sp (fun i => f_MheldCode_c t i g) i) ∧ (∀ r, r < R → t (5010 + r) 2 ≤ f_MofRegionNow t r R B C g 3) ∧ (t 5000 1 = 3 → x_MareNamed_2 t R B sp tn pk () = .inl ()) ∧ (∀ r, r < R → g_MrunAnew t (-1) 0 0 0 R B K (8000 + 1) r = t (7000 + 1) r) ∧ ∀ j, j < B → g_MrunAnew t (-1) 0 0 0 R B K (8000 + 2) j = t (7000 + 2) j) (f_MisSound_c t R B K C pk g tn sp) := by
  have a := bid_go (t := t) (R := R) (B := B) (pk := pk) (g := g) (sp := sp) (H := fun i => f_MheldCode_c t i g) (x26 := fun i => x_MisSound_c_26 t R B K C pk g tn sp i ()) (fun i => x26_c i)
  have b := xitU_c (step := fun i2 (s2 : Unit) => (if (t (5010 + i2) 2) ≤ (f_MofRegionNow t i2 R B C g 3) then (.inl () : Unit ⊕ Int32) else .inr 0)) (c := fun r => t (5010 + r) 2 ≤ f_MofRegionNow t r R B C g 3) R (fun q _ hc => if_pos hc) (fun q _ hc => if_neg hc)
  exact msd_yn (t := t) a b nam_yn log_yn
theorem sn_yn : yn ((∀ i, i < B → bOK t R B pk g sp (fun i => f_MheldCode_n t i) i) ∧ (∀ r, r < R → t (5010 + r) 2 ≤ f_MofRegionNow t r R B C g 3) ∧ (t 5000 1 = 3 → x_MareNamed_2 t R B sp tn pk () = .inl ())) (f_MisSound_n t R B K C pk g tn sp) := by
  have a := bid_go (t := t) (R := R) (B := B) (pk := pk) (g := g) (sp := sp) (H := fun i => f_MheldCode_n t i) (x26 := fun i => x_MisSound_n_26 t R B K C pk g tn sp i ()) (fun i => x26_n i)
  have b := xitU_c (step := fun i2 (s2 : Unit) => (if (t (5010 + i2) 2) ≤ (f_MofRegionNow t i2 R B C g 3) then (.inl () : Unit ⊕ Int32) else .inr 0)) (c := fun r => t (5010 + r) 2 ≤ f_MofRegionNow t r R B C g 3) R (fun q _ hc => if_pos hc) (fun q _ hc => if_neg hc)
  exact msn_yn (t := t) a b nam_yn
end
