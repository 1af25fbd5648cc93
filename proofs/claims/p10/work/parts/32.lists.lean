/-! ===== a list seen as its object and its row, and back ===== -/
theorem sw_cls {Y : XY} {k n pc : Nat} {h : XH} {ls st : List Value} (kk : xx_cls h → SW Y k n h pc ls st) : SW Y k n h pc ls st := fun ρ ow H locs cells slots lsA r9 => kk r9.1.2.2.2.2 ρ ow H locs cells slots lsA r9
abbrev xx_lo (n : Nat) (e : Nat) : Nat → Value := vp_V [.int (nI n), .ref e, .int (nI n)]
theorem xx_lo_v {ρ : Nat → Nat} {n e ea : Nat} (he : ρ e = ea) : ∀ k, k < 3 → xx_v ρ (xx_lo n e k) = vp_V [.int (nI n), .ref ea, .int (nI n)] k := by
  intro k hk
  subst he
  match k, hk with
  | 0, _ => rfl
  | 1, _ => rfl
  | 2, _ => rfl
theorem xx_lo_in {h : XH} {n e : Nat} (he : (h e).isSome = true) : ∀ j, xx_in h (xx_lo n e j) := by
  intro j
  match j with
  | 0 => exact trivial
  | 1 => exact he
  | 2 => exact trivial
  | j + 3 => exact trivial
theorem xx_S.explode {D : XD} {ρ : Nat → Nat} {ow : Nat → Option Nat} {h : XH} {H : Heap} (S : xx_S D ρ ow h H) {r e n ci : Nat} {f f0 : Nat → Value} (hci : ci < 100) (hc : h r = some (200 + ci, n, f)) (hr : 1000 ≤ r) (he : h e = none) (h9 : 1000 ≤ e) (h0 : h 0 = some (104, 0, f0)) :
    (∃ cap ρ' ow', (n ≤ cap ∧ cap ≤ n + n / 2 + 10 ∧ n < 1048576 ∧ 0 < cap) ∧ (∀ a, (h a).isSome = true → ρ' a = ρ a) ∧ xx_S D ρ' ow' (xx_up (xx_up h r (ci, 3, xx_lo n e)) e (104, cap, fun j => if j < n then f j else .null)) H) ∨
    (n = 0 ∧ xx_S D ρ ow (xx_up h r (ci, 3, xx_lo n 0)) H) := by
  obtain ⟨s1, s2, s3, s4, s5⟩ := S
  obtain ⟨a1, a2⟩ := s4 r _ hc
  have a2 := a2.2 hr
  unfold xx_newc at a2
  rw [if_neg (by show ¬ 200 + ci < 100; omega), if_neg (by show ¬ 200 + ci < 200; omega)] at a2
  obtain ⟨q, ea, cap, e1, e2, e3, e4, e5, e6, e7, e8, e9⟩ := a2 (by show 200 + ci < 300; omega)
  have eci : 200 + ci - 200 = ci := by omega
  have e1 : (xd_cl D)[ci]? = some q := by rw [← eci]; exact e1
  have e3 : t_OB (ρ r) ((xd_G D).1 ci) 3 ((xd_G D).2 ci) H (vp_V [.int (nI n), .ref ea, .int (nI n)]) := by rw [← eci]; exact e3
  have e4 : n ≤ cap := e4
  have e5 : cap ≤ n + n / 2 + 10 := e5
  have e6 : n < 1048576 := e6
  have ho : ow (ρ r) = some r := by
    rcases a1 with ⟨h1, -⟩ | ⟨-, h1⟩
    · omega
    · exact h1
  have hre : r ≠ e := fun q => by rw [q, he] at hc; cases hc
  rcases e8 with ⟨c0, c1, c2⟩ | ⟨c0, c1⟩
  · right
    have hn : n = 0 := by omega
    have hr0 : r ≠ 0 := by omega
    have ρ0 : ρ 0 = ea := by
      rcases (s4 0 _ h0).1 with ⟨-, -, z⟩ | ⟨z, -⟩
      · rw [z, c1]
      · omega
    refine ⟨hn, s1, s2, s3, fun x c hx => ?_, fun x c j hx hj => ?_⟩
    · by_cases ex : x = r
      · subst ex
        rw [xx_up_eq] at hx
        cases hx
        refine ⟨.inr ⟨hr, ho⟩, ?_⟩
        refine xx_cell.mk hr ?_
        unfold xx_newc
        rw [if_pos hci]
        exact ⟨q, e1, e2.symm, by rw [e2]; exact e3.to (fun k hk => (xx_lo_v ρ0 k hk).symm)⟩
      · rw [xx_up_ne ex] at hx
        exact s4 x c hx
    · by_cases ex : x = r
      · subst ex
        rw [xx_up_eq] at hx
        cases hx
        refine xx_in_up (xx_lo_in (by rw [h0]; rfl) j)
      · rw [xx_up_ne ex] at hx
        exact xx_in_up (s5 x c j hx hj)
  · left
    have hae : ∀ a, (h a).isSome = true → va_up ρ e ea a = ρ a := fun a ha => by
      by_cases q : a = e
      · rw [q, he] at ha; cases ha
      · simp [va_up, q]
    have hee : va_up ρ e ea e = ea := by simp [va_up]
    refine ⟨cap, va_up ρ e ea, va_up ow ea (some e), ⟨e4, e5, e6, c0⟩, hae, s1, s2, fun a x hx => ?_, fun x c hx => ?_, fun x c j hx hj => ?_⟩
    · by_cases q : a = ea
      · exact s3 a r (by rw [q]; exact c1)
      · exact s3 a x (by simpa [va_up, q] using hx)
    · by_cases ex : x = e
      · subst ex
        rw [xx_up_eq] at hx
        cases hx
        refine ⟨.inr ⟨h9, by rw [hee]; simp [va_up]⟩, ?_⟩
        refine xx_cell.mk h9 ?_
        unfold xx_newc
        rw [if_neg (by show ¬ 104 < 100; omega), if_pos (by show 104 < 200; omega), hee, e9 c0]
        refine congrArg some (xx_arr_eq fun j hj => ?_)
        show _ = xx_v _ (if j < n then f j else .null)
        split
        · rename_i hjn
          exact (xx_v_eq hae (s5 r _ j hc hjn)).symm
        · rfl
      · rw [xx_up_ne ex] at hx
        by_cases er : x = r
        · subst er
          rw [xx_up_eq] at hx
          cases hx
          have hρr : va_up ρ e ea x = ρ x := hae x (by rw [hc]; rfl)
          refine ⟨.inr ⟨hr, by rw [hρr]; simp [va_up, Ne.symm e7, ho]⟩, ?_⟩
          refine xx_cell.mk hr ?_
          unfold xx_newc
          rw [if_pos hci]
          exact ⟨q, e1, e2.symm, by rw [e2, hρr]; exact e3.to (fun k hk => (xx_lo_v hee k hk).symm)⟩
        · rw [xx_up_ne er] at hx
          obtain ⟨b1, b2⟩ := s4 x c hx
          have hρx : va_up ρ e ea x = ρ x := hae x (by rw [hx]; rfl)
          have how : ∀ a, ow a = some x → va_up ow ea (some e) a = some x := fun a ha => by
            have : a ≠ ea := fun q => by rw [q, c1] at ha; exact er (Option.some.inj ha).symm
            simp [va_up, this, ha]
          refine ⟨?_, b2.names hρx how (fun j hj => xx_v_eq hae (s5 x c j hx hj))⟩
          rw [hρx]
          rcases b1 with b1 | ⟨b0, b1⟩
          · exact .inl b1
          · exact .inr ⟨b0, how _ b1⟩
    · by_cases ex : x = e
      · subst ex
        rw [xx_up_eq] at hx
        cases hx
        show xx_in _ (if j < n then f j else .null)
        split
        · rename_i hjn
          exact xx_in_up (xx_in_up (s5 r _ j hc hjn))
        · exact trivial
      · rw [xx_up_ne ex] at hx
        by_cases er : x = r
        · subst er
          rw [xx_up_eq] at hx
          cases hx
          exact xx_lo_in (by rw [xx_up_eq]; rfl) j
        · rw [xx_up_ne er] at hx
          exact xx_in_up (xx_in_up (s5 x c j hx hj))
/-- back: the row e goes under; nothing else names it -/
theorem xx_S.implode {D : XD} {ρ : Nat → Nat} {ow : Nat → Option Nat} {hb : XH} {H : Heap} {r e n cap ci : Nat} {f g : Nat → Value} (hci : ci < 100) (hcl : xx_cls hb) (he : hb e = none) (hr : 1000 ≤ r) (h9 : 1000 ≤ e) (hre : r ≠ e) (hrb : (hb r).isSome = true)
    (hg : ∀ j, j < cap → g j = if j < n then f j else .null) (hf : ∀ j, j < n → xx_in hb (f j)) (hcap : n ≤ cap ∧ cap ≤ n + n / 2 + 10 ∧ n < 1048576 ∧ 0 < cap)
    (S : xx_S D ρ ow (xx_up (xx_up hb r (ci, 3, xx_lo n e)) e (104, cap, g)) H) : xx_S D ρ (va_up ow (ρ e) (some r)) (xx_up hb r (200 + ci, n, f)) H := by
  obtain ⟨s1, s2, s3, s4, s5⟩ := S
  have hE := s4 e (104, cap, g) (xx_up_eq _ _ _)
  have hR := s4 r (ci, 3, xx_lo n e) (by rw [xx_up_ne hre, xx_up_eq])
  have oe : ow (ρ e) = some e := by
    rcases hE.1 with ⟨z, -⟩ | ⟨-, z⟩
    · omega
    · exact z
  have orr : ow (ρ r) = some r := by
    rcases hR.1 with ⟨z, -⟩ | ⟨-, z⟩
    · omega
    · exact z
  have hne : ρ e ≠ ρ r := fun q => by rw [q, orr] at oe; exact hre (Option.some.inj oe)
  have hup : ∀ v, xx_in hb v → xx_in (xx_up hb r (200 + ci, n, f)) v := fun v hv => xx_in_up hv
  refine ⟨s1, s2, fun a x hx => ?_, fun x c hx => ?_, fun x c j hx hj => ?_⟩
  · by_cases q : a = ρ e
    · exact s3 a e (by rw [q]; exact oe)
    · exact s3 a x (by simpa [va_up, q] using hx)
  · by_cases er : x = r
    · subst er
      rw [xx_up_eq] at hx
      cases hx
      refine ⟨.inr ⟨hr, by simp [va_up, Ne.symm hne, orr]⟩, ?_⟩
      refine xx_cell.mk hr ?_
      unfold xx_newc
      rw [if_neg (by show ¬ 200 + ci < 100; omega), if_neg (by show ¬ 200 + ci < 200; omega)]
      intro _
      have hR2 := hR.2.2 hr
      unfold xx_newc at hR2
      rw [if_pos hci] at hR2
      obtain ⟨q, q1, q2, q3⟩ := hR2
      have hE2 := hE.2.2 h9
      unfold xx_newc at hE2
      rw [if_neg (by show ¬ 104 < 100; omega), if_pos (by show 104 < 200; omega)] at hE2
      have q2 : q.2.2 = 3 := q2.symm
      refine ⟨q, ρ e, cap, by rw [show 200 + ci - 200 = ci by omega]; exact q1, q2, ?_, hcap.1, hcap.2.1, hcap.2.2.1, hne, .inr ⟨hcap.2.2.2, by simp [va_up]⟩, ?_⟩
      · rw [show 200 + ci - 200 = ci by omega]
        rw [q2] at q3
        exact q3.to (fun k hk => xx_lo_v rfl k hk)
      · intro _
        rw [hE2]
        refine congrArg some (xx_arr_eq fun j hj => ?_)
        show xx_v ρ (g j) = _
        rw [hg j hj]
        split <;> rfl
    · rw [xx_up_ne er] at hx
      have ex : x ≠ e := fun q => by rw [q, he] at hx; cases hx
      obtain ⟨b1, b2⟩ := s4 x c (by rw [xx_up_ne ex, xx_up_ne er]; exact hx)
      have how : ∀ a, ow a = some x → va_up ow (ρ e) (some r) a = some x := fun a ha => by
        have : a ≠ ρ e := fun q => by rw [q, oe] at ha; exact ex (Option.some.inj ha).symm
        simp [va_up, this, ha]
      refine ⟨?_, b2.names rfl how (fun j hj => rfl)⟩
      rcases b1 with b1 | ⟨b0, b1⟩
      · exact .inl b1
      · exact .inr ⟨b0, how _ b1⟩
  · by_cases er : x = r
    · subst er
      rw [xx_up_eq] at hx
      cases hx
      exact hup _ (hf j hj)
    · rw [xx_up_ne er] at hx
      exact hup _ (hcl x c j hx hj)
/-- the list of nothing, which has the empty row -/
theorem xx_S.implode0 {D : XD} {ρ : Nat → Nat} {ow : Nat → Option Nat} {hb : XH} {H : Heap} {r ci : Nat} {f f0 : Nat → Value} (hci : ci < 100) (hcl : xx_cls hb) (hr : 1000 ≤ r) (h0 : hb 0 = some (104, 0, f0))
    (S : xx_S D ρ ow (xx_up hb r (ci, 3, xx_lo 0 0)) H) : xx_S D ρ ow (xx_up hb r (200 + ci, 0, f)) H := by
  obtain ⟨s1, s2, s3, s4, s5⟩ := S
  have hR := s4 r (ci, 3, xx_lo 0 0) (by rw [xx_up_eq])
  have hZ := s4 0 (104, 0, f0) (by rw [xx_up_ne (by omega)]; exact h0)
  have orr : ow (ρ r) = some r := by
    rcases hR.1 with ⟨z, -⟩ | ⟨-, z⟩
    · omega
    · exact z
  obtain ⟨z1, z2⟩ : ρ 0 < (xd_H D).size ∧ ρ 0 = xd_E D 0 := by
    rcases hZ.1 with ⟨-, z⟩ | ⟨z, -⟩
    · exact ⟨z.1 (by show 104 < 300; omega), z.2⟩
    · omega
  refine ⟨s1, s2, s3, fun x c hx => ?_, fun x c j hx hj => ?_⟩
  · by_cases er : x = r
    · subst er
      rw [xx_up_eq] at hx
      cases hx
      refine ⟨.inr ⟨hr, orr⟩, ?_⟩
      refine xx_cell.mk hr ?_
      unfold xx_newc
      rw [if_neg (by show ¬ 200 + ci < 100; omega), if_neg (by show ¬ 200 + ci < 200; omega)]
      intro _
      have hR2 := hR.2.2 hr
      unfold xx_newc at hR2
      rw [if_pos hci] at hR2
      obtain ⟨q, q1, q2, q3⟩ := hR2
      have q2 : q.2.2 = 3 := q2.symm
      have hne : ρ 0 ≠ ρ x := fun q => by have := (s3 _ _ orr).1; omega
      refine ⟨q, ρ 0, 0, by rw [show 200 + ci - 200 = ci by omega]; exact q1, q2, ?_, Nat.le_refl _, Nat.zero_le _, (Nat.le_of_ble_eq_true rfl), hne, .inl ⟨rfl, z2, z1⟩, ?_⟩
      · rw [show 200 + ci - 200 = ci by omega]
        rw [q2] at q3
        exact q3.to (fun k hk => xx_lo_v rfl k hk)
      · exact fun q => absurd q (Nat.lt_irrefl 0)
    · rw [xx_up_ne er] at hx
      exact s4 x c (by rw [xx_up_ne er]; exact hx)
  · by_cases er : x = r
    · subst er
      rw [xx_up_eq] at hx
      cases hx
      have hj : j < 0 := hj
      omega
    · rw [xx_up_ne er] at hx
      exact xx_in_up (hcl x c j hx hj)
section
variable {Y : XY} {M : XM} {l : Launch} {d k n : Nat} {h : XH} {pc : Nat} {ls st : List Value} {ρ : Nat → Nat} {ow : Nat → Option Nat} {H : Heap} {locs : List Loc} {cells slots : Nat} {lsA : Array Slot}
/-- the same machine's heap, seen otherwise; the names keep what they name -/
theorem xx_R.view {h2 : XH} {ρ2 : Nat → Nat} {ow2 : Nat → Option Nat} (r9 : xx_R Y k n h ls st ρ ow H locs cells slots lsA) (S : xx_S (xy_D Y) ρ2 ow2 h2 H) (hρ : ∀ a, (h a).isSome = true → ρ2 a = ρ a) (hY : ∀ a, (xy_h Y a).isSome = true → (h2 a).isSome = true) (hl : ∀ v ∈ ls, xx_in h2 v) (hs : ∀ v ∈ st, xx_in h2 v) : xx_R Y k n h2 ls st ρ2 ow2 H locs cells slots lsA :=
  ⟨S, fun q hq => ⟨hY q hq, by rw [hρ q (r9.2.1 q hq).1]; exact (r9.2.1 q hq).2⟩, r9.2.2.1, r9.2.2.2.1, r9.2.2.2.2.1, r9.L.names hρ r9.lcl, hl, hs⟩
theorem xx_in_of {h2 : XH} (hd : ∀ a, (h a).isSome = true → (h2 a).isSome = true) {v : Value} (hv : xx_in h v) : xx_in h2 v := by
  cases v with
  | ref a => exact hd a hv
  | _ => exact trivial
theorem sw_explode {r e n9 ci : Nat} {f f0 : Nat → Value} (hci : ci < 100) (hc : h r = some (200 + ci, n9, f)) (hr : 1000 ≤ r) (he : h e = none) (h9 : 1000 ≤ e) (h0 : h 0 = some (104, 0, f0))
    (kk : ∀ cap, (n9 ≤ cap ∧ cap ≤ n9 + n9 / 2 + 10 ∧ n9 < 1048576 ∧ 0 < cap) → SW Y k n (xx_up (xx_up h r (ci, 3, xx_lo n9 e)) e (104, cap, fun j => if j < n9 then f j else .null)) pc ls st)
    (k0 : n9 = 0 → SW Y k n (xx_up h r (ci, 3, xx_lo n9 0)) pc ls st) : SW Y k n h pc ls st := by
  intro ρ ow H locs cells slots lsA r9
  have up1 : ∀ c a, (h a).isSome = true → (xx_up h r c a).isSome = true := fun c a ha => by
    unfold xx_up
    split
    · rfl
    · exact ha
  have up2 : ∀ c c2 a, (h a).isSome = true → (xx_up (xx_up h r c) e c2 a).isSome = true := fun c c2 a ha => by
    show (if a = e then some c2 else xx_up h r c a).isSome = true
    split
    · rfl
    · exact up1 c a ha
  rcases r9.1.explode hci hc hr he h9 h0 with ⟨cap, ρ', ow', hcap, hρ, S⟩ | ⟨hn, S⟩
  · have := kk cap hcap ρ' ow' H locs cells slots lsA (r9.view S hρ (fun a ha => up2 _ _ a (r9.2.1 a ha).1) (fun v hv => xx_in_of (up2 _ _) (r9.lcl v hv)) (fun v hv => xx_in_of (up2 _ _) (r9.stk v hv)))
    rw [xx_map_eq hρ r9.stk] at this
    exact this
  · exact k0 hn ρ ow H locs cells slots lsA (r9.view S (fun a _ => rfl) (fun a ha => up1 _ a (r9.2.1 a ha).1) (fun v hv => xx_in_of (up1 _) (r9.lcl v hv)) (fun v hv => xx_in_of (up1 _) (r9.stk v hv)))
theorem sw_implode {hb : XH} {r e n9 cap ci : Nat} {f g : Nat → Value} (hci : ci < 100) (hcl : xx_cls hb) (he : hb e = none) (hr : 1000 ≤ r) (h9 : 1000 ≤ e) (hre : r ≠ e) (hrb : (hb r).isSome = true)
    (hg : ∀ j, j < cap → g j = if j < n9 then f j else .null) (hf : ∀ j, j < n9 → xx_in hb (f j)) (hcap : n9 ≤ cap ∧ cap ≤ n9 + n9 / 2 + 10 ∧ n9 < 1048576 ∧ 0 < cap)
    (hY : (xy_h Y e).isSome = false) (hl : ∀ v ∈ ls, xx_in hb v) (hs : ∀ v ∈ st, xx_in hb v)
    (kk : SW Y k n (xx_up hb r (200 + ci, n9, f)) pc ls st) : SW Y k n (xx_up (xx_up hb r (ci, 3, xx_lo n9 e)) e (104, cap, g)) pc ls st := by
  intro ρ ow H locs cells slots lsA r9
  have up1 : ∀ c a, (hb a).isSome = true → (xx_up hb r c a).isSome = true := fun c a ha => by
    unfold xx_up
    split
    · rfl
    · exact ha
  refine kk ρ _ H locs cells slots lsA (r9.view (xx_S.implode hci hcl he hr h9 hre hrb hg hf hcap r9.1) (fun a _ => rfl) (fun a ha => ?_) (fun v hv => xx_in_of (up1 _) (hl v hv)) (fun v hv => xx_in_of (up1 _) (hs v hv)))
  have h1 := (r9.2.1 a ha).1
  have hae : a ≠ e := fun q => by rw [q, hY] at ha; cases ha
  rw [xx_up_ne hae] at h1
  by_cases q : a = r
  · rw [q, xx_up_eq]; rfl
  · rw [xx_up_ne q] at h1 ⊢
    exact h1
theorem sw_implode0 {hb : XH} {r ci : Nat} {f f0 : Nat → Value} (hci : ci < 100) (hcl : xx_cls hb) (hr : 1000 ≤ r) (h0 : hb 0 = some (104, 0, f0)) (kk : SW Y k n (xx_up hb r (200 + ci, 0, f)) pc ls st) : SW Y k n (xx_up hb r (ci, 3, xx_lo 0 0)) pc ls st := by
  intro ρ ow H locs cells slots lsA r9
  have up1 : ∀ a, (xx_up hb r (ci, 3, xx_lo 0 0) a).isSome = true → (xx_up hb r (200 + ci, 0, f) a).isSome = true := fun a ha => by
    unfold xx_up at ha ⊢
    split
    · rfl
    · rename_i q
      rw [if_neg q] at ha
      exact ha
  exact kk ρ _ H locs cells slots lsA (r9.view (xx_S.implode0 hci hcl hr h0 r9.1) (fun a _ => rfl) (fun a ha => up1 a (r9.2.1 a ha).1) (fun v hv => xx_in_of up1 (r9.lcl v hv)) (fun v hv => xx_in_of up1 (r9.stk v hv)))
/-- cells that nothing names are dropped -/
theorem sw_drop {h2 : XH} (hs : xx_sub h2 h) (hcl : xx_cls h2) (hY : ∀ a, (xy_h Y a).isSome = true → (h2 a).isSome = true) (hl : ∀ v ∈ ls, xx_in h2 v) (hst : ∀ v ∈ st, xx_in h2 v) (kk : SW Y k n h2 pc ls st) : SW Y k n h pc ls st := fun ρ ow H locs cells slots lsA r9 =>
  kk ρ ow H locs cells slots lsA (r9.view (r9.1.drop hs hcl) (fun a _ => rfl) hY hl hst)
end
