/-! ===== decode facts of long methods, by windows of their bytes ===== -/
theorem dw_bindE {α β : Type} (r : Decoder α) (f : α → Decoder β) (B : ByteArray) (p : Nat) : Reader.runAt (r >>= f) B p = (Reader.runAt r B p >>= fun q => Reader.runAt (f q.1) B q.2) := by
  first | rfl | simp only [Reader.runAt, ReaderT.run_bind, StateT.run_bind]
def dw_W (A B : ByteArray) (k : Nat) : Prop := ∀ i (h : i < B.size), ∃ h2 : i + k < A.size, A[i + k]'h2 = B[i]'h
theorem dw_mk {A : ByteArray} {l : List UInt8} {k : Nat} (h : l.isPrefixOf (A.data.toList.drop k) = true) : dw_W A ⟨⟨l⟩⟩ k := by
  obtain ⟨⟨L⟩⟩ := A
  obtain ⟨t, ht⟩ := List.isPrefixOf_iff_prefix.mp h
  intro i hi
  have hi2 : i < l.length := hi
  have ht2 : l ++ t = L.drop k := ht
  have hL : L.length - k = l.length + t.length := by rw [← List.length_drop, ← ht2, List.length_append]
  have h2 : i + k < L.length := by omega
  refine ⟨h2, ?_⟩
  show L[i + k] = l[i]
  have e1 : L[i + k]? = l[i]? := by
    rw [show i + k = k + i from Nat.add_comm i k, ← List.getElem?_drop, ← ht2, List.getElem?_append_left hi2]
  rw [List.getElem?_eq_getElem h2, List.getElem?_eq_getElem hi2] at e1
  exact Option.some.inj e1
def dw_S {α : Type} (A B : ByteArray) (k : Nat) (r : Decoder α) : Prop := ∀ p v p', Reader.runAt r B p = .ok (v, p') → Reader.runAt r A (p + k) = .ok (v, p' + k)
theorem dw_pureE {α : Type} (a : α) (B : ByteArray) (p : Nat) : Reader.runAt (pure a : Decoder α) B p = .ok (a, p) := rfl
theorem dw_pure {α : Type} {A B : ByteArray} {k : Nat} (a : α) : dw_S A B k (pure a) := fun p v p' h => by
  rw [dw_pureE] at h ⊢
  injection h with h
  injection h with h1 h2
  subst h1
  subst h2
  rfl
theorem dw_bind {α β : Type} {A B : ByteArray} {k : Nat} {r : Decoder α} {f : α → Decoder β} (hr : dw_S A B k r) (hf : ∀ a, dw_S A B k (f a)) : dw_S A B k (r >>= f) := fun p v p' h => by
  rw [dw_bindE] at h ⊢
  cases e : Reader.runAt r B p with
  | error x => rw [e] at h; exact absurd (show (Except.error x : Except DecodeError (β × Nat)) = Except.ok (v, p') from h) (by simp)
  | ok y =>
    rw [e] at h
    rw [hr p y.1 y.2 e]
    exact hf y.1 y.2 v p' h
theorem dw_u1E (C : ByteArray) (p : Nat) : Reader.runAt (Reader.u1 : Decoder Nat) C p = if h : p < C.size then .ok ((C[p]'h).toNat, p + 1) else .error (.truncated p) := by
  have e : Reader.runAt (Reader.u1 : Decoder Nat) C p = Reader.runAt (if h : p < C.size then (do set (p + 1); pure (C[p]'h).toNat : Decoder Nat) else throw (HasTruncated.truncated p)) C p := rfl
  rw [e]
  by_cases h : p < C.size
  · rw [dif_pos h, dif_pos h]; rfl
  · rw [dif_neg h, dif_neg h]; rfl
theorem dw_u1 {A B : ByteArray} {k : Nat} (hW : dw_W A B k) : dw_S A B k Reader.u1 := fun p v p' h => by
  rw [dw_u1E] at h ⊢
  by_cases hp : p < B.size
  · rw [dif_pos hp] at h
    obtain ⟨h2, e2⟩ := hW p hp
    rw [dif_pos h2, e2]
    injection h with h
    injection h with h1 h3
    subst h1
    subst h3
    rw [show p + k + 1 = p + 1 + k by omega]
  · rw [dif_neg hp] at h
    exact absurd h (by simp)
theorem dw_u2 {A B : ByteArray} {k : Nat} (hW : dw_W A B k) : dw_S A B k Reader.u2 := by
  have e : (Reader.u2 : Decoder Nat) = (Reader.u1 >>= fun hi => Reader.u1 >>= fun lo => pure (hi * 256 + lo)) := rfl
  rw [e]
  exact dw_bind (dw_u1 hW) fun _ => dw_bind (dw_u1 hW) fun _ => dw_pure _
theorem dw_s1 {A B : ByteArray} {k : Nat} (hW : dw_W A B k) : dw_S A B k Reader.s1 := by
  have e : (Reader.s1 : Decoder Int) = (Reader.u1 >>= fun a => pure (Reader.signed 8 a)) := rfl
  rw [e]
  exact dw_bind (dw_u1 hW) fun _ => dw_pure _
theorem dw_s2 {A B : ByteArray} {k : Nat} (hW : dw_W A B k) : dw_S A B k Reader.s2 := by
  have e : (Reader.s2 : Decoder Int) = (Reader.u2 >>= fun a => pure (Reader.signed 16 a)) := rfl
  rw [e]
  exact dw_bind (dw_u2 hW) fun _ => dw_pure _
/-- what the byte that was read leads to -/
abbrev dw_A (f : Nat → Decoder Instr) : Prop := f 2 = (pure (.iconst (-1)) : Decoder Instr) ∧ f 3 = (pure (.iconst 0) : Decoder Instr) ∧ f 4 = (pure (.iconst 1) : Decoder Instr) ∧ f 5 = (pure (.iconst 2) : Decoder Instr) ∧ f 6 = (pure (.iconst 3) : Decoder Instr) ∧ f 7 = (pure (.iconst 4) : Decoder Instr) ∧ f 16 = (do let a ← Reader.s1; pure (.bipush a) : Decoder Instr) ∧ f 21 = (do let a ← Reader.u1; pure (.iload a) : Decoder Instr) ∧ f 25 = (do let a ← Reader.u1; pure (.aload a) : Decoder Instr) ∧ f 27 = (pure (.iload_n 1) : Decoder Instr) ∧ f 28 = (pure (.iload_n 2) : Decoder Instr) ∧ f 29 = (pure (.iload_n 3) : Decoder Instr) ∧ f 42 = (pure (.aload_n 0) : Decoder Instr) ∧ f 43 = (pure (.aload_n 1) : Decoder Instr) ∧ f 44 = (pure (.aload_n 2) : Decoder Instr) ∧ f 45 = (pure (.aload_n 3) : Decoder Instr) ∧ f 46 = (pure (.iaload) : Decoder Instr) ∧ f 54 = (do let a ← Reader.u1; pure (.istore a) : Decoder Instr) ∧ f 58 = (do let a ← Reader.u1; pure (.astore a) : Decoder Instr) ∧ f 79 = (pure (.iastore) : Decoder Instr) ∧ f 87 = (pure (.pop) : Decoder Instr) ∧ f 88 = (pure (.pop2) : Decoder Instr) ∧ f 96 = (pure (.iadd) : Decoder Instr) ∧ f 132 = (do let a ← Reader.u1; let c ← Reader.s1; pure (.iinc a c) : Decoder Instr) ∧ f 133 = (pure (.i2l) : Decoder Instr) ∧ f 153 = (do let a ← Reader.s2; pure (.ifCond .eq a) : Decoder Instr) ∧ f 154 = (do let a ← Reader.s2; pure (.ifCond .ne a) : Decoder Instr) ∧ f 159 = (do let a ← Reader.s2; pure (.if_icmp .eq a) : Decoder Instr) ∧ f 160 = (do let a ← Reader.s2; pure (.if_icmp .ne a) : Decoder Instr) ∧ f 162 = (do let a ← Reader.s2; pure (.if_icmp .ge a) : Decoder Instr) ∧ f 163 = (do let a ← Reader.s2; pure (.if_icmp .gt a) : Decoder Instr) ∧ f 164 = (do let a ← Reader.s2; pure (.if_icmp .le a) : Decoder Instr) ∧ f 167 = (do let a ← Reader.s2; pure (.goto a) : Decoder Instr) ∧ f 172 = (pure (.ireturn) : Decoder Instr) ∧ f 180 = (do let a ← Reader.u2; pure (.getfield a) : Decoder Instr) ∧ f 181 = (do let a ← Reader.u2; pure (.putfield a) : Decoder Instr) ∧ f 182 = (do let a ← Reader.u2; pure (.invokevirtual a) : Decoder Instr) ∧ f 184 = (do let a ← Reader.u2; pure (.invokestatic a) : Decoder Instr) ∧ f 192 = (do let a ← Reader.u2; pure (.checkcast a) : Decoder Instr)
theorem dw_ex (pc : Nat) : ∃ f : Nat → Decoder Instr, Decoder.instr pc = (Reader.u1 >>= f) ∧ dw_A f := by
  refine ⟨_, rfl, ?_⟩
  exact ⟨rfl, rfl, rfl, rfl, rfl, rfl, rfl, rfl, rfl, rfl, rfl, rfl, rfl, rfl, rfl, rfl, rfl, rfl, rfl, rfl, rfl, rfl, rfl, rfl, rfl, rfl, rfl, rfl, rfl, rfl, rfl, rfl, rfl, rfl, rfl, rfl, rfl, rfl, rfl⟩
def dw_m : Nat := 6312355349358064555532090633635697590036392134407685734652
abbrev dw_ops : List Nat := [2, 3, 4, 5, 6, 7, 16, 21, 25, 27, 28, 29, 42, 43, 44, 45, 46, 54, 58, 79, 87, 88, 96, 132, 133, 153, 154, 159, 160, 162, 163, 164, 167, 172, 180, 181, 182, 184, 192]
theorem dw_opsM : ∀ b, b < 256 → Nat.testBit dw_m b = true → b ∈ dw_ops := by decide +kernel
theorem dw_arm {A B : ByteArray} {k : Nat} (hW : dw_W A B k) {f g : Nat → Decoder Instr} (hf : dw_A f) (hg : dw_A g) : ∀ b ∈ dw_ops, g b = f b ∧ dw_S A B k (f b) := by
  obtain ⟨f2, f3, f4, f5, f6, f7, f16, f21, f25, f27, f28, f29, f42, f43, f44, f45, f46, f54, f58, f79, f87, f88, f96, f132, f133, f153, f154, f159, f160, f162, f163, f164, f167, f172, f180, f181, f182, f184, f192⟩ := hf
  obtain ⟨g2, g3, g4, g5, g6, g7, g16, g21, g25, g27, g28, g29, g42, g43, g44, g45, g46, g54, g58, g79, g87, g88, g96, g132, g133, g153, g154, g159, g160, g162, g163, g164, g167, g172, g180, g181, g182, g184, g192⟩ := hg
  have c : ∀ (b : Nat) (l : List Nat), (g b = f b ∧ dw_S A B k (f b)) → (∀ x ∈ l, g x = f x ∧ dw_S A B k (f x)) → ∀ x ∈ b :: l, g x = f x ∧ dw_S A B k (f x) := fun b l h1 h2 x hx => by
    rcases List.mem_cons.mp hx with e | e
    · rw [e]; exact h1
    · exact h2 x e
  refine c 2 _ ⟨g2.trans f2.symm, by rw [f2]; exact dw_pure _⟩ ?_
  refine c 3 _ ⟨g3.trans f3.symm, by rw [f3]; exact dw_pure _⟩ ?_
  refine c 4 _ ⟨g4.trans f4.symm, by rw [f4]; exact dw_pure _⟩ ?_
  refine c 5 _ ⟨g5.trans f5.symm, by rw [f5]; exact dw_pure _⟩ ?_
  refine c 6 _ ⟨g6.trans f6.symm, by rw [f6]; exact dw_pure _⟩ ?_
  refine c 7 _ ⟨g7.trans f7.symm, by rw [f7]; exact dw_pure _⟩ ?_
  refine c 16 _ ⟨g16.trans f16.symm, by rw [f16]; exact dw_bind (dw_s1 hW) fun _ => dw_pure _⟩ ?_
  refine c 21 _ ⟨g21.trans f21.symm, by rw [f21]; exact dw_bind (dw_u1 hW) fun _ => dw_pure _⟩ ?_
  refine c 25 _ ⟨g25.trans f25.symm, by rw [f25]; exact dw_bind (dw_u1 hW) fun _ => dw_pure _⟩ ?_
  refine c 27 _ ⟨g27.trans f27.symm, by rw [f27]; exact dw_pure _⟩ ?_
  refine c 28 _ ⟨g28.trans f28.symm, by rw [f28]; exact dw_pure _⟩ ?_
  refine c 29 _ ⟨g29.trans f29.symm, by rw [f29]; exact dw_pure _⟩ ?_
  refine c 42 _ ⟨g42.trans f42.symm, by rw [f42]; exact dw_pure _⟩ ?_
  refine c 43 _ ⟨g43.trans f43.symm, by rw [f43]; exact dw_pure _⟩ ?_
  refine c 44 _ ⟨g44.trans f44.symm, by rw [f44]; exact dw_pure _⟩ ?_
  refine c 45 _ ⟨g45.trans f45.symm, by rw [f45]; exact dw_pure _⟩ ?_
  refine c 46 _ ⟨g46.trans f46.symm, by rw [f46]; exact dw_pure _⟩ ?_
  refine c 54 _ ⟨g54.trans f54.symm, by rw [f54]; exact dw_bind (dw_u1 hW) fun _ => dw_pure _⟩ ?_
  refine c 58 _ ⟨g58.trans f58.symm, by rw [f58]; exact dw_bind (dw_u1 hW) fun _ => dw_pure _⟩ ?_
  refine c 79 _ ⟨g79.trans f79.symm, by rw [f79]; exact dw_pure _⟩ ?_
  refine c 87 _ ⟨g87.trans f87.symm, by rw [f87]; exact dw_pure _⟩ ?_
  refine c 88 _ ⟨g88.trans f88.symm, by rw [f88]; exact dw_pure _⟩ ?_
  refine c 96 _ ⟨g96.trans f96.symm, by rw [f96]; exact dw_pure _⟩ ?_
  refine c 132 _ ⟨g132.trans f132.symm, by rw [f132]; exact dw_bind (dw_u1 hW) fun _ => dw_bind (dw_s1 hW) fun _ => dw_pure _⟩ ?_
  refine c 133 _ ⟨g133.trans f133.symm, by rw [f133]; exact dw_pure _⟩ ?_
  refine c 153 _ ⟨g153.trans f153.symm, by rw [f153]; exact dw_bind (dw_s2 hW) fun _ => dw_pure _⟩ ?_
  refine c 154 _ ⟨g154.trans f154.symm, by rw [f154]; exact dw_bind (dw_s2 hW) fun _ => dw_pure _⟩ ?_
  refine c 159 _ ⟨g159.trans f159.symm, by rw [f159]; exact dw_bind (dw_s2 hW) fun _ => dw_pure _⟩ ?_
  refine c 160 _ ⟨g160.trans f160.symm, by rw [f160]; exact dw_bind (dw_s2 hW) fun _ => dw_pure _⟩ ?_
  refine c 162 _ ⟨g162.trans f162.symm, by rw [f162]; exact dw_bind (dw_s2 hW) fun _ => dw_pure _⟩ ?_
  refine c 163 _ ⟨g163.trans f163.symm, by rw [f163]; exact dw_bind (dw_s2 hW) fun _ => dw_pure _⟩ ?_
  refine c 164 _ ⟨g164.trans f164.symm, by rw [f164]; exact dw_bind (dw_s2 hW) fun _ => dw_pure _⟩ ?_
  refine c 167 _ ⟨g167.trans f167.symm, by rw [f167]; exact dw_bind (dw_s2 hW) fun _ => dw_pure _⟩ ?_
  refine c 172 _ ⟨g172.trans f172.symm, by rw [f172]; exact dw_pure _⟩ ?_
  refine c 180 _ ⟨g180.trans f180.symm, by rw [f180]; exact dw_bind (dw_u2 hW) fun _ => dw_pure _⟩ ?_
  refine c 181 _ ⟨g181.trans f181.symm, by rw [f181]; exact dw_bind (dw_u2 hW) fun _ => dw_pure _⟩ ?_
  refine c 182 _ ⟨g182.trans f182.symm, by rw [f182]; exact dw_bind (dw_u2 hW) fun _ => dw_pure _⟩ ?_
  refine c 184 _ ⟨g184.trans f184.symm, by rw [f184]; exact dw_bind (dw_u2 hW) fun _ => dw_pure _⟩ ?_
  refine c 192 _ ⟨g192.trans f192.symm, by rw [f192]; exact dw_bind (dw_u2 hW) fun _ => dw_pure _⟩ ?_
  intro x hx
  cases hx
def dw_ok (l : List UInt8) (p : Nat) : Bool := match l[p]? with
  | some b => Nat.testBit dw_m b.toNat
  | none => false
theorem dw_dec {A : ByteArray} {l : List UInt8} {k p n : Nat} {i : Instr} (hW : dw_W A ⟨⟨l⟩⟩ k) (ho : dw_ok l p = true) (h : decode ⟨⟨l⟩⟩ p = .ok (i, n)) : decode A (p + k) = .ok (i, n) := by
  obtain ⟨f, ef, hf⟩ := dw_ex p
  obtain ⟨g, eg, hg⟩ := dw_ex (p + k)
  have hlt : p < l.length := by
    unfold dw_ok at ho
    cases e : l[p]? with
    | none => rw [e] at ho; exact absurd ho (by decide)
    | some b => exact (List.getElem?_eq_some_iff.mp e).1
  have hbit : Nat.testBit dw_m (l[p]'hlt).toNat = true := by
    unfold dw_ok at ho
    rw [List.getElem?_eq_getElem hlt] at ho
    exact ho
  have hb := dw_arm hW hf hg _ (dw_opsM _ (UInt8.toNat_lt _) hbit)
  have hB : Reader.runAt (Reader.u1 : Decoder Nat) ⟨⟨l⟩⟩ p = .ok ((l[p]'hlt).toNat, p + 1) := by
    rw [dw_u1E, dif_pos (show p < ByteArray.size ⟨⟨l⟩⟩ from hlt)]
    rfl
  have hA := dw_u1 hW p _ _ hB
  have e1 : decode ⟨⟨l⟩⟩ p = (Reader.runAt (Decoder.instr p) ⟨⟨l⟩⟩ p >>= fun q => pure (q.1, q.2 - p)) := rfl
  have e2 : decode A (p + k) = (Reader.runAt (Decoder.instr (p + k)) A (p + k) >>= fun q => pure (q.1, q.2 - (p + k))) := rfl
  have e3 : decode ⟨⟨l⟩⟩ p = (Reader.runAt (f (l[p]'hlt).toNat) ⟨⟨l⟩⟩ (p + 1) >>= fun q => pure (q.1, q.2 - p)) := by
    rw [e1, ef, dw_bindE, hB]
    rfl
  have e4 : decode A (p + k) = (Reader.runAt (f (l[p]'hlt).toNat) A (p + 1 + k) >>= fun q => pure (q.1, q.2 - (p + k))) := by
    rw [e2, eg, dw_bindE, hA, ← hb.1]
    rfl
  rw [e3] at h
  rw [e4]
  cases e : Reader.runAt (f (l[p]'hlt).toNat) ⟨⟨l⟩⟩ (p + 1) with
  | error x => rw [e] at h; exact absurd (show (Except.error x : Except DecodeError (Instr × Nat)) = Except.ok (i, n) from h) (by simp)
  | ok y =>
    rw [e] at h
    rw [hb.2 (p + 1) y.1 y.2 e]
    have h2 : (Except.ok (y.1, y.2 - p) : Except DecodeError (Instr × Nat)) = .ok (i, n) := h
    show (Except.ok (y.1, y.2 + k - (p + k)) : Except DecodeError (Instr × Nat)) = .ok (i, n)
    rw [Nat.add_sub_add_right]
    exact h2
/-- a window: where it begins, its bytes -/
def dw_chk (A : ByteArray) (W : List (Nat × List UInt8)) (z : Nat) (q : Nat × Instr × Nat) : Bool := match W[(q.1 - z) / 24]? with
  | some w => if w.1 ≤ q.1 ∧ dw_ok w.2 (q.1 - w.1) = true then decide (decode ⟨⟨w.2⟩⟩ (q.1 - w.1) = .ok q.2) else decide (decode A q.1 = .ok q.2)
  | none => decide (decode A q.1 = .ok q.2)
theorem dw_all {A : ByteArray} {dt : List (Nat × Instr × Nat)} (z : Nat) {W : List (Nat × List UInt8)} (hW : W.all (fun w => w.2.isPrefixOf (A.data.toList.drop w.1)) = true) (h : dt.all (dw_chk A W z) = true) : ∀ q ∈ dt, decode A q.1 = .ok q.2 := fun q hq => by
  have h1 := List.all_eq_true.mp h q hq
  unfold dw_chk at h1
  cases e : W[(q.1 - z) / 24]? with
  | none => rw [e] at h1; exact of_decide_eq_true h1
  | some w =>
    rw [e] at h1
    have hw : w ∈ W := List.mem_of_getElem? e
    by_cases c : w.1 ≤ q.1 ∧ dw_ok w.2 (q.1 - w.1) = true
    · have h2 : decode ⟨⟨w.2⟩⟩ (q.1 - w.1) = .ok q.2 := of_decide_eq_true (by simpa only [if_pos c] using h1)
      have h3 := dw_dec (dw_mk (List.all_eq_true.mp hW w hw)) c.2 h2
      rw [Nat.sub_add_cancel c.1] at h3
      exact h3
    · exact of_decide_eq_true (by simpa only [if_neg c] using h1)
