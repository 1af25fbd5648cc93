/-! the start -/
section
variable {args : Array Value} {s : State}
/-- a text: its object at a, its signs at u -/
def stTx (s : State) (a u n : Nat) (b : Int32) : Prop := va_O "java/lang/String" a (stA s) s s.heap ∧ va_OF "java/lang/String" "coder" "B" (.int 0) a (stA s) s s.heap ∧ va_OF "java/lang/String" "value" "[B" (.ref u) a (stA s) s s.heap ∧ va_T .byte u n (fun _ => .int b) (stA s) s s.heap
theorem st_tx {k n : Nat} {b : Int32} (hn : n ≤ 1) (hex : (Cond.exactly (tmS k) "java/lang/String").before args s = true) (hco : (Cond.eq (.field (tmS k) "java/lang/String" "coder" "B") (.int 0)).before args s = true)
    (har : (Cond.arrayOf (.field (tmS k) "java/lang/String" "value" "[B") .byte).before args s = true) (hle : (Cond.eq (.length (.field (tmS k) "java/lang/String" "value" "[B")) (.int (Int32.ofNat n))).before args s = true)
    (hel : 0 < n → (Cond.eq (.elem (.field (tmS k) "java/lang/String" "value" "[B") (.int (Int32.ofNat 0))) (.int b)).before args s = true) :
    ∃ a u, (tmS k).eval args s none [] s = some (.ref a) ∧ stTx s a u n b := by
  obtain ⟨a, c, cA, kA, q1, q2, q3, q4, q5, q6, -⟩ := Cond.exactly_spec (args := args) (first := s) (o := none) (s := s) (idx := []) (t := tmS k) (cls := "java/lang/String") hex
  obtain ⟨t, ht, hT⟩ := va_Tof (f := fun _ => .int b) (A := stA s) (N := n) (by omega) har (va_eqt hle) (fun j hj => by obtain rfl : j = 0 := by omega
                                                                                                                        exact va_eqt (hel (by omega))) st_hA
  exact ⟨a, t, q1, ⟨cA, q3, q5, by rw [q6]; exact q2, st_hA a (Array.getElem?_eq_some_iff.mp q3).1⟩, vk_OFof q1 (va_eqt hco) st_hA, vk_OFof q1 ht st_hA, hT⟩
theorem st_S5 (h : stH args s) : ∃ a u, (tmS 335).eval args s none [] s = some (.ref a) ∧ stTx s a u 1 44 := st_tx (Nat.le_refl 1) (h.fa (by decide +kernel)) (h.fa (by decide +kernel)) (h.fa (by decide +kernel)) (h.fa (by decide +kernel)) (fun _ => h.fa (by decide +kernel))
theorem st_S6 (h : stH args s) : ∃ a u, (tmS 337).eval args s none [] s = some (.ref a) ∧ stTx s a u 0 0 := st_tx (Nat.zero_le 1) (h.fa (by decide +kernel)) (h.fa (by decide +kernel)) (h.fa (by decide +kernel)) (h.fa (by decide +kernel)) (fun q => absurd q (Nat.lt_irrefl 0))
theorem st_S7 (h : stH args s) : ∃ a u, (tmS 343).eval args s none [] s = some (.ref a) ∧ stTx s a u 1 45 := st_tx (Nat.le_refl 1) (h.fa (by decide +kernel)) (h.fa (by decide +kernel)) (h.fa (by decide +kernel)) (h.fa (by decide +kernel)) (fun _ => h.fa (by decide +kernel))

end
