/-! the start -/
section
variable {args : Array Value} {s : State}
theorem st_ltT {a N : Nat} {ty : FieldType} {g : Nat → Value} (hT : va_T ty a N g (stA s) s s.heap) : a < s.heap.size := Nat.not_le.mp hT.out
theorem st_ltO {a : Nat} {C : String} (hO : va_O C a (stA s) s s.heap) : a < s.heap.size := by
  obtain ⟨_, _, _, _, hn⟩ := hO
  exact Nat.not_le.mp hn
theorem st_txo {D : XD} {r u a v n : Nat} {b : Int32} (hD : xd_cl D = vwCl) (hG : va_K (xd_G D) vwCl [] s) (hr : xd_E D r = a) (hu : xd_E D u = v) (X : stTx s a v n b) : xx_oldc D (xd_E D) r (0, 4, vp_V [.ref u, .int 0, .int 0, .int 0]) s.heap :=
  st_oobj (T := TJ0) (C := RJ0) hD hG (by decide) rfl (by decide) hr X.1 (fun k hk hk2 => by
    have h2 := hk2 rfl
    match k, h2 with
    | 0, _ => exact (by show va_OF _ _ _ (.ref (xd_E D u)) _ _ _ _; rw [hu]; exact X.2.2.1)
    | 1, _ => exact X.2.1)
end
