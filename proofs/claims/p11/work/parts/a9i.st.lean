/-! the start -/
section
variable {args : Array Value} {s : State}
theorem st_z (h : stH args s) {C n d : String} {v : Value} (w1 : Cond.laysStatic C n d ∈ lw_tbl) (w2 : Cond.initialized C ∈ lw_tbl) (hv : (Term.static C n d).eval args s none [] s = some v) : va_Z C n d v (stA s) s s.heap := va_Zof (h.1 _ w1) (h.1 _ w2) hv st_hA
/-- an old array's cell -/
theorem st_oarr {D : XD} {ρ : Nat → Nat} {r t N a : Nat} {ty : FieldType} {f g : Nat → Value} (h1 : 100 ≤ t) (h2 : t < 200) (ho : xx_ota r = some t) (hr : ρ r = a) (hT : va_T ty a N g (stA s) s s.heap) (hf : ∀ j, j < N → xx_v ρ (f j) = g j) : xx_oldc D ρ r (t, N, f) s.heap := by
  unfold xx_oldc
  rw [if_neg (by show ¬ t < 100; omega), if_pos (show t < 200 by omega)]
  obtain ⟨cell, e1, e2, e3, e4, e5, e6, -⟩ := hT
  exact ⟨ho, cell, by rw [hr]; exact e1, e3, e4, e5, fun j hj => by rw [show (t, N, f).2.2 j = f j from rfl, hf j hj]; exact e6 j hj⟩
theorem st_oobj {D : XD} {ρ : Nat → Nat} {r ci N a : Nat} {C : String} {T : u_T} {f : Nat → Value} (hD : xd_cl D = vwCl) (hG : va_K (xd_G D) vwCl [] s) (hci : ci < 100) (hc : vwCl[ci]? = some (C, T, N)) (h0 : 0 < N) (hr : ρ r = a) (hO : va_O C a (stA s) s s.heap) (hF : ∀ k, k < N → (ci = 0 → k < 2) → va_OF (T k).1 (T k).2.1 (T k).2.2.1 (xx_v ρ (f k)) a (stA s) s s.heap) : xx_oldc D ρ r (ci, N, f) s.heap := by
  unfold xx_oldc
  rw [if_pos (show ci < 100 from hci)]
  obtain ⟨cell, e1, e2, e3, -⟩ := hO
  obtain ⟨hS, hfc, -⟩ := hG.1 ci _ hc
  obtain ⟨-, -, -, -, cell0, -, -, g3, g4, -, -⟩ := hF 0 h0 (fun _ => by decide)
  cases Option.some.inj (e1.symm.trans g3)
  refine ⟨_, cell, by rw [hD]; exact hc, rfl, by rw [hr]; exact e1, Option.some.inj (e3.symm.trans hfc), ⟨e2, g4⟩, fun k hk hk2 => ?_⟩
  obtain ⟨cf, kF, fi, fd, cell2, i1, i2, i3, i4, i5, i6⟩ := hF k hk hk2
  obtain ⟨_, _, _, fd2, j1, j2⟩ := hS k hk
  cases Option.some.inj (i1.symm.trans j1)
  cases Option.some.inj (e1.symm.trans i3)
  show cell.slots[(xd_G D).2 ci k]? = _
  rw [← j2]
  exact i5
end
