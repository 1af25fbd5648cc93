/-! the start -/
section
variable {args : Array Value} {s : State}
set_option maxRecDepth 4000 in
theorem st_D (h : stH args s) {b L : Nat} {xs : Nat → Int32} (hX : va_X b L xs s s.heap) : ∃ D : XD, xd_H D = s.heap ∧ xd_E D 11 = b ∧ xx_K D s ∧ xx_N D s ∧ xx_S D (xd_E D) (fun _ => none) (h0S L xs) s.heap := by
  obtain ⟨G, hG⟩ := st_G h
  obtain ⟨a4, v4, T4⟩ := st_T4 h
  obtain ⟨a0, v0, T0⟩ := st_T0 h
  obtain ⟨a1, ad, v1, T1, C1⟩ := st_T1 h
  obtain ⟨a5, a8, v5, X5⟩ := st_S5 h
  obtain ⟨a6, a9, v6, X6⟩ := st_S6 h
  obtain ⟨a7, a10, v7, X7⟩ := st_S7 h
  obtain ⟨a3, M3⟩ := va_Mi.of (h.fa (w := .isRef (.mirror "[Ljava/lang/Object;")) (by decide +kernel))
  have h105 : ∃ c, ArrOfT s c (.object "java/lang/Integer") := by
    obtain ⟨cell, -, e2, -⟩ := T1
    obtain ⟨-, k, hk, comp, hkind⟩ := e2
    exact ⟨cell.cls, st_arr hk hkind⟩
  obtain ⟨A, hA⟩ := st_A h h105
  have T11 : va_T .int b L (fun j => .int (xs j)) (stA s) s s.heap := by
    obtain ⟨scr, e1, e2, e3, e4, e5⟩ := hX
    exact ⟨scr, e1, e2, e3, by omega, congrArg Nat.toInt32 e4, e5, st_hA _ (Array.getElem?_eq_some_iff.mp e1).1⟩
  have arrOf : ∀ {ty : FieldType} {a N : Nat} {g : Nat → Value}, va_T ty a N g (stA s) s s.heap → ∃ cell : Cell, s.heap[a]? = some cell ∧ s.isArrayOf cell ty := fun hT => by
    obtain ⟨cell, e1, e2, -⟩ := hT
    exact ⟨cell, e1, e2⟩
  have hEi : ∀ j, stE ad a0 a1 a3 a4 a5 a6 a7 a8 a9 a10 b (200 + j) = ad j := fun j => by
    unfold stE
    rw [if_pos (by omega), Nat.add_sub_cancel_left]
  refine ⟨(vwCl, G, A, s.heap, stE ad a0 a1 a3 a4 a5 a6 a7 a8 a9 a10 b), rfl, rfl, ⟨rfl, ⟨hG, h.1 (.arrayOver (.array .int)) (st_Y (by decide +kernel)), ?_, ?_, ?_, M3, h.1 (.arrayOver (.object "java/lang/Object")) (st_Y (by decide +kernel)), ?_⟩, hA⟩, st_N h ?_, Nat.le_refl _, fun a _ => rfl, fun a r e => (by cases e), fun r c e => ?_, h0S_cls⟩
  · exact vx_Zqof (h.1 _ (st_Y (by decide +kernel))) (h.1 _ (st_Y (by decide +kernel))) (h.fa (by decide +kernel)) st_hA
  · exact vx_Zqof (h.1 _ (st_Y (by decide +kernel))) (h.1 _ (st_Y (by decide +kernel))) (h.fa (by decide +kernel)) st_hA
  · refine List.forall_mem_cons.mpr ⟨?_, List.forall_mem_cons.mpr ⟨?_, List.forall_mem_cons.mpr ⟨?_, List.forall_mem_cons.mpr ⟨?_, List.forall_mem_cons.mpr ⟨?_, fun _ q => absurd q List.not_mem_nil⟩⟩⟩⟩⟩
    · exact st_z h (st_Y (by decide +kernel)) (st_Y (by decide +kernel)) (va_eqt (h.fa (by decide +kernel)))
    · exact st_z h (st_Y (by decide +kernel)) (st_Y (by decide +kernel)) (va_eqt (h.fa (by decide +kernel)))
    · exact st_z h (st_Y (by decide +kernel)) (st_Y (by decide +kernel)) v1
    · exact st_z h (st_Y (by decide +kernel)) (st_Y (by decide +kernel)) v0
    · exact st_z h (st_Y (by decide +kernel)) (st_Y (by decide +kernel)) v4
  · intro r t e
    unfold xx_ota at e
    split at e
    · rename_i q; subst q; cases e; exact arrOf T0
    split at e
    · rename_i q; subst q; cases e; exact arrOf T1
    split at e
    · rename_i q; subst q; cases e; exact arrOf T11
    split at e
    · rename_i q
      cases e
      rcases q with rfl | rfl | rfl | rfl
      · exact arrOf T4
      · exact arrOf X5.2.2.2
      · exact arrOf X6.2.2.2
      · exact arrOf X7.2.2.2
    · cases e
  · refine List.forall_mem_cons.mpr ⟨?_, List.forall_mem_cons.mpr ⟨?_, List.forall_mem_cons.mpr ⟨?_, fun _ q => absurd q List.not_mem_nil⟩⟩⟩
    · exact vk_R.of (h.tb _ (st_Yt (by decide +kernel))) v5
    · exact vk_R.of (h.tb _ (st_Yt (by decide +kernel))) v6
    · exact vk_R.of (h.tb _ (st_Yt (by decide +kernel))) v7
  · rcases h0S_cases e with ⟨j, hj, rfl, rfl⟩ | ⟨rfl, rfl⟩ | ⟨rfl, rfl⟩ | ⟨rfl, rfl⟩ | ⟨rfl, rfl⟩ | ⟨rfl, rfl⟩ | ⟨rfl, rfl⟩ | ⟨rfl, rfl⟩ | ⟨rfl, rfl⟩ | ⟨rfl, rfl⟩ | ⟨rfl, rfl⟩ | ⟨rfl, rfl⟩
    · refine ⟨.inl ⟨by omega, fun _ => ?_, rfl⟩, fun _ => ?_, fun q => absurd q (by omega)⟩
      · show stE ad a0 a1 a3 a4 a5 a6 a7 a8 a9 a10 b (200 + j) < _
        rw [hEi j]
        exact st_ltO (C1.1 j hj)
      · exact st_oobj (T := TJ6) (C := RJ6) rfl hG (by decide) rfl (by decide) (hEi j) (C1.1 j hj) (fun k hk _ => by
          obtain rfl : k = 0 := by omega
          exact C1.2 j hj)
    · exact ⟨.inl ⟨by decide, fun _ => st_ltT T0, rfl⟩, fun _ => st_oarr (by decide) (by decide) rfl rfl T0 (fun j hj => absurd hj (Nat.not_lt_zero j)), fun q => absurd q (by decide)⟩
    · exact ⟨.inl ⟨by decide, fun _ => st_ltT T1, rfl⟩, fun _ => st_oarr (by decide) (by decide) rfl rfl T1 (fun j hj => congrArg Value.ref (hEi j)), fun q => absurd q (by decide)⟩
    · exact ⟨.inl ⟨by decide, fun q => absurd q (by decide), rfl⟩, fun _ => (by show ¬ 300 < 300; decide), fun q => absurd q (by decide)⟩
    · exact ⟨.inl ⟨by decide, fun _ => st_ltT T4, rfl⟩, fun _ => st_oarr (by decide) (by decide) rfl rfl T4 (fun j hj => rfl), fun q => absurd q (by decide)⟩
    · exact ⟨.inl ⟨by decide, fun _ => st_ltO X5.1, rfl⟩, fun _ => st_txo rfl hG rfl rfl X5, fun q => absurd q (by decide)⟩
    · exact ⟨.inl ⟨by decide, fun _ => st_ltO X6.1, rfl⟩, fun _ => st_txo rfl hG rfl rfl X6, fun q => absurd q (by decide)⟩
    · exact ⟨.inl ⟨by decide, fun _ => st_ltO X7.1, rfl⟩, fun _ => st_txo rfl hG rfl rfl X7, fun q => absurd q (by decide)⟩
    · exact ⟨.inl ⟨by decide, fun _ => st_ltT X5.2.2.2, rfl⟩, fun _ => st_oarr (by decide) (by decide) rfl rfl X5.2.2.2 (fun j hj => rfl), fun q => absurd q (by decide)⟩
    · exact ⟨.inl ⟨by decide, fun _ => st_ltT X6.2.2.2, rfl⟩, fun _ => st_oarr (by decide) (by decide) rfl rfl X6.2.2.2 (fun j hj => rfl), fun q => absurd q (by decide)⟩
    · exact ⟨.inl ⟨by decide, fun _ => st_ltT X7.2.2.2, rfl⟩, fun _ => st_oarr (by decide) (by decide) rfl rfl X7.2.2.2 (fun j hj => rfl), fun q => absurd q (by decide)⟩
    · exact ⟨.inl ⟨by decide, fun _ => st_ltT T11, rfl⟩, fun _ => st_oarr (by decide) (by decide) rfl rfl T11 (fun j hj => rfl), fun q => absurd q (by decide)⟩
end
