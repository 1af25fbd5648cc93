/-! ===== two texts compared ===== -/
section
variable {Y : XY} {M : XM} {l : Launch} {d k n : Nat} {h : XH} {pc : Nat} {ls st : List Value}
theorem sw_instO {idx ci N r : Nat} {f : Nat → Value} {C : String} {T : u_T} {ty : Nat → FieldType} (O : xx_O Y M l d) (hd : decode M.2.1 pc = .ok (.instanceof idx, 3)) (K : xx_cl ci C T N ty) (hc : h r = some (ci, N, f)) (w : Cond.classLink M.2.2.2.2.1 idx C ∈ xx_gws) (kk : SW Y k n h (pc + 3) ls (.int 1 :: st)) : SW Y k n h pc ls (.ref r :: st) := by
  intro ρ ow H locs cells slots lsA r9
  obtain ⟨⟨cell, q1, q2, q3, q4⟩, hS, hfc, kC, hkC, hkind⟩ := r9.obj O K hc
  exact va_instY O.1 O.2.1 O.2.2.2.2.2.2.1 (O.2.2.2.2.2.1 _ w) (xx_castR hfc) ⟨cell, q1, q3.1, by rw [q2]; exact hfc⟩ hd (kk ρ ow H locs cells slots lsA (r9.to (xx_hc (a := .int 1) trivial (xx_ht r9.stk))))
theorem sw_acmp_neN {a b tgt : Nat} {ca cb : XC} {off : Int} (O : xx_O Y M l d) (hd : decode M.2.1 pc = .ok (.if_acmp .ne off, 3)) (ht : (pc : Int) + off = (tgt : Int)) (ha : h a = some ca) (hb : h b = some cb) (h1 : 1000 ≤ a) (h2 : 1000 ≤ b) (hne : a ≠ b) (kt : SW Y k n h tgt ls st) : SW Y k n h pc ls (.ref b :: .ref a :: st) := fun ρ ow H locs cells slots lsA r9 =>
  lv_acmp_ne (rx := some (ρ a)) (ry := some (ρ b)) O.1 O.2.1 hd ht (fun _ => kt ρ ow H locs cells slots lsA (r9.to (xx_ht (xx_ht r9.stk)))) (fun q => absurd (Option.some.inj q) (fun e => hne (by
    have e1 : ow (ρ a) = some a := by
      rcases (r9.1.2.2.2.1 a ca ha).1 with ⟨x, -, -⟩ | ⟨-, x⟩
      · omega
      · exact x
    have e2 : ow (ρ b) = some b := by
      rcases (r9.1.2.2.2.1 b cb hb).1 with ⟨x, -, -⟩ | ⟨-, x⟩
      · omega
      · exact x
    rw [e, e2] at e1
    exact (Option.some.inj e1).symm)))
end
theorem tx_eqL {l : Launch} {h : XH} (hl : l.stackTraces = false) {u u2 m : Nat} {F F2 : Nat → Value} (hu : h u = some (102, m, F)) (hv : h u2 = some (102, m, F2)) (hF : ∀ j, j < m → ∃ z : Int32, F j = .int z ∧ fits .byte (.int z) = true) (he : ∀ j, j < m → F j = F2 j) (hm : m ≤ 16) : XEx l m_J1_equals_b5fdf 0 0 0 [.ref u, .ref u2] (h) (some (.int 1)) (h) := by
  refine XMet.of hl rfl rfl (Nat.le_of_ble_eq_true rfl) (fun Y O hh hQ => ?_)
  show SW Y 0 0 (h) 0 [.ref u, .ref u2, xx_d] []
  refine sw_aload_n O (xx_dt dd_J1_equals_b5fdf 0 rfl) rfl ?_
  refine sw_alen (t := 102) O (xx_dt dd_J1_equals_b5fdf 1 rfl) (by omega) (by omega) hu ?_
  refine sw_aload_n O (xx_dt dd_J1_equals_b5fdf 2 rfl) rfl ?_
  refine sw_alen (t := 102) O (xx_dt dd_J1_equals_b5fdf 3 rfl) (by omega) (by omega) hv ?_
  refine sw_icmp_ne (tgt := 34) O (xx_dt dd_J1_equals_b5fdf 4 rfl) (by decide) (fun q => absurd rfl q) (fun _ => ?_)
  refine sw_iconst (x := 0) O (xx_dt dd_J1_equals_b5fdf 5 rfl) (by decide) ?_
  refine sw_istore_n (ls2 := [.ref u, .ref u2, .int 0]) O (xx_dt dd_J1_equals_b5fdf 6 rfl) (by decide) rfl ?_
  refine sw_for (fun _ (s9 : Unit) => s9) (fun _ _ => True) (hp := fun _ => h) (hd := 9) (lc := fun i _ => [.ref u, .ref u2, .int (nI i)]) (N := m) (fun i s9 hi _ => ⟨trivial, fun kk => ?_⟩) m 0 () (by omega) trivial (fun _ => ?_)
  · obtain ⟨z, ez, -⟩ := hF i hi
    refine sw_iload_n O (xx_dt dd_J1_equals_b5fdf 7 rfl) rfl ?_
    refine sw_aload_n O (xx_dt dd_J1_equals_b5fdf 8 rfl) rfl ?_
    refine sw_alen (t := 102) O (xx_dt dd_J1_equals_b5fdf 9 rfl) (by omega) (by omega) hu ?_
    refine sw_icmp_ge (tgt := 32) O (xx_dt dd_J1_equals_b5fdf 10 rfl) (by decide) (fun q => absurd q (nI_ge (b := m) hi (by omega))) (fun _ => ?_)
    refine sw_aload_n O (xx_dt dd_J1_equals_b5fdf 11 rfl) rfl ?_
    refine sw_iload_n O (xx_dt dd_J1_equals_b5fdf 12 rfl) rfl ?_
    refine sw_baload (v := .int z) O (xx_dt dd_J1_equals_b5fdf 13 rfl) hu (pk_in i _ (by omega)) (by rw [nI_clamp (by omega)]; exact ez) ?_
    refine sw_aload_n O (xx_dt dd_J1_equals_b5fdf 14 rfl) rfl ?_
    refine sw_iload_n O (xx_dt dd_J1_equals_b5fdf 15 rfl) rfl ?_
    refine sw_baload (v := .int z) O (xx_dt dd_J1_equals_b5fdf 16 rfl) hv (pk_in i _ (by omega)) (by rw [nI_clamp (by omega)]; exact (he i hi).symm.trans ez) ?_
    refine sw_icmp_eq (tgt := 26) O (xx_dt dd_J1_equals_b5fdf 17 rfl) (by decide) (fun _ => ?_) (fun q => absurd rfl q)
    refine sw_iinc (y := nI (i + 1)) (ls2 := [.ref u, .ref u2, .int (nI (i + 1))]) O (xx_dt dd_J1_equals_b5fdf 20 rfl) rfl (nI_1 _) (by decide) rfl ?_
    refine sw_goto (tgt := 9) O (xx_dt dd_J1_equals_b5fdf 21 rfl) (by decide) ?_
    exact kk
  · refine sw_iload_n O (xx_dt dd_J1_equals_b5fdf 7 rfl) rfl ?_
    refine sw_aload_n O (xx_dt dd_J1_equals_b5fdf 8 rfl) rfl ?_
    refine sw_alen (t := 102) O (xx_dt dd_J1_equals_b5fdf 9 rfl) (by omega) (by omega) hu ?_
    refine sw_icmp_ge (tgt := 32) O (xx_dt dd_J1_equals_b5fdf 10 rfl) (by decide) (fun _ => ?_) (fun q => absurd (Int32.le_refl _) q)
    refine sw_iconst (x := 1) O (xx_dt dd_J1_equals_b5fdf 22 rfl) (by decide) ?_
    exact sw_iret O (xx_dt dd_J1_equals_b5fdf 23 rfl) rfl rfl (by rw [hQ]; exact ⟨rfl, rfl⟩)
theorem tx_equals {l : Launch} {h : XH} (hl : l.stackTraces = false) {t u m t2 u2 : Nat} {F F2 : Nat → Value} (ht : xx_tx h t u m F) (ht2 : xx_tx h t2 u2 m F2) (h1 : 1000 ≤ t) (h2 : 1000 ≤ t2) (hne : t ≠ t2) (he : ∀ j, j < m → F j = F2 j) : XEx l m_J0_equals_9ea2d 1 0 0 [.ref t, .ref t2] (h) (some (.int 1)) (h) := by
  refine XMet.of hl rfl rfl (Nat.le_of_ble_eq_true rfl) (fun Y O hh hQ => ?_)
  obtain ⟨⟨f9, hf, hf0, hf1⟩, hu, hF, hm⟩ := ht
  obtain ⟨⟨g9, hg, hg0, hg1⟩, hv, -, -⟩ := ht2
  show SW Y 0 0 (h) 0 [.ref t, .ref t2, xx_d] []
  refine sw_aload_n O (xx_dt dd_J0_equals_9ea2d 0 rfl) rfl ?_
  refine sw_aload_n O (xx_dt dd_J0_equals_9ea2d 1 rfl) rfl ?_
  refine sw_acmp_neN (tgt := 7) O (xx_dt dd_J0_equals_9ea2d 2 rfl) (by decide) hf hg h1 h2 hne ?_
  refine sw_aload_n O (xx_dt dd_J0_equals_9ea2d 5 rfl) rfl ?_
  refine sw_instO O (xx_dt dd_J0_equals_9ea2d 6 rfl) cl_J0 hg cw_J0_10 ?_
  refine sw_if_eq (tgt := 54) O (xx_dt dd_J0_equals_9ea2d 7 rfl) (by decide) (fun q => absurd q (by decide)) (fun _ => ?_)
  refine sw_aload_n O (xx_dt dd_J0_equals_9ea2d 8 rfl) rfl ?_
  refine sw_castO O (xx_dt dd_J0_equals_9ea2d 9 rfl) cl_J0 hg cw_J0_10 ?_
  refine sw_astore_n (ls2 := [.ref t, .ref t2, .ref t2]) O (xx_dt dd_J0_equals_9ea2d 10 rfl) (by decide) rfl ?_
  refine sw_gets (i := 0) (z := 1) O (xx_dt dd_J0_equals_9ea2d 11 rfl) rfl gs_J0_38 ?_
  refine sw_if_eq (tgt := 36) O (xx_dt dd_J0_equals_9ea2d 12 rfl) (by decide) (fun q => absurd q (by decide)) (fun _ => ?_)
  refine sw_aload_n O (xx_dt dd_J0_equals_9ea2d 13 rfl) rfl ?_
  refine sw_get (v := .int 0) O (xx_dt dd_J0_equals_9ea2d 14 rfl) cl_J0 fl_J0_15 hf (by decide) hf1 ?_
  refine sw_aload_n O (xx_dt dd_J0_equals_9ea2d 15 rfl) rfl ?_
  refine sw_get (v := .int 0) O (xx_dt dd_J0_equals_9ea2d 16 rfl) cl_J0 fl_J0_15 hg (by decide) hg1 ?_
  refine sw_icmp_ne (tgt := 54) O (xx_dt dd_J0_equals_9ea2d 17 rfl) (by decide) (fun q => absurd rfl q) (fun _ => ?_)
  refine sw_aload_n O (xx_dt dd_J0_equals_9ea2d 18 rfl) rfl ?_
  refine sw_get (v := .ref u) O (xx_dt dd_J0_equals_9ea2d 19 rfl) cl_J0 fl_J0_9 hf (by decide) hf0 ?_
  refine sw_aload_n O (xx_dt dd_J0_equals_9ea2d 20 rfl) rfl ?_
  refine sw_get (v := .ref u2) O (xx_dt dd_J0_equals_9ea2d 21 rfl) cl_J0 fl_J0_9 hg (by decide) hg0 ?_
  refine sw_callSx (as := [.ref u, .ref u2]) (st := []) (st2 := [.int 1]) O (tx_eqL hl hu hv hF he hm) ce_J1_equals_b5fdf ml_J0_541 st_J1_equals_b5fdf (xx_dt dd_J0_equals_9ea2d 22 rfl) (by decide) rfl rfl (Nat.le_of_ble_eq_true rfl) rfl ?_
  refine sw_if_eq (tgt := 54) O (xx_dt dd_J0_equals_9ea2d 23 rfl) (by decide) (fun q => absurd q (by decide)) (fun _ => ?_)
  refine sw_iconst (x := 1) O (xx_dt dd_J0_equals_9ea2d 24 rfl) (by decide) ?_
  refine sw_goto (tgt := 55) O (xx_dt dd_J0_equals_9ea2d 25 rfl) (by decide) ?_
  exact sw_iret O (xx_dt dd_J0_equals_9ea2d 27 rfl) rfl rfl (by rw [hQ]; exact ⟨rfl, rfl⟩)
