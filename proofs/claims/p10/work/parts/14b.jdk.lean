/-! ===== methods of the JDK that the class calls ===== -/
def f_bitCount (x : Int32) : Int32 := (((((((x - (((Int32.toUInt32 x >>> (Int32.toUInt32 1 &&& Int32.toUInt32 31)).toInt32) &&& 1431655765)) &&& 858993459) + (((Int32.toUInt32 (x - (((Int32.toUInt32 x >>> (Int32.toUInt32 1 &&& Int32.toUInt32 31)).toInt32) &&& 1431655765)) >>> (Int32.toUInt32 2 &&& Int32.toUInt32 31)).toInt32) &&& 858993459)) + ((Int32.toUInt32 (((x - (((Int32.toUInt32 x >>> (Int32.toUInt32 1 &&& Int32.toUInt32 31)).toInt32) &&& 1431655765)) &&& 858993459) + (((Int32.toUInt32 (x - (((Int32.toUInt32 x >>> (Int32.toUInt32 1 &&& Int32.toUInt32 31)).toInt32) &&& 1431655765)) >>> (Int32.toUInt32 2 &&& Int32.toUInt32 31)).toInt32) &&& 858993459)) >>> (Int32.toUInt32 4 &&& Int32.toUInt32 31)).toInt32)) &&& 252645135) + ((Int32.toUInt32 (((((x - (((Int32.toUInt32 x >>> (Int32.toUInt32 1 &&& Int32.toUInt32 31)).toInt32) &&& 1431655765)) &&& 858993459) + (((Int32.toUInt32 (x - (((Int32.toUInt32 x >>> (Int32.toUInt32 1 &&& Int32.toUInt32 31)).toInt32) &&& 1431655765)) >>> (Int32.toUInt32 2 &&& Int32.toUInt32 31)).toInt32) &&& 858993459)) + ((Int32.toUInt32 (((x - (((Int32.toUInt32 x >>> (Int32.toUInt32 1 &&& Int32.toUInt32 31)).toInt32) &&& 1431655765)) &&& 858993459) + (((Int32.toUInt32 (x - (((Int32.toUInt32 x >>> (Int32.toUInt32 1 &&& Int32.toUInt32 31)).toInt32) &&& 1431655765)) >>> (Int32.toUInt32 2 &&& Int32.toUInt32 31)).toInt32) &&& 858993459)) >>> (Int32.toUInt32 4 &&& Int32.toUInt32 31)).toInt32)) &&& 252645135) >>> (Int32.toUInt32 8 &&& Int32.toUInt32 31)).toInt32)) + ((Int32.toUInt32 ((((((x - (((Int32.toUInt32 x >>> (Int32.toUInt32 1 &&& Int32.toUInt32 31)).toInt32) &&& 1431655765)) &&& 858993459) + (((Int32.toUInt32 (x - (((Int32.toUInt32 x >>> (Int32.toUInt32 1 &&& Int32.toUInt32 31)).toInt32) &&& 1431655765)) >>> (Int32.toUInt32 2 &&& Int32.toUInt32 31)).toInt32) &&& 858993459)) + ((Int32.toUInt32 (((x - (((Int32.toUInt32 x >>> (Int32.toUInt32 1 &&& Int32.toUInt32 31)).toInt32) &&& 1431655765)) &&& 858993459) + (((Int32.toUInt32 (x - (((Int32.toUInt32 x >>> (Int32.toUInt32 1 &&& Int32.toUInt32 31)).toInt32) &&& 1431655765)) >>> (Int32.toUInt32 2 &&& Int32.toUInt32 31)).toInt32) &&& 858993459)) >>> (Int32.toUInt32 4 &&& Int32.toUInt32 31)).toInt32)) &&& 252645135) + ((Int32.toUInt32 (((((x - (((Int32.toUInt32 x >>> (Int32.toUInt32 1 &&& Int32.toUInt32 31)).toInt32) &&& 1431655765)) &&& 858993459) + (((Int32.toUInt32 (x - (((Int32.toUInt32 x >>> (Int32.toUInt32 1 &&& Int32.toUInt32 31)).toInt32) &&& 1431655765)) >>> (Int32.toUInt32 2 &&& Int32.toUInt32 31)).toInt32) &&& 858993459)) + ((Int32.toUInt32 (((x - (((Int32.toUInt32 x >>> (Int32.toUInt32 1 &&& Int32.toUInt32 31)).toInt32) &&& 1431655765)) &&& 858993459) + (((Int32.toUInt32 (x - (((Int32.toUInt32 x >>> (Int32.toUInt32 1 &&& Int32.toUInt32 31)).toInt32) &&& 1431655765)) >>> (Int32.toUInt32 2 &&& Int32.toUInt32 31)).toInt32) &&& 858993459)) >>> (Int32.toUInt32 4 &&& Int32.toUInt32 31)).toInt32)) &&& 252645135) >>> (Int32.toUInt32 8 &&& Int32.toUInt32 31)).toInt32)) >>> (Int32.toUInt32 16 &&& Int32.toUInt32 31)).toInt32)) &&& 63
theorem ct_J6_bitCount_0f7a4 {l : Launch} {h : XH} (hl : l.stackTraces = false) {x : Int32} : XEx l m_J6_bitCount_0f7a4 0 0 0 [.int x] (h) (some (.int (f_bitCount x))) (h) := by
  refine XMet.of hl rfl rfl (Nat.le_of_ble_eq_true rfl) (fun Y O hh hQ => ?_)
  show SW Y 0 0 (h) 0 [.int x] []
  refine sw_iload_n O (xx_dt dd_J6_bitCount_0f7a4 0 rfl) rfl ?_
  refine sw_iload_n O (xx_dt dd_J6_bitCount_0f7a4 1 rfl) rfl ?_
  refine sw_iconst (x := 1) O (xx_dt dd_J6_bitCount_0f7a4 2 rfl) (by decide) ?_
  refine sw_iushr O (xx_dt dd_J6_bitCount_0f7a4 3 rfl) ?_
  refine sw_ldcw O ct_J6_265 (xx_dt dd_J6_bitCount_0f7a4 4 rfl) ?_
  refine sw_iand O (xx_dt dd_J6_bitCount_0f7a4 5 rfl) ?_
  refine sw_isub O (xx_dt dd_J6_bitCount_0f7a4 6 rfl) ?_
  refine sw_istore_n (ls2 := [.int (x - (((Int32.toUInt32 x >>> (Int32.toUInt32 1 &&& Int32.toUInt32 31)).toInt32) &&& 1431655765))]) O (xx_dt dd_J6_bitCount_0f7a4 7 rfl) (by decide) rfl ?_
  refine sw_iload_n O (xx_dt dd_J6_bitCount_0f7a4 8 rfl) rfl ?_
  refine sw_ldcw O ct_J6_266 (xx_dt dd_J6_bitCount_0f7a4 9 rfl) ?_
  refine sw_iand O (xx_dt dd_J6_bitCount_0f7a4 10 rfl) ?_
  refine sw_iload_n O (xx_dt dd_J6_bitCount_0f7a4 11 rfl) rfl ?_
  refine sw_iconst (x := 2) O (xx_dt dd_J6_bitCount_0f7a4 12 rfl) (by decide) ?_
  refine sw_iushr O (xx_dt dd_J6_bitCount_0f7a4 13 rfl) ?_
  refine sw_ldcw O ct_J6_266 (xx_dt dd_J6_bitCount_0f7a4 14 rfl) ?_
  refine sw_iand O (xx_dt dd_J6_bitCount_0f7a4 15 rfl) ?_
  refine sw_iadd O (xx_dt dd_J6_bitCount_0f7a4 16 rfl) ?_
  refine sw_istore_n (ls2 := [.int (((x - (((Int32.toUInt32 x >>> (Int32.toUInt32 1 &&& Int32.toUInt32 31)).toInt32) &&& 1431655765)) &&& 858993459) + (((Int32.toUInt32 (x - (((Int32.toUInt32 x >>> (Int32.toUInt32 1 &&& Int32.toUInt32 31)).toInt32) &&& 1431655765)) >>> (Int32.toUInt32 2 &&& Int32.toUInt32 31)).toInt32) &&& 858993459))]) O (xx_dt dd_J6_bitCount_0f7a4 17 rfl) (by decide) rfl ?_
  refine sw_iload_n O (xx_dt dd_J6_bitCount_0f7a4 18 rfl) rfl ?_
  refine sw_iload_n O (xx_dt dd_J6_bitCount_0f7a4 19 rfl) rfl ?_
  refine sw_iconst (x := 4) O (xx_dt dd_J6_bitCount_0f7a4 20 rfl) (by decide) ?_
  refine sw_iushr O (xx_dt dd_J6_bitCount_0f7a4 21 rfl) ?_
  refine sw_iadd O (xx_dt dd_J6_bitCount_0f7a4 22 rfl) ?_
  refine sw_ldcw O ct_J6_267 (xx_dt dd_J6_bitCount_0f7a4 23 rfl) ?_
  refine sw_iand O (xx_dt dd_J6_bitCount_0f7a4 24 rfl) ?_
  refine sw_istore_n (ls2 := [.int (((((x - (((Int32.toUInt32 x >>> (Int32.toUInt32 1 &&& Int32.toUInt32 31)).toInt32) &&& 1431655765)) &&& 858993459) + (((Int32.toUInt32 (x - (((Int32.toUInt32 x >>> (Int32.toUInt32 1 &&& Int32.toUInt32 31)).toInt32) &&& 1431655765)) >>> (Int32.toUInt32 2 &&& Int32.toUInt32 31)).toInt32) &&& 858993459)) + ((Int32.toUInt32 (((x - (((Int32.toUInt32 x >>> (Int32.toUInt32 1 &&& Int32.toUInt32 31)).toInt32) &&& 1431655765)) &&& 858993459) + (((Int32.toUInt32 (x - (((Int32.toUInt32 x >>> (Int32.toUInt32 1 &&& Int32.toUInt32 31)).toInt32) &&& 1431655765)) >>> (Int32.toUInt32 2 &&& Int32.toUInt32 31)).toInt32) &&& 858993459)) >>> (Int32.toUInt32 4 &&& Int32.toUInt32 31)).toInt32)) &&& 252645135)]) O (xx_dt dd_J6_bitCount_0f7a4 25 rfl) (by decide) rfl ?_
  refine sw_iload_n O (xx_dt dd_J6_bitCount_0f7a4 26 rfl) rfl ?_
  refine sw_iload_n O (xx_dt dd_J6_bitCount_0f7a4 27 rfl) rfl ?_
  refine sw_bipush (x := 8) O (xx_dt dd_J6_bitCount_0f7a4 28 rfl) (by decide) ?_
  refine sw_iushr O (xx_dt dd_J6_bitCount_0f7a4 29 rfl) ?_
  refine sw_iadd O (xx_dt dd_J6_bitCount_0f7a4 30 rfl) ?_
  refine sw_istore_n (ls2 := [.int ((((((x - (((Int32.toUInt32 x >>> (Int32.toUInt32 1 &&& Int32.toUInt32 31)).toInt32) &&& 1431655765)) &&& 858993459) + (((Int32.toUInt32 (x - (((Int32.toUInt32 x >>> (Int32.toUInt32 1 &&& Int32.toUInt32 31)).toInt32) &&& 1431655765)) >>> (Int32.toUInt32 2 &&& Int32.toUInt32 31)).toInt32) &&& 858993459)) + ((Int32.toUInt32 (((x - (((Int32.toUInt32 x >>> (Int32.toUInt32 1 &&& Int32.toUInt32 31)).toInt32) &&& 1431655765)) &&& 858993459) + (((Int32.toUInt32 (x - (((Int32.toUInt32 x >>> (Int32.toUInt32 1 &&& Int32.toUInt32 31)).toInt32) &&& 1431655765)) >>> (Int32.toUInt32 2 &&& Int32.toUInt32 31)).toInt32) &&& 858993459)) >>> (Int32.toUInt32 4 &&& Int32.toUInt32 31)).toInt32)) &&& 252645135) + ((Int32.toUInt32 (((((x - (((Int32.toUInt32 x >>> (Int32.toUInt32 1 &&& Int32.toUInt32 31)).toInt32) &&& 1431655765)) &&& 858993459) + (((Int32.toUInt32 (x - (((Int32.toUInt32 x >>> (Int32.toUInt32 1 &&& Int32.toUInt32 31)).toInt32) &&& 1431655765)) >>> (Int32.toUInt32 2 &&& Int32.toUInt32 31)).toInt32) &&& 858993459)) + ((Int32.toUInt32 (((x - (((Int32.toUInt32 x >>> (Int32.toUInt32 1 &&& Int32.toUInt32 31)).toInt32) &&& 1431655765)) &&& 858993459) + (((Int32.toUInt32 (x - (((Int32.toUInt32 x >>> (Int32.toUInt32 1 &&& Int32.toUInt32 31)).toInt32) &&& 1431655765)) >>> (Int32.toUInt32 2 &&& Int32.toUInt32 31)).toInt32) &&& 858993459)) >>> (Int32.toUInt32 4 &&& Int32.toUInt32 31)).toInt32)) &&& 252645135) >>> (Int32.toUInt32 8 &&& Int32.toUInt32 31)).toInt32))]) O (xx_dt dd_J6_bitCount_0f7a4 31 rfl) (by decide) rfl ?_
  refine sw_iload_n O (xx_dt dd_J6_bitCount_0f7a4 32 rfl) rfl ?_
  refine sw_iload_n O (xx_dt dd_J6_bitCount_0f7a4 33 rfl) rfl ?_
  refine sw_bipush (x := 16) O (xx_dt dd_J6_bitCount_0f7a4 34 rfl) (by decide) ?_
  refine sw_iushr O (xx_dt dd_J6_bitCount_0f7a4 35 rfl) ?_
  refine sw_iadd O (xx_dt dd_J6_bitCount_0f7a4 36 rfl) ?_
  refine sw_istore_n (ls2 := [.int (((((((x - (((Int32.toUInt32 x >>> (Int32.toUInt32 1 &&& Int32.toUInt32 31)).toInt32) &&& 1431655765)) &&& 858993459) + (((Int32.toUInt32 (x - (((Int32.toUInt32 x >>> (Int32.toUInt32 1 &&& Int32.toUInt32 31)).toInt32) &&& 1431655765)) >>> (Int32.toUInt32 2 &&& Int32.toUInt32 31)).toInt32) &&& 858993459)) + ((Int32.toUInt32 (((x - (((Int32.toUInt32 x >>> (Int32.toUInt32 1 &&& Int32.toUInt32 31)).toInt32) &&& 1431655765)) &&& 858993459) + (((Int32.toUInt32 (x - (((Int32.toUInt32 x >>> (Int32.toUInt32 1 &&& Int32.toUInt32 31)).toInt32) &&& 1431655765)) >>> (Int32.toUInt32 2 &&& Int32.toUInt32 31)).toInt32) &&& 858993459)) >>> (Int32.toUInt32 4 &&& Int32.toUInt32 31)).toInt32)) &&& 252645135) + ((Int32.toUInt32 (((((x - (((Int32.toUInt32 x >>> (Int32.toUInt32 1 &&& Int32.toUInt32 31)).toInt32) &&& 1431655765)) &&& 858993459) + (((Int32.toUInt32 (x - (((Int32.toUInt32 x >>> (Int32.toUInt32 1 &&& Int32.toUInt32 31)).toInt32) &&& 1431655765)) >>> (Int32.toUInt32 2 &&& Int32.toUInt32 31)).toInt32) &&& 858993459)) + ((Int32.toUInt32 (((x - (((Int32.toUInt32 x >>> (Int32.toUInt32 1 &&& Int32.toUInt32 31)).toInt32) &&& 1431655765)) &&& 858993459) + (((Int32.toUInt32 (x - (((Int32.toUInt32 x >>> (Int32.toUInt32 1 &&& Int32.toUInt32 31)).toInt32) &&& 1431655765)) >>> (Int32.toUInt32 2 &&& Int32.toUInt32 31)).toInt32) &&& 858993459)) >>> (Int32.toUInt32 4 &&& Int32.toUInt32 31)).toInt32)) &&& 252645135) >>> (Int32.toUInt32 8 &&& Int32.toUInt32 31)).toInt32)) + ((Int32.toUInt32 ((((((x - (((Int32.toUInt32 x >>> (Int32.toUInt32 1 &&& Int32.toUInt32 31)).toInt32) &&& 1431655765)) &&& 858993459) + (((Int32.toUInt32 (x - (((Int32.toUInt32 x >>> (Int32.toUInt32 1 &&& Int32.toUInt32 31)).toInt32) &&& 1431655765)) >>> (Int32.toUInt32 2 &&& Int32.toUInt32 31)).toInt32) &&& 858993459)) + ((Int32.toUInt32 (((x - (((Int32.toUInt32 x >>> (Int32.toUInt32 1 &&& Int32.toUInt32 31)).toInt32) &&& 1431655765)) &&& 858993459) + (((Int32.toUInt32 (x - (((Int32.toUInt32 x >>> (Int32.toUInt32 1 &&& Int32.toUInt32 31)).toInt32) &&& 1431655765)) >>> (Int32.toUInt32 2 &&& Int32.toUInt32 31)).toInt32) &&& 858993459)) >>> (Int32.toUInt32 4 &&& Int32.toUInt32 31)).toInt32)) &&& 252645135) + ((Int32.toUInt32 (((((x - (((Int32.toUInt32 x >>> (Int32.toUInt32 1 &&& Int32.toUInt32 31)).toInt32) &&& 1431655765)) &&& 858993459) + (((Int32.toUInt32 (x - (((Int32.toUInt32 x >>> (Int32.toUInt32 1 &&& Int32.toUInt32 31)).toInt32) &&& 1431655765)) >>> (Int32.toUInt32 2 &&& Int32.toUInt32 31)).toInt32) &&& 858993459)) + ((Int32.toUInt32 (((x - (((Int32.toUInt32 x >>> (Int32.toUInt32 1 &&& Int32.toUInt32 31)).toInt32) &&& 1431655765)) &&& 858993459) + (((Int32.toUInt32 (x - (((Int32.toUInt32 x >>> (Int32.toUInt32 1 &&& Int32.toUInt32 31)).toInt32) &&& 1431655765)) >>> (Int32.toUInt32 2 &&& Int32.toUInt32 31)).toInt32) &&& 858993459)) >>> (Int32.toUInt32 4 &&& Int32.toUInt32 31)).toInt32)) &&& 252645135) >>> (Int32.toUInt32 8 &&& Int32.toUInt32 31)).toInt32)) >>> (Int32.toUInt32 16 &&& Int32.toUInt32 31)).toInt32))]) O (xx_dt dd_J6_bitCount_0f7a4 37 rfl) (by decide) rfl ?_
  refine sw_iload_n O (xx_dt dd_J6_bitCount_0f7a4 38 rfl) rfl ?_
  refine sw_bipush (x := 63) O (xx_dt dd_J6_bitCount_0f7a4 39 rfl) (by decide) ?_
  refine sw_iand O (xx_dt dd_J6_bitCount_0f7a4 40 rfl) ?_
  exact sw_iret O (xx_dt dd_J6_bitCount_0f7a4 41 rfl) rfl rfl (by rw [hQ]; exact ⟨by unfold f_bitCount; rfl, rfl⟩)
def x_fill_5 (σ : XS9) (a n : Nat) (x : Int32) (s0 : XS9) : XS9 := xit (fun i5 s5 => u2 s5 a i5 x) n 0 s0
def g_fill (σ : XS9) (a n : Nat) (x : Int32) : XS9 := (x_fill_5 σ a n x σ)
theorem ct_J7_fill_53178 {l : Launch} {h : XH} (hl : l.stackTraces = false) {σ : XS9} {a n : Nat} {x : Int32} (hA : isA a n) (hn : n < 1000) : XEx l m_J7_fill_53178 0 0 0 [.ref a, .int x] (setC σ h) (none) (setC (g_fill σ a n x) h) := by
  refine XMet.of hl rfl rfl (Nat.le_of_ble_eq_true rfl) (fun Y O hh hQ => ?_)
  show SW Y 0 0 (setC σ h) 0 [.ref a, .int x, xx_d, xx_d] []
  refine sw_iconst (x := 0) O (xx_dt dd_J7_fill_53178 0 rfl) (by decide) ?_
  refine sw_istore_n (ls2 := [.ref a, .int x, .int 0, xx_d]) O (xx_dt dd_J7_fill_53178 1 rfl) (by decide) rfl ?_
  refine sw_aload_n O (xx_dt dd_J7_fill_53178 2 rfl) rfl ?_
  refine sw_alen O (xx_dt dd_J7_fill_53178 3 rfl) (by omega) (by omega) ((hA.get _ _)) ?_
  refine sw_istore_n (ls2 := [.ref a, .int x, .int 0, .int (nI n)]) O (xx_dt dd_J7_fill_53178 4 rfl) (by decide) rfl ?_
  refine sw_for (fun i5 s5 => u2 s5 a i5 x) (fun _ _ => True) (hp := fun s5 => setC s5 h) (hd := 5) (lc := fun i5 s5 => [.ref a, .int x, .int (nI i5), .int (nI n)]) (N := n) (fun i5 s5 hi5 hP5 => ⟨trivial, fun kk5 => ?_⟩) n 0 σ (by omega) (trivial) (fun hP5 => ?_)
  · refine sw_iload_n O (xx_dt dd_J7_fill_53178 5 rfl) rfl ?_
    refine sw_iload_n O (xx_dt dd_J7_fill_53178 6 rfl) rfl ?_
    refine sw_icmp_ge (tgt := 20) O (xx_dt dd_J7_fill_53178 7 rfl) (by decide) (fun q1 => ?_) (fun q1 => ?_)
    · exact absurd q1 (nI_ge (b := n) hi5 (by omega))
    · refine sw_aload_n O (xx_dt dd_J7_fill_53178 8 rfl) rfl ?_
      refine sw_iload_n O (xx_dt dd_J7_fill_53178 9 rfl) rfl ?_
      refine sw_iload_n O (xx_dt dd_J7_fill_53178 10 rfl) rfl ?_
      refine sw_iastore (h2 := setC (u2 s5 a i5 x) h) O (xx_dt dd_J7_fill_53178 11 rfl) ((hA.get _ _)) (pk_in i5 _ (by omega)) hA.1.1 (by rw [nI_clamp (by omega)]; exact hA.put) ?_
      refine sw_iinc (y := nI (i5 + 1)) (ls2 := [.ref a, .int x, .int (nI (i5 + 1)), .int (nI n)]) O (xx_dt dd_J7_fill_53178 12 rfl) rfl (nI_1 _) (by decide) rfl ?_
      refine sw_goto (tgt := 5) O (xx_dt dd_J7_fill_53178 13 rfl) (by decide) ?_
      exact kk5
  · show SW Y _ _ (setC (x_fill_5 σ a n x σ) h) 5 [.ref a, .int x, .int (nI n), .int (nI n)] []
    refine sw_iload_n O (xx_dt dd_J7_fill_53178 5 rfl) rfl ?_
    refine sw_iload_n O (xx_dt dd_J7_fill_53178 6 rfl) rfl ?_
    refine sw_icmp_ge (tgt := 20) O (xx_dt dd_J7_fill_53178 7 rfl) (by decide) (fun q1 => ?_) (fun q1 => ?_)
    · exact sw_ret O (xx_dt dd_J7_fill_53178 14 rfl) rfl (by rw [hQ]; exact ⟨rfl, by unfold g_fill; rfl⟩)
    · exact absurd (Int32.le_refl _) q1
theorem fr_fill {σ : XS9} {a n : Nat} {x : Int32} {q : Nat} (h : q ≠ a) : g_fill σ a n x q = σ q := by
  unfold g_fill x_fill_5
  exact xit_keep (fun s : XS9 => s q) (fun i s => u2_ne h) _ _ _
