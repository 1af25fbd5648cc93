/-! ===== fields of the JDK, inherited ones too ===== -/
theorem ct_J2_20 : Cond.constant RJ2 20 (1073741823 : Int32) ∈ xx_gws := (gv_J _ (List.mem_of_getElem? (i := 24) rfl))
theorem f2_J5_15 : xx_fl2 RJ5 15 "java/lang/AbstractStringBuilder" TJ4 0 := ⟨Or.inl (gv_J _ (List.mem_of_getElem? (i := 25) rfl)), Or.inl rfl⟩
theorem f2_J5_22 : xx_fl2 RJ5 22 "java/lang/AbstractStringBuilder" TJ4 1 := ⟨Or.inl (gv_J _ (List.mem_of_getElem? (i := 26) rfl)), Or.inl rfl⟩
theorem f2_J5_73 : xx_fl2 RJ5 73 "java/lang/AbstractStringBuilder" TJ4 2 := ⟨Or.inl (gv_J _ (List.mem_of_getElem? (i := 27) rfl)), Or.inl rfl⟩
theorem f2_J0_1048 : xx_fl2 RJ0 1048 "java/lang/AbstractStringBuilder" TJ4 2 := ⟨Or.inl (gv_J _ (List.mem_of_getElem? (i := 28) rfl)), Or.inl rfl⟩
theorem f2_J5_79 : xx_fl2 RJ5 79 "java/lang/AbstractStringBuilder" TJ4 3 := ⟨Or.inl (gv_J _ (List.mem_of_getElem? (i := 29) rfl)), Or.inl rfl⟩
theorem ct_J8_200 : Cond.constant RJ8 200 (2147483639 : Int32) ∈ xx_gws := (gv_J _ (List.mem_of_getElem? (i := 43) rfl))
theorem ct_J5_39 : Cond.constant RJ5 39 (2147483647 : Int32) ∈ xx_gws := (gv_J _ (List.mem_of_getElem? (i := 45) rfl))
theorem f2_Jx35411_28 : xx_fl2 RJx35411 28 "java/util/ArrayList" TJx4a65c 2 := ⟨Or.inr ⟨"java/util/ArrayList", xx_nl_ok _ (List.mem_of_getElem? (i := 7) rfl)⟩, Or.inl rfl⟩
theorem f2_Jxc12de_7 : xx_fl2 RJxc12de 7 "java/util/AbstractList" TJx4a65c 0 := ⟨Or.inl (gv_J _ (List.mem_of_getElem? (i := 146) rfl)), Or.inl rfl⟩
theorem f2_Jx35411_17 : xx_fl2 RJx35411 17 "java/util/ArrayList" TJx4a65c 0 := ⟨Or.inl (gv_J _ (List.mem_of_getElem? (i := 147) rfl)), Or.inr (gv_J _ (List.mem_of_getElem? (i := 148) rfl))⟩
theorem f2_Jx4a65c_63 : xx_fl2 RJx4a65c 63 "java/util/ArrayList" TJx4a65c 0 := ⟨Or.inl (gv_J _ (List.mem_of_getElem? (i := 149) rfl)), Or.inr (gv_J _ (List.mem_of_getElem? (i := 148) rfl))⟩
theorem gcw_sel : Cond.selects "[Ljava/lang/Object;" ⟨"java/lang/Object", "getClass", "()Ljava/lang/Class;"⟩ ⟨"java/lang/Object", "getClass", "()Ljava/lang/Class;"⟩ ∈ xx_gws := (gv_J _ (List.mem_of_getElem? (i := 207) rfl))
theorem gcw_ins : Cond.instanceMethod ⟨"java/lang/Object", "getClass", "()Ljava/lang/Class;"⟩ ∈ xx_gws := (gv_J _ (List.mem_of_getElem? (i := 157) rfl))
theorem gcw_nat : Cond.native ⟨"java/lang/Object", "getClass", "()Ljava/lang/Class;"⟩ ∈ xx_gws := (gv_J _ (List.mem_of_getElem? (i := 158) rfl))
theorem gcw_dec : Cond.declares ⟨"java/lang/Object", "getClass", "()Ljava/lang/Class;"⟩ ∈ xx_nws := xx_dcl_ok _ (List.mem_of_getElem? (i := 4) rfl)
