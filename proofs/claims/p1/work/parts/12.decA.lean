/-! ===== decode tables of the class ===== -/
theorem xx_dt {c : ByteArray} {dt : List (Nat × Instr × Nat)} (h : ∀ q ∈ dt, decode c q.1 = .ok q.2) (i : Nat) {pc : Nat} {ins : Instr} {len : Nat} (e : dt[i]? = some (pc, ins, len)) : decode c pc = .ok (ins, len) := h (pc, ins, len) (List.mem_of_getElem? e)
noncomputable def dt_X0_many : List (Nat × Instr × Nat) := [(0, .iload_n 0, 1), (1, .istore_n 2, 1), (2, .iconst 0, 1), (3, .istore_n 3, 1), (4, .iload_n 3, 1), (5, .iload_n 1, 1), (6, .if_icmp .ge 14, 3), (9, .iload_n 2, 1), (10, .bipush 6, 2), (12, .idiv, 1), (13, .istore_n 2, 1), (14, .iinc 3 1, 3), (17, .goto (-13), 3), (20, .iload_n 2, 1), (21, .bipush 6, 2), (23, .irem, 1), (24, .ireturn, 1)]
theorem dd_X0_many : ∀ q ∈ dt_X0_many, decode cX0_many q.1 = .ok q.2 := by
  first
  | (refine dw_all ?_; decide +kernel)
  | decide +kernel
noncomputable def dt_X0_replaced : List (Nat × Instr × Nat) := [(0, .iconst 1, 1), (1, .istore_n 3, 1), (2, .iconst 0, 1), (3, .istore 4, 2), (5, .iload 4, 2), (7, .iload_n 1, 1), (8, .if_icmp .ge 14, 3), (11, .iload_n 3, 1), (12, .bipush 6, 2), (14, .imul, 1), (15, .istore_n 3, 1), (16, .iinc 4 1, 3), (19, .goto (-14), 3), (22, .iload_n 0, 1), (23, .iload_n 2, 1), (24, .iload_n 0, 1), (25, .iload_n 1, 1), (26, .invokestatic 9, 3), (29, .isub, 1), (30, .iload_n 3, 1), (31, .imul, 1), (32, .iadd, 1), (33, .ireturn, 1)]
theorem dd_X0_replaced : ∀ q ∈ dt_X0_replaced, decode cX0_replaced q.1 = .ok q.2 := by
  first
  | (refine dw_all ?_; decide +kernel)
  | decide +kernel
noncomputable def dt_X0_total : List (Nat × Instr × Nat) := [(0, .iload_n 0, 1), (1, .istore_n 2, 1), (2, .iconst 0, 1), (3, .istore_n 3, 1), (4, .iconst 0, 1), (5, .istore 4, 2), (7, .iload 4, 2), (9, .aload_n 1, 1), (10, .arraylength, 1), (11, .if_icmp .ge 26, 3), (14, .iload_n 3, 1), (15, .iload_n 2, 1), (16, .bipush 6, 2), (18, .irem, 1), (19, .aload_n 1, 1), (20, .iload 4, 2), (22, .iaload, 1), (23, .imul, 1), (24, .iadd, 1), (25, .istore_n 3, 1), (26, .iload_n 2, 1), (27, .bipush 6, 2), (29, .idiv, 1), (30, .istore_n 2, 1), (31, .iinc 4 1, 3), (34, .goto (-27), 3), (37, .iload_n 3, 1), (38, .ireturn, 1)]
theorem dd_X0_total : ∀ q ∈ dt_X0_total, decode cX0_total q.1 = .ok q.2 := by
  first
  | (refine dw_all ?_; decide +kernel)
  | decide +kernel
noncomputable def dt_X0_together : List (Nat × Instr × Nat) := [(0, .iconst 0, 1), (1, .istore_n 2, 1), (2, .iconst 0, 1), (3, .istore_n 3, 1), (4, .iload_n 3, 1), (5, .aload_n 0, 1), (6, .arraylength, 1), (7, .if_icmp .ge 19, 3), (10, .iload_n 2, 1), (11, .aload_n 0, 1), (12, .iload_n 3, 1), (13, .iaload, 1), (14, .iload_n 1, 1), (15, .invokestatic 9, 3), (18, .iadd, 1), (19, .istore_n 2, 1), (20, .iinc 3 1, 3), (23, .goto (-19), 3), (26, .iload_n 2, 1), (27, .ireturn, 1)]
theorem dd_X0_together : ∀ q ∈ dt_X0_together, decode cX0_together q.1 = .ok q.2 := by
  first
  | (refine dw_all ?_; decide +kernel)
  | decide +kernel
noncomputable def dt_X0_isWithin : List (Nat × Instr × Nat) := [(0, .iload_n 0, 1), (1, .istore_n 2, 1), (2, .iconst 0, 1), (3, .istore_n 3, 1), (4, .iload_n 3, 1), (5, .aload_n 1, 1), (6, .arraylength, 1), (7, .if_icmp .ge 26, 3), (10, .iload_n 2, 1), (11, .bipush 6, 2), (13, .irem, 1), (14, .aload_n 1, 1), (15, .iload_n 3, 1), (16, .iaload, 1), (17, .if_icmp .le 5, 3), (20, .iconst 0, 1), (21, .ireturn, 1), (22, .iload_n 2, 1), (23, .bipush 6, 2), (25, .idiv, 1), (26, .istore_n 2, 1), (27, .iinc 3 1, 3), (30, .goto (-26), 3), (33, .iconst 1, 1), (34, .ireturn, 1)]
theorem dd_X0_isWithin : ∀ q ∈ dt_X0_isWithin, decode cX0_isWithin q.1 = .ok q.2 := by
  first
  | (refine dw_all ?_; decide +kernel)
  | decide +kernel
noncomputable def dt_X0_dearer : List (Nat × Instr × Nat) := [(0, .iload_n 0, 1), (1, .istore 4, 2), (3, .iload_n 1, 1), (4, .istore 5, 2), (6, .iconst 0, 1), (7, .istore 6, 2), (9, .iconst 0, 1), (10, .istore 7, 2), (12, .iload 7, 2), (14, .aload_n 2, 1), (15, .arraylength, 1), (16, .if_icmp .ge 56, 3), (19, .iload 7, 2), (21, .aload_n 3, 1), (22, .arraylength, 1), (23, .if_icmp .ge 49, 3), (26, .iload 6, 2), (28, .aload_n 2, 1), (29, .iload 7, 2), (31, .iaload, 1), (32, .aload_n 3, 1), (33, .iload 7, 2), (35, .iaload, 1), (36, .isub, 1), (37, .iload 4, 2), (39, .bipush 6, 2), (41, .irem, 1), (42, .iload 5, 2), (44, .bipush 6, 2), (46, .irem, 1), (47, .isub, 1), (48, .imul, 1), (49, .iadd, 1), (50, .istore 6, 2), (52, .iload 4, 2), (54, .bipush 6, 2), (56, .idiv, 1), (57, .istore 4, 2), (59, .iload 5, 2), (61, .bipush 6, 2), (63, .idiv, 1), (64, .istore 5, 2), (66, .iinc 7 1, 3), (69, .goto (-57), 3), (72, .iload 6, 2), (74, .ireturn, 1)]
theorem dd_X0_dearer : ∀ q ∈ dt_X0_dearer, decode cX0_dearer q.1 = .ok q.2 := by
  first
  | (refine dw_all ?_; decide +kernel)
  | decide +kernel
noncomputable def dt_X1_init : List (Nat × Instr × Nat) := [(0, .aload_n 0, 1), (1, .invokespecial 3, 3), (4, .aload_n 0, 1), (5, .iconst 5, 1), (6, .newarray .int, 2), (8, .putfield 9, 3), (11, .aload_n 0, 1), (12, .bipush 6, 2), (14, .newarray .int, 2), (16, .putfield 15, 3), (19, .aload_n 0, 1), (20, .bipush 6, 2), (22, .newarray .int, 2), (24, .putfield 18, 3), (27, .aload_n 0, 1), (28, .bipush 6, 2), (30, .newarray .int, 2), (32, .putfield 21, 3), (35, .aload_n 0, 1), (36, .bipush 6, 2), (38, .newarray .int, 2), (40, .putfield 24, 3), (43, .aload_n 0, 1), (44, .bipush 6, 2), (46, .newarray .int, 2), (48, .putfield 27, 3), (51, .aload_n 0, 1), (52, .bipush 60, 2), (54, .iconst 5, 1), (55, .multianewarray 30 2, 4), (59, .putfield 32, 3), (62, .aload_n 0, 1), (63, .bipush 60, 2), (65, .bipush 6, 2), (67, .multianewarray 30 2, 4), (71, .putfield 35, 3), (74, .aload_n 0, 1), (75, .bipush 60, 2), (77, .bipush 6, 2), (79, .multianewarray 30 2, 4), (83, .putfield 38, 3), (86, .aload_n 0, 1), (87, .bipush 60, 2), (89, .newarray .int, 2), (91, .putfield 41, 3), (94, .aload_n 0, 1), (95, .bipush 60, 2), (97, .newarray .int, 2), (99, .putfield 44, 3), (102, .return_, 1)]
theorem dd_X1_init : ∀ q ∈ dt_X1_init, decode cX1_init q.1 = .ok q.2 := by
  first
  | (refine dw_all ?_; decide +kernel)
  | decide +kernel
noncomputable def dt_X1_begin : List (Nat × Instr × Nat) := [(0, .aload_n 1, 1), (1, .getfield 47, 3), (4, .iconst 0, 1), (5, .aload_n 0, 1), (6, .getfield 9, 3), (9, .iconst 0, 1), (10, .iconst 5, 1), (11, .invokestatic 52, 3), (14, .aload_n 1, 1), (15, .getfield 58, 3), (18, .iconst 0, 1), (19, .aload_n 0, 1), (20, .getfield 21, 3), (23, .iconst 0, 1), (24, .bipush 6, 2), (26, .invokestatic 52, 3), (29, .aload_n 0, 1), (30, .getfield 15, 3), (33, .iconst 0, 1), (34, .invokestatic 59, 3), (37, .aload_n 0, 1), (38, .getfield 18, 3), (41, .iconst 0, 1), (42, .invokestatic 59, 3), (45, .aload_n 0, 1), (46, .getfield 24, 3), (49, .iconst 2, 1), (50, .invokestatic 59, 3), (53, .aload_n 0, 1), (54, .getfield 27, 3), (57, .iconst 0, 1), (58, .invokestatic 59, 3), (61, .aload_n 0, 1), (62, .iconst 0, 1), (63, .putfield 65, 3), (66, .aload_n 0, 1), (67, .iconst 0, 1), (68, .putfield 69, 3), (71, .return_, 1)]
theorem dd_X1_begin : ∀ q ∈ dt_X1_begin, decode cX1_begin q.1 = .ok q.2 := by
  first
  | (refine dw_all ?_; decide +kernel)
  | decide +kernel
noncomputable def dt_X1_mayWish : List (Nat × Instr × Nat) := [(0, .aload_n 0, 1), (1, .getfield 18, 3), (4, .iload_n 2, 1), (5, .iaload, 1), (6, .istore 5, 2), (8, .iload 4, 2), (10, .iload 5, 2), (12, .iload_n 3, 1), (13, .invokestatic 72, 3), (16, .if_icmp .gt 5, 3), (19, .iconst 1, 1), (20, .ireturn, 1), (21, .iload 5, 2), (23, .iload_n 3, 1), (24, .iload 4, 2), (26, .invokestatic 78, 3), (29, .aload_n 1, 1), (30, .getfield 82, 3), (33, .invokestatic 85, 3), (36, .istore 6, 2), (38, .iload 4, 2), (40, .aload_n 1, 1), (41, .getfield 89, 3), (44, .iload_n 3, 1), (45, .iaload, 1), (46, .if_icmp .gt 35, 3), (49, .iload 6, 2), (51, .aload_n 0, 1), (52, .getfield 21, 3), (55, .iload_n 2, 1), (56, .iaload, 1), (57, .if_icmp .gt 24, 3), (60, .iload 4, 2), (62, .aload_n 0, 1), (63, .aload_n 1, 1), (64, .iload_n 2, 1), (65, .iload_n 3, 1), (66, .invokevirtual 92, 3), (69, .iadd, 1), (70, .aload_n 1, 1), (71, .getfield 96, 3), (74, .if_icmp .gt 7, 3), (77, .iconst 1, 1), (78, .goto 4, 3), (81, .iconst 0, 1), (82, .ireturn, 1)]
theorem dd_X1_mayWish : ∀ q ∈ dt_X1_mayWish, decode cX1_mayWish q.1 = .ok q.2 := by
  first
  | (refine dw_all ?_; decide +kernel)
  | decide +kernel
noncomputable def dt_X1_wishedByAllies : List (Nat × Instr × Nat) := [(0, .iconst 0, 1), (1, .istore 4, 2), (3, .iconst 0, 1), (4, .istore 5, 2), (6, .iload 5, 2), (8, .aload_n 1, 1), (9, .getfield 99, 3), (12, .if_icmp .ge 35, 3), (15, .aload_n 1, 1), (16, .iload_n 2, 1), (17, .iload 5, 2), (19, .invokevirtual 102, 3), (22, .ifCond .eq 19, 3), (25, .iload 4, 2), (27, .aload_n 0, 1), (28, .getfield 18, 3), (31, .iload 5, 2), (33, .iaload, 1), (34, .iload_n 3, 1), (35, .invokestatic 72, 3), (38, .iadd, 1), (39, .istore 4, 2), (41, .iinc 5 1, 3), (44, .goto (-38), 3), (47, .iload 4, 2), (49, .ireturn, 1)]
theorem dd_X1_wishedByAllies : ∀ q ∈ dt_X1_wishedByAllies, decode cX1_wishedByAllies q.1 = .ok q.2 := by
  first
  | (refine dw_all ?_; decide +kernel)
  | decide +kernel
noncomputable def dt_X1_greatestWish : List (Nat × Instr × Nat) := [(0, .iconst 5, 1), (1, .istore 4, 2), (3, .iload 4, 2), (5, .ifCond .le 24, 3), (8, .aload_n 0, 1), (9, .aload_n 1, 1), (10, .iload_n 2, 1), (11, .iload_n 3, 1), (12, .iload 4, 2), (14, .invokevirtual 106, 3), (17, .ifCond .eq 6, 3), (20, .iload 4, 2), (22, .ireturn, 1), (23, .iinc 4 (-1), 3), (26, .goto (-23), 3), (29, .iconst 0, 1), (30, .ireturn, 1)]
theorem dd_X1_greatestWish : ∀ q ∈ dt_X1_greatestWish, decode cX1_greatestWish q.1 = .ok q.2 := by
  first
  | (refine dw_all ?_; decide +kernel)
  | decide +kernel
noncomputable def dt_X1_hasWaived : List (Nat × Instr × Nat) := [(0, .aload_n 0, 1), (1, .getfield 69, 3), (4, .iconst 1, 1), (5, .iload_n 1, 1), (6, .ishl, 1), (7, .iand, 1), (8, .ifCond .eq 7, 3), (11, .iconst 1, 1), (12, .goto 4, 3), (15, .iconst 0, 1), (16, .ireturn, 1)]
theorem dd_X1_hasWaived : ∀ q ∈ dt_X1_hasWaived, decode cX1_hasWaived q.1 = .ok q.2 := by
  first
  | (refine dw_all ?_; decide +kernel)
  | decide +kernel
noncomputable def dt_X1_useWaiver : List (Nat × Instr × Nat) := [(0, .aload_n 0, 1), (1, .getfield 24, 3), (4, .iload_n 1, 1), (5, .dup2, 1), (6, .iaload, 1), (7, .iconst 1, 1), (8, .isub, 1), (9, .iastore, 1), (10, .aload_n 0, 1), (11, .dup, 1), (12, .getfield 69, 3), (15, .iconst 1, 1), (16, .iload_n 1, 1), (17, .ishl, 1), (18, .ior, 1), (19, .putfield 69, 3), (22, .return_, 1)]
theorem dd_X1_useWaiver : ∀ q ∈ dt_X1_useWaiver, decode cX1_useWaiver q.1 = .ok q.2 := by
  first
  | (refine dw_all ?_; decide +kernel)
  | decide +kernel
noncomputable def dt_X1_closeRound : List (Nat × Instr × Nat) := [(0, .aload_n 0, 1), (1, .getfield 65, 3), (4, .bipush 60, 2), (6, .if_icmp .lt 5, 3), (9, .iconst 1, 1), (10, .ireturn, 1), (11, .aload_n 0, 1), (12, .getfield 41, 3), (15, .aload_n 0, 1), (16, .getfield 65, 3), (19, .iload_n 2, 1), (20, .iastore, 1), (21, .aload_n 0, 1), (22, .getfield 44, 3), (25, .aload_n 0, 1), (26, .getfield 65, 3), (29, .aload_n 0, 1), (30, .getfield 69, 3), (33, .iastore, 1), (34, .aload_n 0, 1), (35, .getfield 9, 3), (38, .iconst 0, 1), (39, .aload_n 0, 1), (40, .getfield 32, 3), (43, .aload_n 0, 1), (44, .getfield 65, 3), (47, .aaload, 1), (48, .iconst 0, 1), (49, .iconst 5, 1), (50, .invokestatic 52, 3), (53, .aload_n 0, 1), (54, .getfield 18, 3), (57, .iconst 0, 1), (58, .aload_n 0, 1), (59, .getfield 35, 3), (62, .aload_n 0, 1), (63, .getfield 65, 3), (66, .aaload, 1), (67, .iconst 0, 1), (68, .bipush 6, 2), (70, .invokestatic 52, 3), (73, .aload_n 1, 1), (74, .getfield 110, 3), (77, .ifCond .eq 8, 3), (80, .aload_n 0, 1), (81, .aload_n 1, 1), (82, .invokevirtual 114, 3), (85, .aload_n 0, 1), (86, .aload_n 1, 1), (87, .invokevirtual 118, 3), (90, .iconst 0, 1), (91, .istore_n 3, 1), (92, .iload_n 3, 1), (93, .aload_n 1, 1), (94, .getfield 121, 3), (97, .if_icmp .ge 15, 3), (100, .aload_n 0, 1), (101, .aload_n 1, 1), (102, .iload_n 3, 1), (103, .invokevirtual 124, 3), (106, .iinc 3 1, 3), (109, .goto (-17), 3), (112, .aload_n 0, 1), (113, .aload_n 1, 1), (114, .iload_n 2, 1), (115, .invokevirtual 128, 3), (118, .istore_n 3, 1), (119, .aload_n 0, 1), (120, .getfield 15, 3), (123, .iconst 0, 1), (124, .aload_n 0, 1), (125, .getfield 38, 3), (128, .aload_n 0, 1), (129, .getfield 65, 3), (132, .aaload, 1), (133, .iconst 0, 1), (134, .bipush 6, 2), (136, .invokestatic 52, 3), (139, .aload_n 0, 1), (140, .getfield 15, 3), (143, .iconst 0, 1), (144, .aload_n 0, 1), (145, .getfield 18, 3), (148, .iconst 0, 1), (149, .bipush 6, 2), (151, .invokestatic 52, 3), (154, .aload_n 0, 1), (155, .iconst 0, 1), (156, .putfield 69, 3), (159, .aload_n 0, 1), (160, .dup, 1), (161, .getfield 65, 3), (164, .iconst 1, 1), (165, .iadd, 1), (166, .putfield 65, 3), (169, .iload_n 3, 1), (170, .ifCond .eq 12, 3), (173, .aload_n 0, 1), (174, .getfield 65, 3), (177, .bipush 60, 2), (179, .if_icmp .ne 7, 3), (182, .iconst 1, 1), (183, .goto 4, 3), (186, .iconst 0, 1), (187, .ireturn, 1)]
theorem dd_X1_closeRound : ∀ q ∈ dt_X1_closeRound, decode cX1_closeRound q.1 = .ok q.2 := by
  first
  | (refine dw_all ?_; decide +kernel)
  | decide +kernel
noncomputable def dt_X1_undoContradictions : List (Nat × Instr × Nat) := [(0, .iconst 0, 1), (1, .istore_n 2, 1), (2, .iload_n 2, 1), (3, .aload_n 1, 1), (4, .getfield 99, 3), (7, .if_icmp .ge 40, 3), (10, .aload_n 0, 1), (11, .iload_n 2, 1), (12, .invokevirtual 132, 3), (15, .iconst (-1), 1), (16, .if_icmp .eq 25, 3), (19, .aload_n 0, 1), (20, .getfield 27, 3), (23, .iload_n 2, 1), (24, .dup2, 1), (25, .iaload, 1), (26, .iconst 1, 1), (27, .iadd, 1), (28, .iastore, 1), (29, .aload_n 0, 1), (30, .getfield 18, 3), (33, .iload_n 2, 1), (34, .aload_n 0, 1), (35, .getfield 15, 3), (38, .iload_n 2, 1), (39, .iaload, 1), (40, .iastore, 1), (41, .iinc 2 1, 3), (44, .goto (-42), 3), (47, .return_, 1)]
theorem dd_X1_undoContradictions : ∀ q ∈ dt_X1_undoContradictions, decode cX1_undoContradictions q.1 = .ok q.2 := by
  first
  | (refine dw_all ?_; decide +kernel)
  | decide +kernel
noncomputable def dt_X1_contradictedRound : List (Nat × Instr × Nat) := [(0, .iconst 0, 1), (1, .istore_n 2, 1), (2, .iload_n 2, 1), (3, .aload_n 0, 1), (4, .getfield 65, 3), (7, .if_icmp .ge 43, 3), (10, .aload_n 0, 1), (11, .getfield 18, 3), (14, .iload_n 1, 1), (15, .iaload, 1), (16, .aload_n 0, 1), (17, .getfield 38, 3), (20, .iload_n 2, 1), (21, .aaload, 1), (22, .iload_n 1, 1), (23, .iaload, 1), (24, .aload_n 0, 1), (25, .getfield 9, 3), (28, .aload_n 0, 1), (29, .getfield 32, 3), (32, .iload_n 2, 1), (33, .aaload, 1), (34, .invokestatic 136, 3), (37, .ifCond .le 7, 3), (40, .iload_n 2, 1), (41, .iconst 1, 1), (42, .iadd, 1), (43, .ireturn, 1), (44, .iinc 2 1, 3), (47, .goto (-45), 3), (50, .iconst (-1), 1), (51, .ireturn, 1)]
theorem dd_X1_contradictedRound : ∀ q ∈ dt_X1_contradictedRound, decode cX1_contradictedRound q.1 = .ok q.2 := by
  first
  | (refine dw_all ?_; decide +kernel)
  | decide +kernel
noncomputable def dt_X1_lowerEligible : List (Nat × Instr × Nat) := [(0, .iconst 0, 1), (1, .istore_n 2, 1), (2, .iload_n 2, 1), (3, .aload_n 1, 1), (4, .getfield 99, 3), (7, .if_icmp .ge 60, 3), (10, .aload_n 0, 1), (11, .getfield 18, 3), (14, .iload_n 2, 1), (15, .iaload, 1), (16, .aload_n 1, 1), (17, .getfield 82, 3), (20, .invokestatic 85, 3), (23, .istore_n 3, 1), (24, .bipush 10, 2), (26, .iload_n 3, 1), (27, .imul, 1), (28, .bipush 8, 2), (30, .aload_n 0, 1), (31, .getfield 21, 3), (34, .iload_n 2, 1), (35, .iaload, 1), (36, .imul, 1), (37, .if_icmp .ge 24, 3), (40, .aload_n 0, 1), (41, .iload_n 2, 1), (42, .invokevirtual 140, 3), (45, .ifCond .ne 16, 3), (48, .aload_n 0, 1), (49, .getfield 21, 3), (52, .iload_n 2, 1), (53, .bipush 10, 2), (55, .iload_n 3, 1), (56, .imul, 1), (57, .bipush 8, 2), (59, .idiv, 1), (60, .iastore, 1), (61, .iinc 2 1, 3), (64, .goto (-62), 3), (67, .return_, 1)]
theorem dd_X1_lowerEligible : ∀ q ∈ dt_X1_lowerEligible, decode cX1_lowerEligible q.1 = .ok q.2 := by
  first
  | (refine dw_all ?_; decide +kernel)
  | decide +kernel
noncomputable def dt_X1_moveHeld : List (Nat × Instr × Nat) := [(0, .iconst 0, 1), (1, .istore_n 3, 1), (2, .iload_n 3, 1), (3, .aload_n 1, 1), (4, .getfield 99, 3), (7, .if_icmp .ge 54, 3), (10, .aload_n 0, 1), (11, .getfield 18, 3), (14, .iload_n 3, 1), (15, .iaload, 1), (16, .iload_n 2, 1), (17, .invokestatic 72, 3), (20, .istore 4, 2), (22, .iload 4, 2), (24, .aload_n 0, 1), (25, .getfield 15, 3), (28, .iload_n 3, 1), (29, .iaload, 1), (30, .iload_n 2, 1), (31, .invokestatic 72, 3), (34, .if_icmp .lt 21, 3), (37, .aload_n 0, 1), (38, .getfield 15, 3), (41, .iload_n 3, 1), (42, .aload_n 0, 1), (43, .getfield 15, 3), (46, .iload_n 3, 1), (47, .iaload, 1), (48, .iload_n 2, 1), (49, .iload 4, 2), (51, .invokestatic 78, 3), (54, .iastore, 1), (55, .iinc 3 1, 3), (58, .goto (-56), 3), (61, .aload_n 0, 1), (62, .getfield 15, 3), (65, .iload_n 2, 1), (66, .invokestatic 144, 3), (69, .aload_n 1, 1), (70, .getfield 89, 3), (73, .iload_n 2, 1), (74, .iaload, 1), (75, .isub, 1), (76, .istore_n 3, 1), (77, .iconst 0, 1), (78, .istore 4, 2), (80, .iload 4, 2), (82, .aload_n 1, 1), (83, .getfield 99, 3), (86, .if_icmp .ge 74, 3), (89, .iload_n 3, 1), (90, .ifCond .le 70, 3), (93, .aload_n 0, 1), (94, .getfield 15, 3), (97, .iload 4, 2), (99, .iaload, 1), (100, .iload_n 2, 1), (101, .invokestatic 72, 3), (104, .istore 5, 2), (106, .iload_n 3, 1), (107, .iload 5, 2), (109, .aload_n 0, 1), (110, .getfield 18, 3), (113, .iload 4, 2), (115, .iaload, 1), (116, .iload_n 2, 1), (117, .invokestatic 72, 3), (120, .isub, 1), (121, .invokestatic 148, 3), (124, .istore 6, 2), (126, .aload_n 0, 1), (127, .getfield 15, 3), (130, .iload 4, 2), (132, .aload_n 0, 1), (133, .getfield 15, 3), (136, .iload 4, 2), (138, .iaload, 1), (139, .iload_n 2, 1), (140, .iload 5, 2), (142, .iload 6, 2), (144, .isub, 1), (145, .invokestatic 78, 3), (148, .iastore, 1), (149, .iload_n 3, 1), (150, .iload 6, 2), (152, .isub, 1), (153, .istore_n 3, 1), (154, .iinc 4 1, 3), (157, .goto (-77), 3), (160, .return_, 1)]
theorem dd_X1_moveHeld : ∀ q ∈ dt_X1_moveHeld, decode cX1_moveHeld q.1 = .ok q.2 := by
  first
  | (refine dw_all ?_; decide +kernel)
  | decide +kernel
noncomputable def dt_X1_raisePrices : List (Nat × Instr × Nat) := [(0, .iconst 0, 1), (1, .istore_n 3, 1), (2, .iconst 0, 1), (3, .istore 4, 2), (5, .iload 4, 2), (7, .aload_n 1, 1), (8, .getfield 121, 3), (11, .if_icmp .ge 71, 3), (14, .aload_n 0, 1), (15, .getfield 15, 3), (18, .iload 4, 2), (20, .invokestatic 144, 3), (23, .aload_n 1, 1), (24, .getfield 89, 3), (27, .iload 4, 2), (29, .iaload, 1), (30, .if_icmp .le 46, 3), (33, .iconst 1, 1), (34, .aload_n 0, 1), (35, .getfield 9, 3), (38, .iload 4, 2), (40, .iaload, 1), (41, .iload_n 2, 1), (42, .imul, 1), (43, .bipush 100, 2), (45, .idiv, 1), (46, .invokestatic 153, 3), (49, .istore 5, 2), (51, .aload_n 0, 1), (52, .getfield 9, 3), (55, .iload 4, 2), (57, .sipush 9999, 3), (60, .aload_n 0, 1), (61, .getfield 9, 3), (64, .iload 4, 2), (66, .iaload, 1), (67, .iload 5, 2), (69, .iadd, 1), (70, .invokestatic 148, 3), (73, .iastore, 1), (74, .iconst 1, 1), (75, .istore_n 3, 1), (76, .iinc 4 1, 3), (79, .goto (-74), 3), (82, .iload_n 3, 1), (83, .ireturn, 1)]
theorem dd_X1_raisePrices : ∀ q ∈ dt_X1_raisePrices, decode cX1_raisePrices q.1 = .ok q.2 := by
  first
  | (refine dw_all ?_; decide +kernel)
  | decide +kernel
noncomputable def dt_X1_runLog : List (Nat × Instr × Nat) := [(0, .aload_n 0, 1), (1, .aload_n 1, 1), (2, .invokevirtual 156, 3), (5, .iconst 0, 1), (6, .istore 7, 2), (8, .iconst 0, 1), (9, .istore 8, 2), (11, .iload 8, 2), (13, .aload_n 2, 1), (14, .getfield 65, 3), (17, .if_icmp .ge 86, 3), (20, .iload 7, 2), (22, .ifCond .ne 81, 3), (25, .aload_n 2, 1), (26, .getfield 35, 3), (29, .iload 8, 2), (31, .aaload, 1), (32, .iconst 0, 1), (33, .aload_n 0, 1), (34, .getfield 18, 3), (37, .iconst 0, 1), (38, .bipush 6, 2), (40, .invokestatic 52, 3), (43, .iload 8, 2), (45, .iconst 1, 1), (46, .iadd, 1), (47, .iload_n 3, 1), (48, .if_icmp .ne 24, 3), (51, .aload_n 0, 1), (52, .getfield 18, 3), (55, .iload 4, 2), (57, .aload_n 0, 1), (58, .getfield 18, 3), (61, .iload 4, 2), (63, .iaload, 1), (64, .iload 5, 2), (66, .iload 6, 2), (68, .invokestatic 78, 3), (71, .iastore, 1), (72, .aload_n 0, 1), (73, .aload_n 2, 1), (74, .getfield 44, 3), (77, .iload 8, 2), (79, .iaload, 1), (80, .putfield 69, 3), (83, .aload_n 0, 1), (84, .aload_n 1, 1), (85, .aload_n 2, 1), (86, .getfield 41, 3), (89, .iload 8, 2), (91, .iaload, 1), (92, .invokevirtual 159, 3), (95, .istore 7, 2), (97, .iinc 8 1, 3), (100, .goto (-89), 3), (103, .return_, 1)]
theorem dd_X1_runLog : ∀ q ∈ dt_X1_runLog, decode cX1_runLog q.1 = .ok q.2 := by
  first
  | (refine dw_all ?_; decide +kernel)
  | decide +kernel
noncomputable def dt_X1_lastValue : List (Nat × Instr × Nat) := [(0, .aload_n 0, 1), (1, .getfield 65, 3), (4, .ifCond .le 21, 3), (7, .iload_n 1, 1), (8, .aload_n 0, 1), (9, .getfield 32, 3), (12, .aload_n 0, 1), (13, .getfield 65, 3), (16, .iconst 1, 1), (17, .isub, 1), (18, .aaload, 1), (19, .invokestatic 85, 3), (22, .goto 4, 3), (25, .iconst 0, 1), (26, .ireturn, 1)]
theorem dd_X1_lastValue : ∀ q ∈ dt_X1_lastValue, decode cX1_lastValue q.1 = .ok q.2 := by
  first
  | (refine dw_all ?_; decide +kernel)
  | decide +kernel
noncomputable def dt_X1_allPrices : List (Nat × Instr × Nat) := [(0, .iconst 0, 1), (1, .istore_n 1, 1), (2, .iconst 0, 1), (3, .istore_n 2, 1), (4, .iload_n 2, 1), (5, .iconst 5, 1), (6, .if_icmp .ge 18, 3), (9, .iload_n 1, 1), (10, .aload_n 0, 1), (11, .getfield 9, 3), (14, .iload_n 2, 1), (15, .iaload, 1), (16, .iadd, 1), (17, .istore_n 1, 1), (18, .iinc 2 1, 3), (21, .goto (-17), 3), (24, .iload_n 1, 1), (25, .ireturn, 1)]
theorem dd_X1_allPrices : ∀ q ∈ dt_X1_allPrices, decode cX1_allPrices q.1 = .ok q.2 := by
  first
  | (refine dw_all ?_; decide +kernel)
  | decide +kernel
noncomputable def dt_X1_allContradictions : List (Nat × Instr × Nat) := [(0, .iconst 0, 1), (1, .istore_n 1, 1), (2, .iconst 0, 1), (3, .istore_n 2, 1), (4, .iload_n 2, 1), (5, .bipush 6, 2), (7, .if_icmp .ge 18, 3), (10, .iload_n 1, 1), (11, .aload_n 0, 1), (12, .getfield 27, 3), (15, .iload_n 2, 1), (16, .iaload, 1), (17, .iadd, 1), (18, .istore_n 1, 1), (19, .iinc 2 1, 3), (22, .goto (-18), 3), (25, .iload_n 1, 1), (26, .ireturn, 1)]
theorem dd_X1_allContradictions : ∀ q ∈ dt_X1_allContradictions, decode cX1_allContradictions q.1 = .ok q.2 := by
  first
  | (refine dw_all ?_; decide +kernel)
  | decide +kernel
noncomputable def dt_X2_init : List (Nat × Instr × Nat) := [(0, .aload_n 0, 1), (1, .invokespecial 3, 3), (4, .aload_n 0, 1), (5, .bipush 6, 2), (7, .newarray .int, 2), (9, .putfield 9, 3), (12, .aload_n 0, 1), (13, .bipush 6, 2), (15, .bipush 6, 2), (17, .multianewarray 15 2, 4), (21, .putfield 17, 3), (24, .aload_n 0, 1), (25, .bipush 6, 2), (27, .bipush 6, 2), (29, .multianewarray 15 2, 4), (33, .putfield 20, 3), (36, .aload_n 0, 1), (37, .bipush 6, 2), (39, .newarray .int, 2), (41, .putfield 23, 3), (44, .aload_n 0, 1), (45, .bipush 64, 2), (47, .newarray .int, 2), (49, .putfield 26, 3), (52, .aload_n 0, 1), (53, .bipush 64, 2), (55, .newarray .int, 2), (57, .putfield 29, 3), (60, .aload_n 0, 1), (61, .bipush 64, 2), (63, .bipush 6, 2), (65, .multianewarray 15 2, 4), (69, .putfield 32, 3), (72, .aload_n 0, 1), (73, .bipush 6, 2), (75, .newarray .int, 2), (77, .putfield 35, 3), (80, .aload_n 0, 1), (81, .iconst 5, 1), (82, .newarray .int, 2), (84, .putfield 38, 3), (87, .aload_n 0, 1), (88, .iconst 4, 1), (89, .iconst 5, 1), (90, .multianewarray 15 2, 4), (94, .putfield 41, 3), (97, .aload_n 0, 1), (98, .getfield 29, 3), (101, .iconst (-1), 1), (102, .invokestatic 44, 3), (105, .aload_n 0, 1), (106, .getfield 29, 3), (109, .iconst 0, 1), (110, .iconst 0, 1), (111, .iastore, 1), (112, .iconst 0, 1), (113, .istore_n 1, 1), (114, .iload_n 1, 1), (115, .bipush 64, 2), (117, .if_icmp .ge 19, 3), (120, .aload_n 0, 1), (121, .getfield 32, 3), (124, .iload_n 1, 1), (125, .aaload, 1), (126, .iconst (-1), 1), (127, .invokestatic 44, 3), (130, .iinc 1 1, 3), (133, .goto (-19), 3), (136, .aload_n 0, 1), (137, .getfield 35, 3), (140, .iconst (-1), 1), (141, .invokestatic 44, 3), (144, .aload_n 0, 1), (145, .getfield 23, 3), (148, .iconst (-1), 1), (149, .invokestatic 44, 3), (152, .return_, 1)]
theorem dd_X2_init : ∀ q ∈ dt_X2_init, decode cX2_init q.1 = .ok q.2 := by
  first
  | (refine dw_all ?_; decide +kernel)
  | decide +kernel
noncomputable def dt_X2_isOut : List (Nat × Instr × Nat) := [(0, .aload_n 0, 1), (1, .getfield 50, 3), (4, .iconst 1, 1), (5, .iload_n 1, 1), (6, .ishl, 1), (7, .iand, 1), (8, .ifCond .eq 7, 3), (11, .iconst 1, 1), (12, .goto 4, 3), (15, .iconst 0, 1), (16, .ireturn, 1)]
theorem dd_X2_isOut : ∀ q ∈ dt_X2_isOut, decode cX2_isOut q.1 = .ok q.2 := by
  first
  | (refine dw_all ?_; decide +kernel)
  | decide +kernel
noncomputable def dt_X2_winners : List (Nat × Instr × Nat) := [(0, .iconst 0, 1), (1, .istore_n 1, 1), (2, .iconst 0, 1), (3, .istore_n 2, 1), (4, .iload_n 2, 1), (5, .bipush 6, 2), (7, .if_icmp .ge 22, 3), (10, .aload_n 0, 1), (11, .getfield 23, 3), (14, .iload_n 2, 1), (15, .iaload, 1), (16, .iconst (-1), 1), (17, .if_icmp .eq 6, 3), (20, .iinc 1 1, 3), (23, .iinc 2 1, 3), (26, .goto (-22), 3), (29, .iload_n 1, 1), (30, .ireturn, 1)]
theorem dd_X2_winners : ∀ q ∈ dt_X2_winners, decode cX2_winners q.1 = .ok q.2 := by
  first
  | (refine dw_all ?_; decide +kernel)
  | decide +kernel
noncomputable def dt_X2_amountWon : List (Nat × Instr × Nat) := [(0, .aload_n 0, 1), (1, .getfield 23, 3), (4, .iload_n 1, 1), (5, .iaload, 1), (6, .istore_n 2, 1), (7, .iload_n 2, 1), (8, .ifCond .lt 20, 3), (11, .iload_n 2, 1), (12, .bipush 6, 2), (14, .if_icmp .ge 14, 3), (17, .aload_n 0, 1), (18, .getfield 20, 3), (21, .iload_n 1, 1), (22, .aaload, 1), (23, .iload_n 2, 1), (24, .iaload, 1), (25, .goto 4, 3), (28, .iconst 0, 1), (29, .ireturn, 1)]
theorem dd_X2_amountWon : ∀ q ∈ dt_X2_amountWon, decode cX2_amountWon q.1 = .ok q.2 := by
  first
  | (refine dw_all ?_; decide +kernel)
  | decide +kernel
noncomputable def dt_X2_blocksWon : List (Nat × Instr × Nat) := [(0, .aload_n 0, 1), (1, .getfield 23, 3), (4, .iload_n 1, 1), (5, .iaload, 1), (6, .istore_n 3, 1), (7, .iload_n 3, 1), (8, .ifCond .lt 24, 3), (11, .iload_n 3, 1), (12, .bipush 6, 2), (14, .if_icmp .ge 18, 3), (17, .aload_n 0, 1), (18, .getfield 17, 3), (21, .iload_n 1, 1), (22, .aaload, 1), (23, .iload_n 3, 1), (24, .iaload, 1), (25, .iload_n 2, 1), (26, .invokestatic 54, 3), (29, .goto 4, 3), (32, .iconst 0, 1), (33, .ireturn, 1)]
theorem dd_X2_blocksWon : ∀ q ∈ dt_X2_blocksWon, decode cX2_blocksWon q.1 = .ok q.2 := by
  first
  | (refine dw_all ?_; decide +kernel)
  | decide +kernel
noncomputable def dt_X2_add : List (Nat × Instr × Nat) := [(0, .aload_n 0, 1), (1, .getfield 9, 3), (4, .iload_n 2, 1), (5, .iaload, 1), (6, .istore 5, 2), (8, .iload 5, 2), (10, .bipush 6, 2), (12, .if_icmp .lt 4, 3), (15, .return_, 1), (16, .aload_n 0, 1), (17, .getfield 17, 3), (20, .iload_n 2, 1), (21, .aaload, 1), (22, .iload 5, 2), (24, .iload_n 3, 1), (25, .iastore, 1), (26, .aload_n 0, 1), (27, .getfield 20, 3), (30, .iload_n 2, 1), (31, .aaload, 1), (32, .iload 5, 2), (34, .iload 4, 2), (36, .iastore, 1), (37, .aload_n 0, 1), (38, .getfield 9, 3), (41, .iload_n 2, 1), (42, .dup2, 1), (43, .iaload, 1), (44, .iconst 1, 1), (45, .iadd, 1), (46, .iastore, 1), (47, .aload_n 0, 1), (48, .aload_n 1, 1), (49, .iload_n 2, 1), (50, .iload_n 3, 1), (51, .invokevirtual 60, 3), (54, .ifCond .eq 31, 3), (57, .aload_n 0, 1), (58, .aload_n 1, 1), (59, .iload_n 2, 1), (60, .iload 5, 2), (62, .invokevirtual 64, 3), (65, .aload_n 0, 1), (66, .aload_n 1, 1), (67, .iconst 0, 1), (68, .iload_n 2, 1), (69, .iconst 1, 1), (70, .iload_n 2, 1), (71, .ishl, 1), (72, .iload 4, 2), (74, .invokestatic 68, 3), (77, .aload_n 0, 1), (78, .aload_n 1, 1), (79, .iload_n 2, 1), (80, .iload 5, 2), (82, .invokevirtual 72, 3), (85, .aload_n 0, 1), (86, .invokevirtual 75, 3), (89, .return_, 1)]
theorem dd_X2_add : ∀ q ∈ dt_X2_add, decode cX2_add q.1 = .ok q.2 := by
  first
  | (refine dw_all ?_; decide +kernel)
  | decide +kernel
noncomputable def dt_X2_leaveOut : List (Nat × Instr × Nat) := [(0, .aload_n 0, 1), (1, .dup, 1), (2, .getfield 50, 3), (5, .iconst 1, 1), (6, .iload_n 1, 1), (7, .ishl, 1), (8, .ior, 1), (9, .putfield 50, 3), (12, .aload_n 0, 1), (13, .invokevirtual 75, 3), (16, .return_, 1)]
theorem dd_X2_leaveOut : ∀ q ∈ dt_X2_leaveOut, decode cX2_leaveOut q.1 = .ok q.2 := by
  first
  | (refine dw_all ?_; decide +kernel)
  | decide +kernel
noncomputable def dt_X2_pickFrom : List (Nat × Instr × Nat) := [(0, .iload_n 2, 1), (1, .aload_n 1, 1), (2, .getfield 78, 3), (5, .if_icmp .ge 9, 3), (8, .iload_n 2, 1), (9, .bipush 6, 2), (11, .if_icmp .lt 12, 3), (14, .aload_n 0, 1), (15, .iload 4, 2), (17, .iload 5, 2), (19, .invokevirtual 83, 3), (22, .return_, 1), (23, .aload_n 0, 1), (24, .aload_n 1, 1), (25, .iload_n 2, 1), (26, .iconst 1, 1), (27, .iadd, 1), (28, .iload_n 3, 1), (29, .iload 4, 2), (31, .iload 5, 2), (33, .invokestatic 68, 3), (36, .iload_n 2, 1), (37, .iload_n 3, 1), (38, .if_icmp .ne 4, 3), (41, .return_, 1), (42, .iconst 0, 1), (43, .istore 6, 2), (45, .iload 6, 2), (47, .aload_n 0, 1), (48, .getfield 9, 3), (51, .iload_n 2, 1), (52, .iaload, 1), (53, .if_icmp .ge 70, 3), (56, .aload_n 0, 1), (57, .aload_n 1, 1), (58, .iload_n 2, 1), (59, .aload_n 0, 1), (60, .getfield 17, 3), (63, .iload_n 2, 1), (64, .aaload, 1), (65, .iload 6, 2), (67, .iaload, 1), (68, .invokevirtual 60, 3), (71, .ifCond .eq 46, 3), (74, .aload_n 0, 1), (75, .aload_n 1, 1), (76, .iload_n 2, 1), (77, .iload 6, 2), (79, .invokevirtual 64, 3), (82, .aload_n 0, 1), (83, .aload_n 1, 1), (84, .iload_n 2, 1), (85, .iconst 1, 1), (86, .iadd, 1), (87, .iload_n 3, 1), (88, .iload 4, 2), (90, .iconst 1, 1), (91, .iload_n 2, 1), (92, .ishl, 1), (93, .ior, 1), (94, .iload 5, 2), (96, .aload_n 0, 1), (97, .getfield 20, 3), (100, .iload_n 2, 1), (101, .aaload, 1), (102, .iload 6, 2), (104, .iaload, 1), (105, .iadd, 1), (106, .invokestatic 68, 3), (109, .aload_n 0, 1), (110, .aload_n 1, 1), (111, .iload_n 2, 1), (112, .iload 6, 2), (114, .invokevirtual 72, 3), (117, .iinc 6 1, 3), (120, .goto (-75), 3), (123, .return_, 1)]
theorem dd_X2_pickFrom : ∀ q ∈ dt_X2_pickFrom, decode cX2_pickFrom q.1 = .ok q.2 := by
  first
  | (refine dw_all ?_; decide +kernel)
  | decide +kernel
noncomputable def dt_X2_fits : List (Nat × Instr × Nat) := [(0, .aload_n 0, 1), (1, .getfield 41, 3), (4, .aload_n 1, 1), (5, .getfield 87, 3), (8, .iload_n 2, 1), (9, .iaload, 1), (10, .aaload, 1), (11, .astore 4, 2), (13, .iload_n 3, 1), (14, .istore 5, 2), (16, .iconst 0, 1), (17, .istore 6, 2), (19, .iload 6, 2), (21, .aload_n 1, 1), (22, .getfield 90, 3), (25, .if_icmp .ge 69, 3), (28, .iload 5, 2), (30, .bipush 6, 2), (32, .irem, 1), (33, .istore 7, 2), (35, .iload 5, 2), (37, .bipush 6, 2), (39, .idiv, 1), (40, .istore 5, 2), (42, .iload 7, 2), (44, .aload_n 1, 1), (45, .getfield 93, 3), (48, .iload 6, 2), (50, .iaload, 1), (51, .aload_n 0, 1), (52, .getfield 38, 3), (55, .iload 6, 2), (57, .iaload, 1), (58, .isub, 1), (59, .if_icmp .gt 27, 3), (62, .aload_n 1, 1), (63, .getfield 87, 3), (66, .iload_n 2, 1), (67, .iaload, 1), (68, .ifCond .eq 20, 3), (71, .iload 7, 2), (73, .aload_n 1, 1), (74, .getfield 96, 3), (77, .aload 4, 2), (79, .iload 6, 2), (81, .iaload, 1), (82, .isub, 1), (83, .if_icmp .le 5, 3), (86, .iconst 0, 1), (87, .ireturn, 1), (88, .iinc 6 1, 3), (91, .goto (-72), 3), (94, .iconst 1, 1), (95, .ireturn, 1)]
theorem dd_X2_fits : ∀ q ∈ dt_X2_fits, decode cX2_fits q.1 = .ok q.2 := by
  first
  | (refine dw_all ?_; decide +kernel)
  | decide +kernel
noncomputable def dt_X2_take : List (Nat × Instr × Nat) := [(0, .aload_n 0, 1), (1, .getfield 35, 3), (4, .iload_n 2, 1), (5, .iload_n 3, 1), (6, .iastore, 1), (7, .aload_n 0, 1), (8, .aload_n 1, 1), (9, .iload_n 2, 1), (10, .aload_n 0, 1), (11, .getfield 17, 3), (14, .iload_n 2, 1), (15, .aaload, 1), (16, .iload_n 3, 1), (17, .iaload, 1), (18, .iconst 1, 1), (19, .invokevirtual 99, 3), (22, .return_, 1)]
theorem dd_X2_take : ∀ q ∈ dt_X2_take, decode cX2_take q.1 = .ok q.2 := by
  first
  | (refine dw_all ?_; decide +kernel)
  | decide +kernel
noncomputable def dt_X2_giveBack : List (Nat × Instr × Nat) := [(0, .aload_n 0, 1), (1, .getfield 35, 3), (4, .iload_n 2, 1), (5, .iconst (-1), 1), (6, .iastore, 1), (7, .aload_n 0, 1), (8, .aload_n 1, 1), (9, .iload_n 2, 1), (10, .aload_n 0, 1), (11, .getfield 17, 3), (14, .iload_n 2, 1), (15, .aaload, 1), (16, .iload_n 3, 1), (17, .iaload, 1), (18, .iconst (-1), 1), (19, .invokevirtual 99, 3), (22, .return_, 1)]
theorem dd_X2_giveBack : ∀ q ∈ dt_X2_giveBack, decode cX2_giveBack q.1 = .ok q.2 := by
  first
  | (refine dw_all ?_; decide +kernel)
  | decide +kernel
noncomputable def dt_X2_moveTaken : List (Nat × Instr × Nat) := [(0, .aload_n 0, 1), (1, .getfield 41, 3), (4, .aload_n 1, 1), (5, .getfield 87, 3), (8, .iload_n 2, 1), (9, .iaload, 1), (10, .aaload, 1), (11, .astore 5, 2), (13, .iload_n 3, 1), (14, .istore 6, 2), (16, .iconst 0, 1), (17, .istore 7, 2), (19, .iload 7, 2), (21, .aload_n 1, 1), (22, .getfield 90, 3), (25, .if_icmp .ge 48, 3), (28, .iload 6, 2), (30, .bipush 6, 2), (32, .irem, 1), (33, .iload 4, 2), (35, .imul, 1), (36, .istore 8, 2), (38, .iload 6, 2), (40, .bipush 6, 2), (42, .idiv, 1), (43, .istore 6, 2), (45, .aload_n 0, 1), (46, .getfield 38, 3), (49, .iload 7, 2), (51, .dup2, 1), (52, .iaload, 1), (53, .iload 8, 2), (55, .iadd, 1), (56, .iastore, 1), (57, .aload 5, 2), (59, .iload 7, 2), (61, .dup2, 1), (62, .iaload, 1), (63, .iload 8, 2), (65, .iadd, 1), (66, .iastore, 1), (67, .iinc 7 1, 3), (70, .goto (-51), 3), (73, .return_, 1)]
theorem dd_X2_moveTaken : ∀ q ∈ dt_X2_moveTaken, decode cX2_moveTaken q.1 = .ok q.2 := by
  first
  | (refine dw_all ?_; decide +kernel)
  | decide +kernel
noncomputable def dt_X2_keepIfBetter : List (Nat × Instr × Nat) := [(0, .iload_n 2, 1), (1, .aload_n 0, 1), (2, .getfield 29, 3), (5, .iload_n 1, 1), (6, .iaload, 1), (7, .if_icmp .gt 29, 3), (10, .iload_n 2, 1), (11, .aload_n 0, 1), (12, .getfield 29, 3), (15, .iload_n 1, 1), (16, .iaload, 1), (17, .if_icmp .ne 43, 3), (20, .aload_n 0, 1), (21, .getfield 35, 3), (24, .aload_n 0, 1), (25, .getfield 32, 3), (28, .iload_n 1, 1), (29, .aaload, 1), (30, .invokestatic 103, 3), (33, .ifCond .eq 27, 3), (36, .aload_n 0, 1), (37, .getfield 29, 3), (40, .iload_n 1, 1), (41, .iload_n 2, 1), (42, .iastore, 1), (43, .aload_n 0, 1), (44, .getfield 35, 3), (47, .iconst 0, 1), (48, .aload_n 0, 1), (49, .getfield 32, 3), (52, .iload_n 1, 1), (53, .aaload, 1), (54, .iconst 0, 1), (55, .bipush 6, 2), (57, .invokestatic 107, 3), (60, .return_, 1)]
theorem dd_X2_keepIfBetter : ∀ q ∈ dt_X2_keepIfBetter, decode cX2_keepIfBetter q.1 = .ok q.2 := by
  first
  | (refine dw_all ?_; decide +kernel)
  | decide +kernel
noncomputable def dt_X2_isAhead : List (Nat × Instr × Nat) := [(0, .iconst 0, 1), (1, .istore_n 2, 1), (2, .iload_n 2, 1), (3, .bipush 6, 2), (5, .if_icmp .ge 33, 3), (8, .aload_n 0, 1), (9, .iload_n 2, 1), (10, .iaload, 1), (11, .aload_n 1, 1), (12, .iload_n 2, 1), (13, .iaload, 1), (14, .if_icmp .eq 18, 3), (17, .aload_n 0, 1), (18, .iload_n 2, 1), (19, .iaload, 1), (20, .aload_n 1, 1), (21, .iload_n 2, 1), (22, .iaload, 1), (23, .if_icmp .ge 7, 3), (26, .iconst 1, 1), (27, .goto 4, 3), (30, .iconst 0, 1), (31, .ireturn, 1), (32, .iinc 2 1, 3), (35, .goto (-33), 3), (38, .iconst 0, 1), (39, .ireturn, 1)]
theorem dd_X2_isAhead : ∀ q ∈ dt_X2_isAhead, decode cX2_isAhead q.1 = .ok q.2 := by
  first
  | (refine dw_all ?_; decide +kernel)
  | decide +kernel
noncomputable def dt_X2_findWinners : List (Nat × Instr × Nat) := [(0, .iconst 0, 1), (1, .istore_n 1, 1), (2, .iconst 0, 1), (3, .istore_n 2, 1), (4, .iload_n 2, 1), (5, .bipush 64, 2), (7, .if_icmp .ge 99, 3), (10, .aload_n 0, 1), (11, .getfield 26, 3), (14, .iload_n 2, 1), (15, .aload_n 0, 1), (16, .iload_n 2, 1), (17, .invokevirtual 113, 3), (20, .iastore, 1), (21, .iload_n 2, 1), (22, .aload_n 0, 1), (23, .getfield 50, 3), (26, .iand, 1), (27, .ifCond .ne 17, 3), (30, .aload_n 0, 1), (31, .getfield 29, 3), (34, .iload_n 2, 1), (35, .iaload, 1), (36, .iconst (-1), 1), (37, .if_icmp .eq 7, 3), (40, .iconst 1, 1), (41, .goto 4, 3), (44, .iconst 0, 1), (45, .istore_n 3, 1), (46, .iload_n 3, 1), (47, .ifCond .eq 53, 3), (50, .aload_n 0, 1), (51, .getfield 29, 3), (54, .iload_n 2, 1), (55, .iaload, 1), (56, .aload_n 0, 1), (57, .getfield 29, 3), (60, .iload_n 1, 1), (61, .iaload, 1), (62, .if_icmp .gt 36, 3), (65, .aload_n 0, 1), (66, .getfield 29, 3), (69, .iload_n 2, 1), (70, .iaload, 1), (71, .aload_n 0, 1), (72, .getfield 29, 3), (75, .iload_n 1, 1), (76, .iaload, 1), (77, .if_icmp .ne 23, 3), (80, .aload_n 0, 1), (81, .getfield 32, 3), (84, .iload_n 2, 1), (85, .aaload, 1), (86, .aload_n 0, 1), (87, .getfield 32, 3), (90, .iload_n 1, 1), (91, .aaload, 1), (92, .invokestatic 103, 3), (95, .ifCond .eq 5, 3), (98, .iload_n 2, 1), (99, .istore_n 1, 1), (100, .iinc 2 1, 3), (103, .goto (-99), 3), (106, .aload_n 0, 1), (107, .getfield 32, 3), (110, .iload_n 1, 1), (111, .aaload, 1), (112, .iconst 0, 1), (113, .aload_n 0, 1), (114, .getfield 23, 3), (117, .iconst 0, 1), (118, .bipush 6, 2), (120, .invokestatic 107, 3), (123, .return_, 1)]
theorem dd_X2_findWinners : ∀ q ∈ dt_X2_findWinners, decode cX2_findWinners q.1 = .ok q.2 := by
  first
  | (refine dw_all ?_; decide +kernel)
  | decide +kernel
noncomputable def dt_X2_worthOf : List (Nat × Instr × Nat) := [(0, .iload_n 1, 1), (1, .aload_n 0, 1), (2, .getfield 50, 3), (5, .iand, 1), (6, .ifCond .ne 16, 3), (9, .iconst 0, 1), (10, .aload_n 0, 1), (11, .getfield 29, 3), (14, .iload_n 1, 1), (15, .iaload, 1), (16, .invokestatic 117, 3), (19, .goto 4, 3), (22, .iconst 0, 1), (23, .istore_n 2, 1), (24, .iconst 0, 1), (25, .istore_n 3, 1), (26, .iload_n 3, 1), (27, .bipush 6, 2), (29, .if_icmp .ge 32, 3), (32, .iload_n 1, 1), (33, .iconst 1, 1), (34, .iload_n 3, 1), (35, .ishl, 1), (36, .iand, 1), (37, .ifCond .eq 18, 3), (40, .iload_n 2, 1), (41, .aload_n 0, 1), (42, .getfield 26, 3), (45, .iload_n 1, 1), (46, .iconst 1, 1), (47, .iload_n 3, 1), (48, .ishl, 1), (49, .isub, 1), (50, .iaload, 1), (51, .invokestatic 117, 3), (54, .istore_n 2, 1), (55, .iinc 3 1, 3), (58, .goto (-32), 3), (61, .iload_n 2, 1), (62, .ireturn, 1)]
theorem dd_X2_worthOf : ∀ q ∈ dt_X2_worthOf, decode cX2_worthOf q.1 = .ok q.2 := by
  first
  | (refine dw_all ?_; decide +kernel)
  | decide +kernel
noncomputable def dt_X2_signals : List (Nat × Instr × Nat) := [(0, .iconst 0, 1), (1, .istore_n 2, 1), (2, .iconst 0, 1), (3, .istore_n 3, 1), (4, .iload_n 3, 1), (5, .aload_n 1, 1), (6, .getfield 78, 3), (9, .if_icmp .ge 43, 3), (12, .iconst 1, 1), (13, .istore 4, 2), (15, .iload 4, 2), (17, .aload_n 0, 1), (18, .getfield 9, 3), (21, .iload_n 3, 1), (22, .iaload, 1), (23, .if_icmp .ge 23, 3), (26, .aload_n 0, 1), (27, .aload_n 1, 1), (28, .iload_n 3, 1), (29, .iload 4, 2), (31, .invokevirtual 122, 3), (34, .ifCond .eq 6, 3), (37, .iinc 2 1, 3), (40, .iinc 4 1, 3), (43, .goto (-28), 3), (46, .iinc 3 1, 3), (49, .goto (-45), 3), (52, .iload_n 2, 1), (53, .ireturn, 1)]
theorem dd_X2_signals : ∀ q ∈ dt_X2_signals, decode cX2_signals q.1 = .ok q.2 := by
  first
  | (refine dw_all ?_; decide +kernel)
  | decide +kernel
noncomputable def dt_X2_isSignal : List (Nat × Instr × Nat) := [(0, .aload_n 0, 1), (1, .getfield 20, 3), (4, .iload_n 2, 1), (5, .aaload, 1), (6, .iload_n 3, 1), (7, .iaload, 1), (8, .bipush 10, 2), (10, .irem, 1), (11, .istore 4, 2), (13, .iload 4, 2), (15, .aload_n 1, 1), (16, .getfield 90, 3), (19, .if_icmp .ge 19, 3), (22, .aload_n 0, 1), (23, .getfield 17, 3), (26, .iload_n 2, 1), (27, .aaload, 1), (28, .iload_n 3, 1), (29, .iaload, 1), (30, .iload 4, 2), (32, .invokestatic 54, 3), (35, .ifCond .eq 5, 3), (38, .iconst 0, 1), (39, .ireturn, 1), (40, .iconst 0, 1), (41, .istore 5, 2), (43, .iload 5, 2), (45, .aload_n 1, 1), (46, .getfield 78, 3), (49, .if_icmp .ge 32, 3), (52, .aload_n 1, 1), (53, .iload_n 2, 1), (54, .iload 5, 2), (56, .invokevirtual 125, 3), (59, .ifCond .eq 16, 3), (62, .aload_n 0, 1), (63, .iload 5, 2), (65, .iload 4, 2), (67, .invokevirtual 129, 3), (70, .ifCond .eq 5, 3), (73, .iconst 1, 1), (74, .ireturn, 1), (75, .iinc 5 1, 3), (78, .goto (-35), 3), (81, .iconst 0, 1), (82, .ireturn, 1)]
theorem dd_X2_isSignal : ∀ q ∈ dt_X2_isSignal, decode cX2_isSignal q.1 = .ok q.2 := by
  first
  | (refine dw_all ?_; decide +kernel)
  | decide +kernel
noncomputable def dt_X2_asksFor : List (Nat × Instr × Nat) := [(0, .iconst 0, 1), (1, .istore_n 3, 1), (2, .iload_n 3, 1), (3, .aload_n 0, 1), (4, .getfield 9, 3), (7, .iload_n 1, 1), (8, .iaload, 1), (9, .if_icmp .ge 26, 3), (12, .aload_n 0, 1), (13, .getfield 17, 3), (16, .iload_n 1, 1), (17, .aaload, 1), (18, .iload_n 3, 1), (19, .iaload, 1), (20, .iload_n 2, 1), (21, .invokestatic 54, 3), (24, .ifCond .le 5, 3), (27, .iconst 1, 1), (28, .ireturn, 1), (29, .iinc 3 1, 3), (32, .goto (-30), 3), (35, .iconst 0, 1), (36, .ireturn, 1)]
theorem dd_X2_asksFor : ∀ q ∈ dt_X2_asksFor, decode cX2_asksFor q.1 = .ok q.2 := by
  first
  | (refine dw_all ?_; decide +kernel)
  | decide +kernel
noncomputable def dt_X3_init : List (Nat × Instr × Nat) := [(0, .aload_n 0, 1), (1, .invokespecial 3, 3), (4, .aload_n 0, 1), (5, .iconst 5, 1), (6, .iconst 5, 1), (7, .multianewarray 9 2, 4), (11, .putfield 11, 3), (14, .iconst 0, 1), (15, .istore_n 1, 1), (16, .iload_n 1, 1), (17, .iconst 5, 1), (18, .if_icmp .ge 19, 3), (21, .aload_n 0, 1), (22, .getfield 11, 3), (25, .iload_n 1, 1), (26, .aaload, 1), (27, .iconst (-1), 1), (28, .invokestatic 16, 3), (31, .iinc 1 1, 3), (34, .goto (-18), 3), (37, .return_, 1)]
theorem dd_X3_init : ∀ q ∈ dt_X3_init, decode cX3_init q.1 = .ok q.2 := by
  first
  | (refine dw_all ?_; decide +kernel)
  | decide +kernel
noncomputable def dt_X3_give : List (Nat × Instr × Nat) := [(0, .aload_n 0, 1), (1, .iconst 0, 1), (2, .putfield 22, 3), (5, .iconst 0, 1), (6, .istore_n 3, 1), (7, .iload_n 3, 1), (8, .aload_n 1, 1), (9, .getfield 26, 3), (12, .if_icmp .ge 84, 3), (15, .iconst 0, 1), (16, .istore 4, 2), (18, .bipush 25, 2), (20, .istore 5, 2), (22, .iconst 0, 1), (23, .istore 6, 2), (25, .iload 6, 2), (27, .bipush 6, 2), (29, .if_icmp .ge 41, 3), (32, .aload_n 0, 1), (33, .aload_n 1, 1), (34, .aload_n 2, 1), (35, .iload_n 3, 1), (36, .iload 6, 2), (38, .invokevirtual 31, 3), (41, .aload_n 0, 1), (42, .aload_n 1, 1), (43, .iload_n 3, 1), (44, .invokevirtual 35, 3), (47, .istore 7, 2), (49, .iload 7, 2), (51, .iload 5, 2), (53, .if_icmp .ge 11, 3), (56, .iload 7, 2), (58, .istore 5, 2), (60, .iload 6, 2), (62, .istore 4, 2), (64, .iinc 6 1, 3), (67, .goto (-42), 3), (70, .aload_n 0, 1), (71, .aload_n 1, 1), (72, .aload_n 2, 1), (73, .iload_n 3, 1), (74, .iload 4, 2), (76, .invokevirtual 31, 3), (79, .aload_n 0, 1), (80, .dup, 1), (81, .getfield 22, 3), (84, .iload 5, 2), (86, .iadd, 1), (87, .putfield 22, 3), (90, .iinc 3 1, 3), (93, .goto (-86), 3), (96, .return_, 1)]
theorem dd_X3_give : ∀ q ∈ dt_X3_give, decode cX3_give q.1 = .ok q.2 := by
  first
  | (refine dw_all ?_; decide +kernel)
  | decide +kernel
noncomputable def dt_X3_giveByTurn : List (Nat × Instr × Nat) := [(0, .aload_n 0, 1), (1, .getfield 11, 3), (4, .iload_n 3, 1), (5, .aaload, 1), (6, .astore 5, 2), (8, .aload 5, 2), (10, .iconst (-1), 1), (11, .invokestatic 16, 3), (14, .iconst 0, 1), (15, .istore 6, 2), (17, .iconst 0, 1), (18, .istore 7, 2), (20, .iload 7, 2), (22, .bipush 6, 2), (24, .if_icmp .ge 68, 3), (27, .iload 4, 2), (29, .iload 7, 2), (31, .iadd, 1), (32, .bipush 6, 2), (34, .irem, 1), (35, .istore 8, 2), (37, .iload 6, 2), (39, .aload_n 2, 1), (40, .iload 8, 2), (42, .iload_n 3, 1), (43, .invokevirtual 39, 3), (46, .iadd, 1), (47, .aload_n 1, 1), (48, .getfield 45, 3), (51, .iload_n 3, 1), (52, .iaload, 1), (53, .invokestatic 49, 3), (56, .istore 9, 2), (58, .iload 6, 2), (60, .istore 10, 2), (62, .iload 10, 2), (64, .iload 9, 2), (66, .if_icmp .ge 16, 3), (69, .aload 5, 2), (71, .iload 10, 2), (73, .iload 8, 2), (75, .iastore, 1), (76, .iinc 10 1, 3), (79, .goto (-17), 3), (82, .iload 9, 2), (84, .istore 6, 2), (86, .iinc 7 1, 3), (89, .goto (-69), 3), (92, .return_, 1)]
theorem dd_X3_giveByTurn : ∀ q ∈ dt_X3_giveByTurn, decode cX3_giveByTurn q.1 = .ok q.2 := by
  first
  | (refine dw_all ?_; decide +kernel)
  | decide +kernel
noncomputable def dt_X3_clashesOf : List (Nat × Instr × Nat) := [(0, .iconst 0, 1), (1, .istore_n 3, 1), (2, .iconst 0, 1), (3, .istore 4, 2), (5, .iload 4, 2), (7, .iload_n 2, 1), (8, .if_icmp .ge 38, 3), (11, .aload_n 1, 1), (12, .iload_n 2, 1), (13, .iload 4, 2), (15, .invokevirtual 54, 3), (18, .ifCond .eq 22, 3), (21, .iload_n 3, 1), (22, .aload_n 0, 1), (23, .getfield 11, 3), (26, .iload_n 2, 1), (27, .aaload, 1), (28, .aload_n 0, 1), (29, .getfield 11, 3), (32, .iload 4, 2), (34, .aaload, 1), (35, .invokestatic 58, 3), (38, .iadd, 1), (39, .istore_n 3, 1), (40, .iinc 4 1, 3), (43, .goto (-38), 3), (46, .iload_n 3, 1), (47, .ireturn, 1)]
theorem dd_X3_clashesOf : ∀ q ∈ dt_X3_clashesOf, decode cX3_clashesOf q.1 = .ok q.2 := by
  first
  | (refine dw_all ?_; decide +kernel)
  | decide +kernel
noncomputable def dt_X3_clashesBetween : List (Nat × Instr × Nat) := [(0, .iconst 0, 1), (1, .istore_n 2, 1), (2, .iconst 0, 1), (3, .istore_n 3, 1), (4, .iload_n 3, 1), (5, .iconst 5, 1), (6, .if_icmp .ge 35, 3), (9, .aload_n 0, 1), (10, .iload_n 3, 1), (11, .iaload, 1), (12, .iconst (-1), 1), (13, .if_icmp .eq 22, 3), (16, .aload_n 1, 1), (17, .iload_n 3, 1), (18, .iaload, 1), (19, .iconst (-1), 1), (20, .if_icmp .eq 15, 3), (23, .aload_n 0, 1), (24, .iload_n 3, 1), (25, .iaload, 1), (26, .aload_n 1, 1), (27, .iload_n 3, 1), (28, .iaload, 1), (29, .if_icmp .eq 6, 3), (32, .iinc 2 1, 3), (35, .iinc 3 1, 3), (38, .goto (-34), 3), (41, .iload_n 2, 1), (42, .ireturn, 1)]
theorem dd_X3_clashesBetween : ∀ q ∈ dt_X3_clashesBetween, decode cX3_clashesBetween q.1 = .ok q.2 := by
  first
  | (refine dw_all ?_; decide +kernel)
  | decide +kernel
noncomputable def dt_X3_draw : List (Nat × Instr × Nat) := [(0, .iconst 0, 1), (1, .istore 4, 2), (3, .iload 4, 2), (5, .aload_n 1, 1), (6, .getfield 45, 3), (9, .iload_n 2, 1), (10, .iaload, 1), (11, .if_icmp .ge 55, 3), (14, .iload 4, 2), (16, .ifCond .le 10, 3), (19, .aload_n 3, 1), (20, .bipush 44, 2), (22, .invokevirtual 62, 3), (25, .pop, 1), (26, .aload_n 0, 1), (27, .getfield 11, 3), (30, .iload_n 2, 1), (31, .aaload, 1), (32, .iload 4, 2), (34, .iaload, 1), (35, .istore 5, 2), (37, .iload 5, 2), (39, .iconst (-1), 1), (40, .if_icmp .ne 13, 3), (43, .aload_n 3, 1), (44, .bipush 45, 2), (46, .invokevirtual 62, 3), (49, .pop, 1), (50, .goto 10, 3), (53, .aload_n 3, 1), (54, .iload 5, 2), (56, .invokevirtual 68, 3), (59, .pop, 1), (60, .iinc 4 1, 3), (63, .goto (-60), 3), (66, .return_, 1)]
theorem dd_X3_draw : ∀ q ∈ dt_X3_draw, decode cX3_draw q.1 = .ok q.2 := by
  first
  | (refine dw_all ?_; decide +kernel)
  | decide +kernel
noncomputable def dt_X3_agreeWith : List (Nat × Instr × Nat) := [(0, .iconst 0, 1), (1, .istore_n 3, 1), (2, .iload_n 3, 1), (3, .aload_n 1, 1), (4, .getfield 26, 3), (7, .if_icmp .ge 73, 3), (10, .iconst 0, 1), (11, .istore 4, 2), (13, .iconst 0, 1), (14, .istore 5, 2), (16, .iload 5, 2), (18, .aload_n 1, 1), (19, .getfield 71, 3), (22, .if_icmp .ge 39, 3), (25, .aload_n 0, 1), (26, .iload 5, 2), (28, .iload_n 3, 1), (29, .invokevirtual 74, 3), (32, .istore 6, 2), (34, .iload 6, 2), (36, .aload_n 2, 1), (37, .iload 5, 2), (39, .iload_n 3, 1), (40, .invokevirtual 39, 3), (43, .if_icmp .eq 5, 3), (46, .iconst 0, 1), (47, .ireturn, 1), (48, .iload 4, 2), (50, .iload 6, 2), (52, .iadd, 1), (53, .istore 4, 2), (55, .iinc 5 1, 3), (58, .goto (-42), 3), (61, .iload 4, 2), (63, .aload_n 1, 1), (64, .getfield 45, 3), (67, .iload_n 3, 1), (68, .iaload, 1), (69, .if_icmp .le 5, 3), (72, .iconst 0, 1), (73, .ireturn, 1), (74, .iinc 3 1, 3), (77, .goto (-75), 3), (80, .iconst 1, 1), (81, .ireturn, 1)]
theorem dd_X3_agreeWith : ∀ q ∈ dt_X3_agreeWith, decode cX3_agreeWith q.1 = .ok q.2 := by
  first
  | (refine dw_all ?_; decide +kernel)
  | decide +kernel
noncomputable def dt_X3_heldBy : List (Nat × Instr × Nat) := [(0, .iconst 0, 1), (1, .istore_n 3, 1), (2, .iconst 0, 1), (3, .istore 4, 2), (5, .iload 4, 2), (7, .iconst 5, 1), (8, .if_icmp .ge 25, 3), (11, .aload_n 0, 1), (12, .getfield 11, 3), (15, .iload_n 2, 1), (16, .aaload, 1), (17, .iload 4, 2), (19, .iaload, 1), (20, .iload_n 1, 1), (21, .if_icmp .ne 6, 3), (24, .iinc 3 1, 3), (27, .iinc 4 1, 3), (30, .goto (-25), 3), (33, .iload_n 3, 1), (34, .ireturn, 1)]
theorem dd_X3_heldBy : ∀ q ∈ dt_X3_heldBy, decode cX3_heldBy q.1 = .ok q.2 := by
  first
  | (refine dw_all ?_; decide +kernel)
  | decide +kernel
noncomputable def dt_X4_init : List (Nat × Instr × Nat) := [(0, .aload_n 0, 1), (1, .invokespecial 3, 3), (4, .aload_n 0, 1), (5, .iconst 3, 1), (6, .bipush 6, 2), (8, .multianewarray 9 2, 4), (12, .putfield 11, 3), (15, .return_, 1)]
theorem dd_X4_init : ∀ q ∈ dt_X4_init, decode cX4_init q.1 = .ok q.2 := by
  first
  | (refine dw_all ?_; decide +kernel)
  | decide +kernel
noncomputable def dt_X4_find : List (Nat × Instr × Nat) := [(0, .iconst 0, 1), (1, .istore_n 2, 1), (2, .iload_n 2, 1), (3, .bipush 6, 2), (5, .if_icmp .ge 46, 3), (8, .aload_n 1, 1), (9, .iload_n 2, 1), (10, .invokestatic 16, 3), (13, .istore_n 3, 1), (14, .aload_n 0, 1), (15, .getfield 11, 3), (18, .iconst 0, 1), (19, .aaload, 1), (20, .iload_n 2, 1), (21, .aload_n 1, 1), (22, .iload_n 2, 1), (23, .invokevirtual 20, 3), (26, .iastore, 1), (27, .aload_n 0, 1), (28, .getfield 11, 3), (31, .iconst 1, 1), (32, .aaload, 1), (33, .iload_n 2, 1), (34, .iload_n 3, 1), (35, .iastore, 1), (36, .aload_n 0, 1), (37, .getfield 11, 3), (40, .iconst 2, 1), (41, .aaload, 1), (42, .iload_n 2, 1), (43, .iload_n 3, 1), (44, .iastore, 1), (45, .iinc 2 1, 3), (48, .goto (-46), 3), (51, .iconst 0, 1), (52, .istore_n 2, 1), (53, .iload_n 2, 1), (54, .bipush 64, 2), (56, .if_icmp .ge 33, 3), (59, .aload_n 0, 1), (60, .aload_n 1, 1), (61, .invokevirtual 26, 3), (64, .istore_n 3, 1), (65, .iload_n 3, 1), (66, .iconst (-1), 1), (67, .if_icmp .ne 4, 3), (70, .return_, 1), (71, .aload_n 0, 1), (72, .iload_n 3, 1), (73, .aload_n 0, 1), (74, .aload_n 1, 1), (75, .iload_n 3, 1), (76, .iconst 2, 1), (77, .invokevirtual 30, 3), (80, .invokevirtual 34, 3), (83, .iinc 2 1, 3), (86, .goto (-33), 3), (89, .return_, 1)]
theorem dd_X4_find : ∀ q ∈ dt_X4_find, decode cX4_find q.1 = .ok q.2 := by
  first
  | (refine dw_all ?_; decide +kernel)
  | decide +kernel
noncomputable def dt_X4_harmOf : List (Nat × Instr × Nat) := [(0, .aload_n 0, 1), (1, .getfield 38, 3), (4, .iload_n 1, 1), (5, .iaload, 1), (6, .iconst (-1), 1), (7, .if_icmp .ne 5, 3), (10, .iconst 0, 1), (11, .ireturn, 1), (12, .aload_n 0, 1), (13, .getfield 42, 3), (16, .bipush 63, 2), (18, .iaload, 1), (19, .aload_n 0, 1), (20, .iload_n 1, 1), (21, .invokevirtual 20, 3), (24, .isub, 1), (25, .istore_n 2, 1), (26, .aload_n 0, 1), (27, .getfield 42, 3), (30, .bipush 63, 2), (32, .iconst 1, 1), (33, .iload_n 1, 1), (34, .ishl, 1), (35, .isub, 1), (36, .iaload, 1), (37, .iload_n 2, 1), (38, .isub, 1), (39, .ireturn, 1)]
theorem dd_X4_harmOf : ∀ q ∈ dt_X4_harmOf, decode cX4_harmOf q.1 = .ok q.2 := by
  first
  | (refine dw_all ?_; decide +kernel)
  | decide +kernel
noncomputable def dt_X4_objection : List (Nat × Instr × Nat) := [(0, .aload_n 1, 1), (1, .getfield 42, 3), (4, .iload_n 2, 1), (5, .iaload, 1), (6, .istore 4, 2), (8, .iconst 0, 1), (9, .istore 5, 2), (11, .iload 5, 2), (13, .bipush 6, 2), (15, .if_icmp .ge 56, 3), (18, .iload_n 2, 1), (19, .iconst 1, 1), (20, .iload 5, 2), (22, .ishl, 1), (23, .iand, 1), (24, .ifCond .eq 7, 3), (27, .iconst 1, 1), (28, .goto 4, 3), (31, .iconst 0, 1), (32, .istore 6, 2), (34, .iload 4, 2), (36, .iload 6, 2), (38, .ifCond .eq 15, 3), (41, .aload_n 0, 1), (42, .getfield 11, 3), (45, .iconst 0, 1), (46, .aaload, 1), (47, .iload 5, 2), (49, .iaload, 1), (50, .goto 12, 3), (53, .aload_n 0, 1), (54, .getfield 11, 3), (57, .iload_n 3, 1), (58, .aaload, 1), (59, .iload 5, 2), (61, .iaload, 1), (62, .isub, 1), (63, .istore 4, 2), (65, .iinc 5 1, 3), (68, .goto (-57), 3), (71, .iload 4, 2), (73, .ireturn, 1)]
theorem dd_X4_objection : ∀ q ∈ dt_X4_objection, decode cX4_objection q.1 = .ok q.2 := by
  first
  | (refine dw_all ?_; decide +kernel)
  | decide +kernel
noncomputable def dt_X4_strongest : List (Nat × Instr × Nat) := [(0, .iconst (-1), 1), (1, .istore_n 2, 1), (2, .iconst 0, 1), (3, .istore_n 3, 1), (4, .iconst 0, 1), (5, .istore 4, 2), (7, .iload 4, 2), (9, .bipush 64, 2), (11, .if_icmp .ge 31, 3), (14, .aload_n 0, 1), (15, .aload_n 1, 1), (16, .iload 4, 2), (18, .iconst 2, 1), (19, .invokevirtual 30, 3), (22, .istore 5, 2), (24, .iload 5, 2), (26, .iload_n 3, 1), (27, .if_icmp .le 9, 3), (30, .iload 4, 2), (32, .istore_n 2, 1), (33, .iload 5, 2), (35, .istore_n 3, 1), (36, .iinc 4 1, 3), (39, .goto (-32), 3), (42, .iload_n 2, 1), (43, .ireturn, 1)]
theorem dd_X4_strongest : ∀ q ∈ dt_X4_strongest, decode cX4_strongest q.1 = .ok q.2 := by
  first
  | (refine dw_all ?_; decide +kernel)
  | decide +kernel
noncomputable def dt_X4_raiseOutside : List (Nat × Instr × Nat) := [(0, .iload_n 2, 1), (1, .istore_n 3, 1), (2, .iconst 0, 1), (3, .istore 4, 2), (5, .iload 4, 2), (7, .bipush 6, 2), (9, .if_icmp .gt 89, 3), (12, .iconst 0, 1), (13, .istore 5, 2), (15, .iload_n 3, 1), (16, .istore 6, 2), (18, .iconst 0, 1), (19, .istore 7, 2), (21, .iload 7, 2), (23, .bipush 6, 2), (25, .if_icmp .ge 35, 3), (28, .aload_n 0, 1), (29, .iload_n 1, 1), (30, .iload 7, 2), (32, .invokevirtual 45, 3), (35, .istore 8, 2), (37, .iload 8, 2), (39, .ifCond .le 15, 3), (42, .iinc 5 1, 3), (45, .iload 6, 2), (47, .iload 8, 2), (49, .invokestatic 49, 3), (52, .istore 6, 2), (54, .iinc 7 1, 3), (57, .goto (-36), 3), (60, .iload 5, 2), (62, .ifCond .eq 36, 3), (65, .iload_n 3, 1), (66, .iload 5, 2), (68, .if_icmp .ge 6, 3), (71, .goto 27, 3), (74, .iload_n 3, 1), (75, .aload_n 0, 1), (76, .iload_n 1, 1), (77, .iload 6, 2), (79, .iload_n 3, 1), (80, .iload 5, 2), (82, .idiv, 1), (83, .invokestatic 49, 3), (86, .iload_n 3, 1), (87, .invokevirtual 54, 3), (90, .isub, 1), (91, .istore_n 3, 1), (92, .iinc 4 1, 3), (95, .goto (-90), 3), (98, .aload_n 0, 1), (99, .iload_n 1, 1), (100, .iconst 1, 1), (101, .iload_n 3, 1), (102, .invokevirtual 54, 3), (105, .pop, 1), (106, .return_, 1)]
theorem dd_X4_raiseOutside : ∀ q ∈ dt_X4_raiseOutside, decode cX4_raiseOutside q.1 = .ok q.2 := by
  first
  | (refine dw_all ?_; decide +kernel)
  | decide +kernel
noncomputable def dt_X4_raiseEach : List (Nat × Instr × Nat) := [(0, .iconst 0, 1), (1, .istore 4, 2), (3, .iconst 0, 1), (4, .istore 5, 2), (6, .iload 5, 2), (8, .bipush 6, 2), (10, .if_icmp .ge 47, 3), (13, .iload 4, 2), (15, .iload_n 2, 1), (16, .iadd, 1), (17, .iload_n 3, 1), (18, .if_icmp .gt 33, 3), (21, .aload_n 0, 1), (22, .iload_n 1, 1), (23, .iload 5, 2), (25, .invokevirtual 45, 3), (28, .iload_n 2, 1), (29, .if_icmp .lt 22, 3), (32, .aload_n 0, 1), (33, .getfield 11, 3), (36, .iconst 2, 1), (37, .aaload, 1), (38, .iload 5, 2), (40, .dup2, 1), (41, .iaload, 1), (42, .iload_n 2, 1), (43, .iadd, 1), (44, .iastore, 1), (45, .iload 4, 2), (47, .iload_n 2, 1), (48, .iadd, 1), (49, .istore 4, 2), (51, .iinc 5 1, 3), (54, .goto (-48), 3), (57, .iload 4, 2), (59, .ireturn, 1)]
theorem dd_X4_raiseEach : ∀ q ∈ dt_X4_raiseEach, decode cX4_raiseEach q.1 = .ok q.2 := by
  first
  | (refine dw_all ?_; decide +kernel)
  | decide +kernel
noncomputable def dt_X4_roomOutside : List (Nat × Instr × Nat) := [(0, .iload_n 1, 1), (1, .iconst 1, 1), (2, .iload_n 2, 1), (3, .ishl, 1), (4, .iand, 1), (5, .ifCond .eq 7, 3), (8, .iconst 0, 1), (9, .goto 20, 3), (12, .aload_n 0, 1), (13, .getfield 11, 3), (16, .iconst 0, 1), (17, .aaload, 1), (18, .iload_n 2, 1), (19, .iaload, 1), (20, .aload_n 0, 1), (21, .getfield 11, 3), (24, .iconst 2, 1), (25, .aaload, 1), (26, .iload_n 2, 1), (27, .iaload, 1), (28, .isub, 1), (29, .ireturn, 1)]
theorem dd_X4_roomOutside : ∀ q ∈ dt_X4_roomOutside, decode cX4_roomOutside q.1 = .ok q.2 := by
  first
  | (refine dw_all ?_; decide +kernel)
  | decide +kernel
noncomputable def dt_X5_init : List (Nat × Instr × Nat) := [(0, .aload_n 0, 1), (1, .invokespecial 3, 3), (4, .aload_n 0, 1), (5, .bipush 10, 2), (7, .newarray .int, 2), (9, .putfield 9, 3), (12, .aload_n 0, 1), (13, .bipush 10, 2), (15, .newarray .int, 2), (17, .putfield 15, 3), (20, .aload_n 0, 1), (21, .bipush 10, 2), (23, .newarray .int, 2), (25, .putfield 18, 3), (28, .aload_n 0, 1), (29, .bipush 6, 2), (31, .newarray .int, 2), (33, .putfield 21, 3), (36, .return_, 1)]
theorem dd_X5_init : ∀ q ∈ dt_X5_init, decode cX5_init q.1 = .ok q.2 := by
  first
  | (refine dw_all ?_; decide +kernel)
  | decide +kernel
noncomputable def dt_X5_add : List (Nat × Instr × Nat) := [(0, .aload_n 0, 1), (1, .getfield 24, 3), (4, .istore_n 3, 1), (5, .iload_n 3, 1), (6, .bipush 10, 2), (8, .if_icmp .ge 27, 3), (11, .aload_n 0, 1), (12, .getfield 15, 3), (15, .iload_n 3, 1), (16, .iload_n 1, 1), (17, .iastore, 1), (18, .aload_n 0, 1), (19, .getfield 9, 3), (22, .iload_n 3, 1), (23, .iload_n 2, 1), (24, .iastore, 1), (25, .aload_n 0, 1), (26, .dup, 1), (27, .getfield 24, 3), (30, .iconst 1, 1), (31, .iadd, 1), (32, .putfield 24, 3), (35, .iload_n 3, 1), (36, .ireturn, 1)]
theorem dd_X5_add : ∀ q ∈ dt_X5_add, decode cX5_add q.1 = .ok q.2 := by
  first
  | (refine dw_all ?_; decide +kernel)
  | decide +kernel
noncomputable def dt_X5_countIn : List (Nat × Instr × Nat) := [(0, .iconst 0, 1), (1, .istore_n 2, 1), (2, .iconst 0, 1), (3, .istore_n 3, 1), (4, .iload_n 3, 1), (5, .aload_n 0, 1), (6, .getfield 24, 3), (9, .if_icmp .ge 22, 3), (12, .aload_n 0, 1), (13, .getfield 15, 3), (16, .iload_n 3, 1), (17, .iaload, 1), (18, .iload_n 1, 1), (19, .if_icmp .ne 6, 3), (22, .iinc 2 1, 3), (25, .iinc 3 1, 3), (28, .goto (-24), 3), (31, .iload_n 2, 1), (32, .ireturn, 1)]
theorem dd_X5_countIn : ∀ q ∈ dt_X5_countIn, decode cX5_countIn q.1 = .ok q.2 := by
  first
  | (refine dw_all ?_; decide +kernel)
  | decide +kernel
noncomputable def dt_X5_pack : List (Nat × Instr × Nat) := [(0, .aload_n 0, 1), (1, .aload_n 1, 1), (2, .invokevirtual 28, 3), (5, .aload_n 0, 1), (6, .iload_n 2, 1), (7, .iload_n 3, 1), (8, .invokevirtual 32, 3), (11, .ireturn, 1)]
theorem dd_X5_pack : ∀ q ∈ dt_X5_pack, decode cX5_pack q.1 = .ok q.2 := by
  first
  | (refine dw_all ?_; decide +kernel)
  | decide +kernel
noncomputable def dt_X5_channelOf : List (Nat × Instr × Nat) := [(0, .iconst 0, 1), (1, .istore_n 2, 1), (2, .iload_n 2, 1), (3, .bipush 6, 2), (5, .if_icmp .ge 24, 3), (8, .aload_n 0, 1), (9, .getfield 21, 3), (12, .iload_n 2, 1), (13, .iaload, 1), (14, .iconst 1, 1), (15, .iload_n 1, 1), (16, .ishl, 1), (17, .iand, 1), (18, .ifCond .eq 5, 3), (21, .iload_n 2, 1), (22, .ireturn, 1), (23, .iinc 2 1, 3), (26, .goto (-24), 3), (29, .iconst (-1), 1), (30, .ireturn, 1)]
theorem dd_X5_channelOf : ∀ q ∈ dt_X5_channelOf, decode cX5_channelOf q.1 = .ok q.2 := by
  first
  | (refine dw_all ?_; decide +kernel)
  | decide +kernel
noncomputable def dt_X5_cheapest : List (Nat × Instr × Nat) := [(0, .aload_n 0, 1), (1, .aload_n 1, 1), (2, .invokevirtual 28, 3), (5, .iconst 1, 1), (6, .aload_n 0, 1), (7, .getfield 24, 3), (10, .ishl, 1), (11, .iconst 1, 1), (12, .isub, 1), (13, .istore_n 3, 1), (14, .iload_n 3, 1), (15, .istore 4, 2), (17, .aload_n 0, 1), (18, .iload_n 3, 1), (19, .invokevirtual 36, 3), (22, .istore 5, 2), (24, .iconst 0, 1), (25, .istore 6, 2), (27, .iload 6, 2), (29, .iload_n 3, 1), (30, .if_icmp .ge 44, 3), (33, .aload_n 0, 1), (34, .iload 6, 2), (36, .invokevirtual 36, 3), (39, .istore 7, 2), (41, .iload 7, 2), (43, .iload 5, 2), (45, .if_icmp .ge 23, 3), (48, .aload_n 0, 1), (49, .iload_n 3, 1), (50, .iload 6, 2), (52, .isub, 1), (53, .iload_n 2, 1), (54, .invokevirtual 32, 3), (57, .ifCond .eq 11, 3), (60, .iload 6, 2), (62, .istore 4, 2), (64, .iload 7, 2), (66, .istore 5, 2), (68, .iinc 6 1, 3), (71, .goto (-44), 3), (74, .iload 4, 2), (76, .ireturn, 1)]
theorem dd_X5_cheapest : ∀ q ∈ dt_X5_cheapest, decode cX5_cheapest q.1 = .ok q.2 := by
  first
  | (refine dw_all ?_; decide +kernel)
  | decide +kernel
noncomputable def dt_X5_asksOf : List (Nat × Instr × Nat) := [(0, .iconst 0, 1), (1, .istore_n 2, 1), (2, .iconst 0, 1), (3, .istore_n 3, 1), (4, .iload_n 3, 1), (5, .aload_n 0, 1), (6, .getfield 24, 3), (9, .if_icmp .ge 26, 3), (12, .iload_n 1, 1), (13, .iconst 1, 1), (14, .iload_n 3, 1), (15, .ishl, 1), (16, .iand, 1), (17, .ifCond .eq 12, 3), (20, .iload_n 2, 1), (21, .aload_n 0, 1), (22, .getfield 9, 3), (25, .iload_n 3, 1), (26, .iaload, 1), (27, .iadd, 1), (28, .istore_n 2, 1), (29, .iinc 3 1, 3), (32, .goto (-28), 3), (35, .iload_n 2, 1), (36, .ireturn, 1)]
theorem dd_X5_asksOf : ∀ q ∈ dt_X5_asksOf, decode cX5_asksOf q.1 = .ok q.2 := by
  first
  | (refine dw_all ?_; decide +kernel)
  | decide +kernel
noncomputable def dt_X5_findDisturbed : List (Nat × Instr × Nat) := [(0, .iconst 0, 1), (1, .istore_n 2, 1), (2, .iload_n 2, 1), (3, .aload_n 0, 1), (4, .getfield 24, 3), (7, .if_icmp .ge 95, 3), (10, .aload_n 0, 1), (11, .getfield 18, 3), (14, .iload_n 2, 1), (15, .iconst 0, 1), (16, .iastore, 1), (17, .iconst 0, 1), (18, .istore_n 3, 1), (19, .iload_n 3, 1), (20, .aload_n 0, 1), (21, .getfield 24, 3), (24, .if_icmp .ge 72, 3), (27, .aload_n 0, 1), (28, .getfield 15, 3), (31, .iload_n 2, 1), (32, .iaload, 1), (33, .aload_n 0, 1), (34, .getfield 15, 3), (37, .iload_n 3, 1), (38, .iaload, 1), (39, .if_icmp .eq 22, 3), (42, .aload_n 1, 1), (43, .aload_n 0, 1), (44, .getfield 15, 3), (47, .iload_n 2, 1), (48, .iaload, 1), (49, .aload_n 0, 1), (50, .getfield 15, 3), (53, .iload_n 3, 1), (54, .iaload, 1), (55, .invokevirtual 40, 3), (58, .ifCond .eq 7, 3), (61, .iconst 1, 1), (62, .goto 4, 3), (65, .iconst 0, 1), (66, .istore 4, 2), (68, .iload_n 2, 1), (69, .iload_n 3, 1), (70, .if_icmp .eq 20, 3), (73, .iload 4, 2), (75, .ifCond .eq 15, 3), (78, .aload_n 0, 1), (79, .getfield 18, 3), (82, .iload_n 2, 1), (83, .dup2, 1), (84, .iaload, 1), (85, .iconst 1, 1), (86, .iload_n 3, 1), (87, .ishl, 1), (88, .ior, 1), (89, .iastore, 1), (90, .iinc 3 1, 3), (93, .goto (-74), 3), (96, .iinc 2 1, 3), (99, .goto (-97), 3), (102, .return_, 1)]
theorem dd_X5_findDisturbed : ∀ q ∈ dt_X5_findDisturbed, decode cX5_findDisturbed q.1 = .ok q.2 := by
  first
  | (refine dw_all ?_; decide +kernel)
  | decide +kernel
noncomputable def dt_X5_packAgain : List (Nat × Instr × Nat) := [(0, .aload_n 0, 1), (1, .getfield 21, 3), (4, .iconst 0, 1), (5, .invokestatic 45, 3), (8, .aload_n 0, 1), (9, .iconst 0, 1), (10, .iload_n 1, 1), (11, .iload_n 2, 1), (12, .iconst 0, 1), (13, .invokestatic 51, 3), (16, .ireturn, 1)]
theorem dd_X5_packAgain : ∀ q ∈ dt_X5_packAgain, decode cX5_packAgain q.1 = .ok q.2 := by
  first
  | (refine dw_all ?_; decide +kernel)
  | decide +kernel
noncomputable def dt_X5_packFrom : List (Nat × Instr × Nat) := [(0, .iload_n 1, 1), (1, .aload_n 0, 1), (2, .getfield 24, 3), (5, .if_icmp .ge 9, 3), (8, .iload_n 1, 1), (9, .bipush 10, 2), (11, .if_icmp .lt 5, 3), (14, .iconst 1, 1), (15, .ireturn, 1), (16, .iconst 1, 1), (17, .iload_n 1, 1), (18, .ishl, 1), (19, .istore 5, 2), (21, .iload_n 2, 1), (22, .iload 5, 2), (24, .iand, 1), (25, .ifCond .ne 15, 3), (28, .aload_n 0, 1), (29, .iload_n 1, 1), (30, .iconst 1, 1), (31, .iadd, 1), (32, .iload_n 2, 1), (33, .iload_n 3, 1), (34, .iload 4, 2), (36, .invokestatic 51, 3), (39, .ireturn, 1), (40, .iconst 0, 1), (41, .istore 6, 2), (43, .iload 6, 2), (45, .iload 4, 2), (47, .if_icmp .gt 79, 3), (50, .iload 6, 2), (52, .iload_n 3, 1), (53, .if_icmp .ge 73, 3), (56, .aload_n 0, 1), (57, .getfield 21, 3), (60, .iload 6, 2), (62, .iaload, 1), (63, .aload_n 0, 1), (64, .getfield 18, 3), (67, .iload_n 1, 1), (68, .iaload, 1), (69, .iand, 1), (70, .ifCond .ne 50, 3), (73, .aload_n 0, 1), (74, .getfield 21, 3), (77, .iload 6, 2), (79, .dup2, 1), (80, .iaload, 1), (81, .iload 5, 2), (83, .ior, 1), (84, .iastore, 1), (85, .aload_n 0, 1), (86, .iload_n 1, 1), (87, .iconst 1, 1), (88, .iadd, 1), (89, .iload_n 2, 1), (90, .iload_n 3, 1), (91, .iload 4, 2), (93, .iload 6, 2), (95, .iconst 1, 1), (96, .iadd, 1), (97, .invokestatic 55, 3), (100, .invokestatic 51, 3), (103, .ifCond .eq 5, 3), (106, .iconst 1, 1), (107, .ireturn, 1), (108, .aload_n 0, 1), (109, .getfield 21, 3), (112, .iload 6, 2), (114, .dup2, 1), (115, .iaload, 1), (116, .iload 5, 2), (118, .isub, 1), (119, .iastore, 1), (120, .iinc 6 1, 3), (123, .goto (-80), 3), (126, .iconst 0, 1), (127, .ireturn, 1)]
theorem dd_X5_packFrom : ∀ q ∈ dt_X5_packFrom, decode cX5_packFrom q.1 = .ok q.2 := by
  first
  | (refine dw_all ?_; decide +kernel)
  | decide +kernel
noncomputable def dt_X6_init : List (Nat × Instr × Nat) := [(0, .aload_n 0, 1), (1, .invokespecial 3, 3), (4, .aload_n 0, 1), (5, .iconst 5, 1), (6, .newarray .int, 2), (8, .putfield 9, 3), (11, .aload_n 0, 1), (12, .iconst 5, 1), (13, .newarray .int, 2), (15, .putfield 15, 3), (18, .aload_n 0, 1), (19, .iconst 5, 1), (20, .newarray .int, 2), (22, .putfield 18, 3), (25, .aload_n 0, 1), (26, .iconst 5, 1), (27, .newarray .int, 2), (29, .putfield 21, 3), (32, .aload_n 0, 1), (33, .bipush 6, 2), (35, .newarray .int, 2), (37, .putfield 24, 3), (40, .aload_n 0, 1), (41, .bipush 6, 2), (43, .newarray .int, 2), (45, .putfield 27, 3), (48, .aload_n 0, 1), (49, .bipush 6, 2), (51, .newarray .int, 2), (53, .putfield 30, 3), (56, .aload_n 0, 1), (57, .bipush 6, 2), (59, .newarray .int, 2), (61, .putfield 33, 3), (64, .aload_n 0, 1), (65, .iconst 5, 1), (66, .putfield 36, 3), (69, .aload_n 0, 1), (70, .iconst 1, 1), (71, .putfield 40, 3), (74, .return_, 1)]
theorem dd_X6_init : ∀ q ∈ dt_X6_init, decode cX6_init q.1 = .ok q.2 := by
  first
  | (refine dw_all ?_; decide +kernel)
  | decide +kernel
noncomputable def dt_X6_addRegion : List (Nat × Instr × Nat) := [(0, .aload_n 0, 1), (1, .getfield 44, 3), (4, .istore 4, 2), (6, .iload 4, 2), (8, .iconst 5, 1), (9, .if_icmp .ge 37, 3), (12, .aload_n 0, 1), (13, .getfield 9, 3), (16, .iload 4, 2), (18, .iload_n 1, 1), (19, .iastore, 1), (20, .aload_n 0, 1), (21, .getfield 15, 3), (24, .iload 4, 2), (26, .iload_n 2, 1), (27, .iastore, 1), (28, .aload_n 0, 1), (29, .getfield 18, 3), (32, .iload 4, 2), (34, .iload_n 3, 1), (35, .iastore, 1), (36, .aload_n 0, 1), (37, .dup, 1), (38, .getfield 44, 3), (41, .iconst 1, 1), (42, .iadd, 1), (43, .putfield 44, 3), (46, .iload 4, 2), (48, .ireturn, 1)]
theorem dd_X6_addRegion : ∀ q ∈ dt_X6_addRegion, decode cX6_addRegion q.1 = .ok q.2 := by
  first
  | (refine dw_all ?_; decide +kernel)
  | decide +kernel
noncomputable def dt_X6_addBorder : List (Nat × Instr × Nat) := [(0, .aload_n 0, 1), (1, .getfield 21, 3), (4, .iload_n 1, 1), (5, .dup2, 1), (6, .iaload, 1), (7, .iconst 1, 1), (8, .iload_n 2, 1), (9, .ishl, 1), (10, .ior, 1), (11, .iastore, 1), (12, .aload_n 0, 1), (13, .getfield 21, 3), (16, .iload_n 2, 1), (17, .dup2, 1), (18, .iaload, 1), (19, .iconst 1, 1), (20, .iload_n 1, 1), (21, .ishl, 1), (22, .ior, 1), (23, .iastore, 1), (24, .iconst 0, 1), (25, .istore_n 3, 1), (26, .iconst 0, 1), (27, .istore 4, 2), (29, .iload 4, 2), (31, .aload_n 0, 1), (32, .getfield 44, 3), (35, .if_icmp .ge 22, 3), (38, .iload_n 3, 1), (39, .aload_n 0, 1), (40, .getfield 21, 3), (43, .iload 4, 2), (45, .iaload, 1), (46, .invokestatic 47, 3), (49, .iadd, 1), (50, .istore_n 3, 1), (51, .iinc 4 1, 3), (54, .goto (-25), 3), (57, .iload_n 3, 1), (58, .iconst 2, 1), (59, .idiv, 1), (60, .ireturn, 1)]
theorem dd_X6_addBorder : ∀ q ∈ dt_X6_addBorder, decode cX6_addBorder q.1 = .ok q.2 := by
  first
  | (refine dw_all ?_; decide +kernel)
  | decide +kernel
noncomputable def dt_X6_addBidder : List (Nat × Instr × Nat) := [(0, .aload_n 0, 1), (1, .getfield 53, 3), (4, .istore 5, 2), (6, .iload 5, 2), (8, .bipush 6, 2), (10, .if_icmp .ge 46, 3), (13, .aload_n 0, 1), (14, .getfield 24, 3), (17, .iload 5, 2), (19, .iload_n 1, 1), (20, .iastore, 1), (21, .aload_n 0, 1), (22, .getfield 27, 3), (25, .iload 5, 2), (27, .iload_n 2, 1), (28, .iastore, 1), (29, .aload_n 0, 1), (30, .getfield 30, 3), (33, .iload 5, 2), (35, .iload_n 3, 1), (36, .iastore, 1), (37, .aload_n 0, 1), (38, .getfield 33, 3), (41, .iload 5, 2), (43, .iload 4, 2), (45, .iastore, 1), (46, .aload_n 0, 1), (47, .dup, 1), (48, .getfield 53, 3), (51, .iconst 1, 1), (52, .iadd, 1), (53, .putfield 53, 3), (56, .iload 5, 2), (58, .ireturn, 1)]
theorem dd_X6_addBidder : ∀ q ∈ dt_X6_addBidder, decode cX6_addBidder q.1 = .ok q.2 := by
  first
  | (refine dw_all ?_; decide +kernel)
  | decide +kernel
noncomputable def dt_X6_areNeighbours : List (Nat × Instr × Nat) := [(0, .aload_n 0, 1), (1, .getfield 21, 3), (4, .iload_n 1, 1), (5, .iaload, 1), (6, .iconst 1, 1), (7, .iload_n 2, 1), (8, .ishl, 1), (9, .iand, 1), (10, .ifCond .eq 7, 3), (13, .iconst 1, 1), (14, .goto 4, 3), (17, .iconst 0, 1), (18, .ireturn, 1)]
theorem dd_X6_areNeighbours : ∀ q ∈ dt_X6_areNeighbours, decode cX6_areNeighbours q.1 = .ok q.2 := by
  first
  | (refine dw_all ?_; decide +kernel)
  | decide +kernel
noncomputable def dt_X6_areAllies : List (Nat × Instr × Nat) := [(0, .iload_n 1, 1), (1, .iload_n 2, 1), (2, .if_icmp .eq 31, 3), (5, .aload_n 0, 1), (6, .getfield 33, 3), (9, .iload_n 1, 1), (10, .iaload, 1), (11, .ifCond .eq 22, 3), (14, .aload_n 0, 1), (15, .getfield 33, 3), (18, .iload_n 1, 1), (19, .iaload, 1), (20, .aload_n 0, 1), (21, .getfield 33, 3), (24, .iload_n 2, 1), (25, .iaload, 1), (26, .if_icmp .ne 7, 3), (29, .iconst 1, 1), (30, .goto 4, 3), (33, .iconst 0, 1), (34, .ireturn, 1)]
theorem dd_X6_areAllies : ∀ q ∈ dt_X6_areAllies, decode cX6_areAllies q.1 = .ok q.2 := by
  first
  | (refine dw_all ?_; decide +kernel)
  | decide +kernel
noncomputable def dt_X6_isCode : List (Nat × Instr × Nat) := [(0, .iconst 1, 1), (1, .istore_n 2, 1), (2, .iconst 0, 1), (3, .istore_n 3, 1), (4, .iload_n 3, 1), (5, .aload_n 0, 1), (6, .getfield 44, 3), (9, .if_icmp .ge 14, 3), (12, .iload_n 2, 1), (13, .bipush 6, 2), (15, .imul, 1), (16, .istore_n 2, 1), (17, .iinc 3 1, 3), (20, .goto (-16), 3), (23, .iload_n 1, 1), (24, .ifCond .lt 12, 3), (27, .iload_n 1, 1), (28, .iload_n 2, 1), (29, .if_icmp .ge 7, 3), (32, .iconst 1, 1), (33, .goto 4, 3), (36, .iconst 0, 1), (37, .ireturn, 1)]
theorem dd_X6_isCode : ∀ q ∈ dt_X6_isCode, decode cX6_isCode q.1 = .ok q.2 := by
  first
  | (refine dw_all ?_; decide +kernel)
  | decide +kernel
noncomputable def dt_X6_mayOffer : List (Nat × Instr × Nat) := [(0, .iload_n 2, 1), (1, .ifCond .eq 48, 3), (4, .iload_n 2, 1), (5, .aload_n 0, 1), (6, .getfield 9, 3), (9, .invokestatic 58, 3), (12, .ifCond .eq 37, 3), (15, .aload_n 0, 1), (16, .iload_n 2, 1), (17, .invokevirtual 62, 3), (20, .ifCond .eq 29, 3), (23, .iload_n 3, 1), (24, .iload_n 2, 1), (25, .aload_n 0, 1), (26, .getfield 18, 3), (29, .invokestatic 66, 3), (32, .if_icmp .lt 17, 3), (35, .iload_n 3, 1), (36, .aload_n 0, 1), (37, .getfield 24, 3), (40, .iload_n 1, 1), (41, .iaload, 1), (42, .if_icmp .gt 7, 3), (45, .iconst 1, 1), (46, .goto 4, 3), (49, .iconst 0, 1), (50, .ireturn, 1)]
theorem dd_X6_mayOffer : ∀ q ∈ dt_X6_mayOffer, decode cX6_mayOffer q.1 = .ok q.2 := by
  first
  | (refine dw_all ?_; decide +kernel)
  | decide +kernel
noncomputable def dt_X6_isWithinCap : List (Nat × Instr × Nat) := [(0, .iconst 0, 1), (1, .istore_n 2, 1), (2, .iload_n 2, 1), (3, .aload_n 0, 1), (4, .getfield 44, 3), (7, .if_icmp .ge 23, 3), (10, .iload_n 1, 1), (11, .iload_n 2, 1), (12, .invokestatic 70, 3), (15, .aload_n 0, 1), (16, .getfield 36, 3), (19, .if_icmp .le 5, 3), (22, .iconst 0, 1), (23, .ireturn, 1), (24, .iinc 2 1, 3), (27, .goto (-25), 3), (30, .iconst 1, 1), (31, .ireturn, 1)]
theorem dd_X6_isWithinCap : ∀ q ∈ dt_X6_isWithinCap, decode cX6_isWithinCap q.1 = .ok q.2 := by
  first
  | (refine dw_all ?_; decide +kernel)
  | decide +kernel
noncomputable def dt_X7_init : List (Nat × Instr × Nat) := [(0, .aload_n 0, 1), (1, .invokespecial 3, 3), (4, .aload_n 0, 1), (5, .new 9, 3), (8, .dup, 1), (9, .invokespecial 11, 3), (12, .putfield 12, 3), (15, .aload_n 0, 1), (16, .new 16, 3), (19, .dup, 1), (20, .invokespecial 18, 3), (23, .putfield 19, 3), (26, .aload_n 0, 1), (27, .new 16, 3), (30, .dup, 1), (31, .invokespecial 18, 3), (34, .putfield 23, 3), (37, .aload_n 0, 1), (38, .new 26, 3), (41, .dup, 1), (42, .invokespecial 28, 3), (45, .putfield 29, 3), (48, .aload_n 0, 1), (49, .new 33, 3), (52, .dup, 1), (53, .invokespecial 35, 3), (56, .putfield 36, 3), (59, .aload_n 0, 1), (60, .new 40, 3), (63, .dup, 1), (64, .invokespecial 42, 3), (67, .putfield 43, 3), (70, .aload_n 0, 1), (71, .new 47, 3), (74, .dup, 1), (75, .invokespecial 49, 3), (78, .putfield 50, 3), (81, .aload_n 0, 1), (82, .iconst 0, 1), (83, .putfield 54, 3), (86, .aload_n 0, 1), (87, .bipush 10, 2), (89, .putfield 58, 3), (92, .return_, 1)]
theorem dd_X7_init : ∀ q ∈ dt_X7_init, decode cX7_init q.1 = .ok q.2 := by
  first
  | (refine dw_all ?_; decide +kernel)
  | decide +kernel
noncomputable def dt_X7_region : List (Nat × Instr × Nat) := [(0, .iload_n 1, 1), (1, .iconst 1, 1), (2, .iconst 5, 1), (3, .invokestatic 61, 3), (6, .iload_n 2, 1), (7, .iconst 1, 1), (8, .bipush 9, 2), (10, .invokestatic 61, 3), (13, .iload_n 3, 1), (14, .iconst 1, 1), (15, .sipush 999, 3), (18, .invokestatic 61, 3), (21, .aload_n 0, 1), (22, .iconst 0, 1), (23, .invokevirtual 65, 3), (26, .aload_n 0, 1), (27, .getfield 12, 3), (30, .getfield 69, 3), (33, .iconst 5, 1), (34, .if_icmp .lt 13, 3), (37, .new 72, 3), (40, .dup, 1), (41, .ldc 74, 2), (43, .invokespecial 76, 3), (46, .athrow, 1), (47, .aload_n 0, 1), (48, .getfield 12, 3), (51, .iload_n 1, 1), (52, .iload_n 2, 1), (53, .iload_n 3, 1), (54, .invokevirtual 79, 3), (57, .istore 4, 2), (59, .aload_n 0, 1), (60, .getfield 19, 3), (63, .aload_n 0, 1), (64, .getfield 12, 3), (67, .invokevirtual 83, 3), (70, .iload 4, 2), (72, .ireturn, 1)]
theorem dd_X7_region : ∀ q ∈ dt_X7_region, decode cX7_region q.1 = .ok q.2 := by
  first
  | (refine dw_all ?_; decide +kernel)
  | decide +kernel
noncomputable def dt_X7_border : List (Nat × Instr × Nat) := [(0, .aload_n 0, 1), (1, .iload_n 1, 1), (2, .invokevirtual 87, 3), (5, .aload_n 0, 1), (6, .iload_n 2, 1), (7, .invokevirtual 87, 3), (10, .iload_n 1, 1), (11, .iload_n 2, 1), (12, .if_icmp .ne 13, 3), (15, .new 90, 3), (18, .dup, 1), (19, .ldc 92, 2), (21, .invokespecial 94, 3), (24, .athrow, 1), (25, .aload_n 0, 1), (26, .iconst 0, 1), (27, .invokevirtual 65, 3), (30, .aload_n 0, 1), (31, .getfield 12, 3), (34, .iload_n 1, 1), (35, .iload_n 2, 1), (36, .invokevirtual 95, 3), (39, .ireturn, 1)]
theorem dd_X7_border : ∀ q ∈ dt_X7_border, decode cX7_border q.1 = .ok q.2 := by
  first
  | (refine dw_all ?_; decide +kernel)
  | decide +kernel
noncomputable def dt_X7_bidder : List (Nat × Instr × Nat) := [(0, .iload_n 1, 1), (1, .iconst 0, 1), (2, .ldc 99, 2), (4, .invokestatic 61, 3), (7, .iload_n 2, 1), (8, .iconst 1, 1), (9, .sipush 200, 3), (12, .invokestatic 61, 3), (15, .iload_n 3, 1), (16, .iconst 0, 1), (17, .bipush 30, 2), (19, .invokestatic 61, 3), (22, .iload 4, 2), (24, .iconst 0, 1), (25, .iconst 3, 1), (26, .invokestatic 61, 3), (29, .aload_n 0, 1), (30, .iconst 0, 1), (31, .invokevirtual 65, 3), (34, .aload_n 0, 1), (35, .getfield 12, 3), (38, .getfield 100, 3), (41, .bipush 6, 2), (43, .if_icmp .lt 13, 3), (46, .new 72, 3), (49, .dup, 1), (50, .ldc 103, 2), (52, .invokespecial 76, 3), (55, .athrow, 1), (56, .aload_n 0, 1), (57, .getfield 12, 3), (60, .iload_n 1, 1), (61, .iload_n 2, 1), (62, .iload_n 3, 1), (63, .iload 4, 2), (65, .invokevirtual 105, 3), (68, .istore 5, 2), (70, .aload_n 0, 1), (71, .getfield 19, 3), (74, .aload_n 0, 1), (75, .getfield 12, 3), (78, .invokevirtual 83, 3), (81, .iload 5, 2), (83, .ireturn, 1)]
theorem dd_X7_bidder : ∀ q ∈ dt_X7_bidder, decode cX7_bidder q.1 = .ok q.2 := by
  first
  | (refine dw_all ?_; decide +kernel)
  | decide +kernel
noncomputable def dt_X7_rules : List (Nat × Instr × Nat) := [(0, .iload_n 1, 1), (1, .iconst 1, 1), (2, .iconst 5, 1), (3, .invokestatic 61, 3), (6, .aload_n 0, 1), (7, .iconst 0, 1), (8, .invokevirtual 65, 3), (11, .aload_n 0, 1), (12, .getfield 12, 3), (15, .getfield 109, 3), (18, .istore_n 3, 1), (19, .aload_n 0, 1), (20, .getfield 12, 3), (23, .iload_n 1, 1), (24, .putfield 109, 3), (27, .aload_n 0, 1), (28, .getfield 12, 3), (31, .iload_n 2, 1), (32, .putfield 112, 3), (35, .iload_n 3, 1), (36, .ireturn, 1)]
theorem dd_X7_rules : ∀ q ∈ dt_X7_rules, decode cX7_rules q.1 = .ok q.2 := by
  first
  | (refine dw_all ?_; decide +kernel)
  | decide +kernel
noncomputable def dt_X7_step : List (Nat × Instr × Nat) := [(0, .iload_n 1, 1), (1, .iconst 1, 1), (2, .bipush 20, 2), (4, .invokestatic 61, 3), (7, .aload_n 0, 1), (8, .getfield 54, 3), (11, .ifCond .eq 21, 3), (14, .aload_n 0, 1), (15, .getfield 54, 3), (18, .iconst 1, 1), (19, .if_icmp .eq 13, 3), (22, .new 72, 3), (25, .dup, 1), (26, .ldc 116, 2), (28, .invokespecial 76, 3), (31, .athrow, 1), (32, .aload_n 0, 1), (33, .getfield 58, 3), (36, .istore_n 2, 1), (37, .aload_n 0, 1), (38, .iload_n 1, 1), (39, .putfield 58, 3), (42, .iload_n 2, 1), (43, .ireturn, 1)]
theorem dd_X7_step : ∀ q ∈ dt_X7_step, decode cX7_step q.1 = .ok q.2 := by
  first
  | (refine dw_all ?_; decide +kernel)
  | decide +kernel
noncomputable def dt_X7_open : List (Nat × Instr × Nat) := [(0, .aload_n 0, 1), (1, .iconst 0, 1), (2, .invokevirtual 65, 3), (5, .aload_n 0, 1), (6, .getfield 12, 3), (9, .getfield 69, 3), (12, .ifCond .eq 13, 3), (15, .aload_n 0, 1), (16, .getfield 12, 3), (19, .getfield 100, 3), (22, .ifCond .ne 13, 3), (25, .new 72, 3), (28, .dup, 1), (29, .ldc 118, 2), (31, .invokespecial 76, 3), (34, .athrow, 1), (35, .aload_n 0, 1), (36, .iconst 1, 1), (37, .putfield 54, 3), (40, .aload_n 0, 1), (41, .getfield 19, 3), (44, .invokevirtual 120, 3), (47, .ireturn, 1)]
theorem dd_X7_open : ∀ q ∈ dt_X7_open, decode cX7_open q.1 = .ok q.2 := by
  first
  | (refine dw_all ?_; decide +kernel)
  | decide +kernel
noncomputable def dt_X7_wish : List (Nat × Instr × Nat) := [(0, .aload_n 0, 1), (1, .iload_n 1, 1), (2, .invokevirtual 124, 3), (5, .aload_n 0, 1), (6, .iload_n 2, 1), (7, .invokevirtual 87, 3), (10, .iload_n 3, 1), (11, .iconst 0, 1), (12, .iconst 5, 1), (13, .invokestatic 61, 3), (16, .aload_n 0, 1), (17, .iconst 1, 1), (18, .invokevirtual 65, 3), (21, .aload_n 0, 1), (22, .getfield 19, 3), (25, .aload_n 0, 1), (26, .getfield 12, 3), (29, .iload_n 1, 1), (30, .iload_n 2, 1), (31, .iload_n 3, 1), (32, .invokevirtual 127, 3), (35, .ifCond .ne 13, 3), (38, .new 72, 3), (41, .dup, 1), (42, .ldc 131, 2), (44, .invokespecial 76, 3), (47, .athrow, 1), (48, .aload_n 0, 1), (49, .getfield 19, 3), (52, .getfield 133, 3), (55, .iload_n 1, 1), (56, .aload_n 0, 1), (57, .getfield 19, 3), (60, .getfield 133, 3), (63, .iload_n 1, 1), (64, .iaload, 1), (65, .iload_n 2, 1), (66, .iload_n 3, 1), (67, .invokestatic 137, 3), (70, .iastore, 1), (71, .aload_n 0, 1), (72, .getfield 19, 3), (75, .getfield 133, 3), (78, .iload_n 1, 1), (79, .iaload, 1), (80, .aload_n 0, 1), (81, .getfield 12, 3), (84, .getfield 142, 3), (87, .invokestatic 145, 3), (90, .ireturn, 1)]
theorem dd_X7_wish : ∀ q ∈ dt_X7_wish, decode cX7_wish q.1 = .ok q.2 := by
  first
  | (refine dw_all ?_; decide +kernel)
  | decide +kernel
noncomputable def dt_X7_waive : List (Nat × Instr × Nat) := [(0, .aload_n 0, 1), (1, .iload_n 1, 1), (2, .invokevirtual 124, 3), (5, .aload_n 0, 1), (6, .iconst 1, 1), (7, .invokevirtual 65, 3), (10, .aload_n 0, 1), (11, .getfield 19, 3), (14, .getfield 149, 3), (17, .iload_n 1, 1), (18, .iaload, 1), (19, .ifCond .le 14, 3), (22, .aload_n 0, 1), (23, .getfield 19, 3), (26, .iload_n 1, 1), (27, .invokevirtual 152, 3), (30, .ifCond .eq 13, 3), (33, .new 72, 3), (36, .dup, 1), (37, .ldc 156, 2), (39, .invokespecial 76, 3), (42, .athrow, 1), (43, .aload_n 0, 1), (44, .getfield 19, 3), (47, .iload_n 1, 1), (48, .invokevirtual 158, 3), (51, .aload_n 0, 1), (52, .getfield 19, 3), (55, .getfield 149, 3), (58, .iload_n 1, 1), (59, .iaload, 1), (60, .ireturn, 1)]
theorem dd_X7_waive : ∀ q ∈ dt_X7_waive, decode cX7_waive q.1 = .ok q.2 := by
  first
  | (refine dw_all ?_; decide +kernel)
  | decide +kernel
noncomputable def dt_X7_close : List (Nat × Instr × Nat) := [(0, .iload_n 1, 1), (1, .iconst 1, 1), (2, .bipush 9, 2), (4, .invokestatic 61, 3), (7, .aload_n 0, 1), (8, .iconst 1, 1), (9, .invokevirtual 65, 3), (12, .iconst 0, 1), (13, .istore_n 2, 1), (14, .iload_n 2, 1), (15, .iload_n 1, 1), (16, .if_icmp .ge 39, 3), (19, .aload_n 0, 1), (20, .getfield 54, 3), (23, .iconst 1, 1), (24, .if_icmp .ne 31, 3), (27, .aload_n 0, 1), (28, .getfield 19, 3), (31, .aload_n 0, 1), (32, .getfield 12, 3), (35, .aload_n 0, 1), (36, .getfield 58, 3), (39, .invokevirtual 161, 3), (42, .ifCond .eq 7, 3), (45, .aload_n 0, 1), (46, .invokevirtual 165, 3), (49, .iinc 2 1, 3), (52, .goto (-38), 3), (55, .aload_n 0, 1), (56, .getfield 54, 3), (59, .ireturn, 1)]
theorem dd_X7_close : ∀ q ∈ dt_X7_close, decode cX7_close q.1 = .ok q.2 := by
  first
  | (refine dw_all ?_; decide +kernel)
  | decide +kernel
noncomputable def dt_X7_offer : List (Nat × Instr × Nat) := [(0, .aload_n 0, 1), (1, .iload_n 1, 1), (2, .invokevirtual 124, 3), (5, .aload_n 0, 1), (6, .getfield 12, 3), (9, .iload_n 2, 1), (10, .invokevirtual 168, 3), (13, .ifCond .eq 7, 3), (16, .iload_n 3, 1), (17, .ifCond .ge 13, 3), (20, .new 90, 3), (23, .dup, 1), (24, .ldc 171, 2), (26, .invokespecial 94, 3), (29, .athrow, 1), (30, .aload_n 0, 1), (31, .iconst 2, 1), (32, .invokevirtual 65, 3), (35, .aload_n 0, 1), (36, .getfield 29, 3), (39, .getfield 173, 3), (42, .iload_n 1, 1), (43, .iaload, 1), (44, .bipush 6, 2), (46, .if_icmp .ge 16, 3), (49, .aload_n 0, 1), (50, .getfield 12, 3), (53, .iload_n 1, 1), (54, .iload_n 2, 1), (55, .iload_n 3, 1), (56, .invokevirtual 176, 3), (59, .ifCond .ne 13, 3), (62, .new 72, 3), (65, .dup, 1), (66, .ldc 180, 2), (68, .invokespecial 76, 3), (71, .athrow, 1), (72, .aload_n 0, 1), (73, .getfield 29, 3), (76, .getfield 173, 3), (79, .iload_n 1, 1), (80, .iaload, 1), (81, .istore 4, 2), (83, .aload_n 0, 1), (84, .getfield 29, 3), (87, .aload_n 0, 1), (88, .getfield 12, 3), (91, .iload_n 1, 1), (92, .iload_n 2, 1), (93, .iload_n 3, 1), (94, .invokevirtual 182, 3), (97, .aload_n 0, 1), (98, .getfield 36, 3), (101, .aload_n 0, 1), (102, .getfield 29, 3), (105, .invokevirtual 186, 3), (108, .iload 4, 2), (110, .ireturn, 1)]
theorem dd_X7_offer : ∀ q ∈ dt_X7_offer, decode cX7_offer q.1 = .ok q.2 := by
  first
  | (refine dw_all ?_; decide +kernel)
  | decide +kernel
noncomputable def dt_X7_settle : List (Nat × Instr × Nat) := [(0, .iload_n 1, 1), (1, .iconst 0, 1), (2, .iconst 2, 1), (3, .invokestatic 61, 3), (6, .aload_n 0, 1), (7, .iconst 2, 1), (8, .invokevirtual 65, 3), (11, .aload_n 0, 1), (12, .iload_n 1, 1), (13, .putfield 190, 3), (16, .aload_n 0, 1), (17, .iconst 3, 1), (18, .putfield 54, 3), (21, .aload_n 0, 1), (22, .getfield 43, 3), (25, .aload_n 0, 1), (26, .getfield 12, 3), (29, .aload_n 0, 1), (30, .getfield 29, 3), (33, .invokevirtual 193, 3), (36, .aload_n 0, 1), (37, .getfield 29, 3), (40, .invokevirtual 197, 3), (43, .ireturn, 1)]
theorem dd_X7_settle : ∀ q ∈ dt_X7_settle, decode cX7_settle q.1 = .ok q.2 := by
  first
  | (refine dw_all ?_; decide +kernel)
  | decide +kernel
noncomputable def dt_X7_fail : List (Nat × Instr × Nat) := [(0, .aload_n 0, 1), (1, .iload_n 1, 1), (2, .invokevirtual 124, 3), (5, .aload_n 0, 1), (6, .iconst 3, 1), (7, .invokevirtual 65, 3), (10, .aload_n 0, 1), (11, .getfield 29, 3), (14, .getfield 200, 3), (17, .iload_n 1, 1), (18, .iaload, 1), (19, .iconst (-1), 1), (20, .if_icmp .ne 13, 3), (23, .new 72, 3), (26, .dup, 1), (27, .ldc 203, 2), (29, .invokespecial 76, 3), (32, .athrow, 1), (33, .aload_n 0, 1), (34, .getfield 29, 3), (37, .iload_n 1, 1), (38, .invokevirtual 205, 3), (41, .bipush 10, 2), (43, .idiv, 1), (44, .istore_n 2, 1), (45, .aload_n 0, 1), (46, .dup, 1), (47, .getfield 209, 3), (50, .iload_n 2, 1), (51, .iadd, 1), (52, .putfield 209, 3), (55, .aload_n 0, 1), (56, .getfield 29, 3), (59, .iload_n 1, 1), (60, .invokevirtual 212, 3), (63, .aload_n 0, 1), (64, .getfield 36, 3), (67, .aload_n 0, 1), (68, .getfield 29, 3), (71, .invokevirtual 186, 3), (74, .aload_n 0, 1), (75, .getfield 43, 3), (78, .aload_n 0, 1), (79, .getfield 12, 3), (82, .aload_n 0, 1), (83, .getfield 29, 3), (86, .invokevirtual 193, 3), (89, .iload_n 2, 1), (90, .ireturn, 1)]
theorem dd_X7_fail : ∀ q ∈ dt_X7_fail, decode cX7_fail q.1 = .ok q.2 := by
  first
  | (refine dw_all ?_; decide +kernel)
  | decide +kernel
noncomputable def dt_X7_station : List (Nat × Instr × Nat) := [(0, .aload_n 0, 1), (1, .iload_n 1, 1), (2, .invokevirtual 87, 3), (5, .iload_n 2, 1), (6, .iconst 1, 1), (7, .sipush 9999, 3), (10, .invokestatic 61, 3), (13, .aload_n 0, 1), (14, .getfield 50, 3), (17, .getfield 215, 3), (20, .bipush 10, 2), (22, .if_icmp .lt 13, 3), (25, .new 72, 3), (28, .dup, 1), (29, .ldc 218, 2), (31, .invokespecial 76, 3), (34, .athrow, 1), (35, .aload_n 0, 1), (36, .getfield 50, 3), (39, .iload_n 1, 1), (40, .iload_n 2, 1), (41, .invokevirtual 220, 3), (44, .ireturn, 1)]
theorem dd_X7_station : ∀ q ∈ dt_X7_station, decode cX7_station q.1 = .ok q.2 := by
  first
  | (refine dw_all ?_; decide +kernel)
  | decide +kernel
noncomputable def dt_X7_ask : List (Nat × Instr × Nat) := [(0, .aload_n 0, 1), (1, .iload_n 1, 1), (2, .invokevirtual 222, 3), (5, .iload_n 2, 1), (6, .iconst 1, 1), (7, .sipush 9999, 3), (10, .invokestatic 61, 3), (13, .aload_n 0, 1), (14, .getfield 50, 3), (17, .getfield 225, 3), (20, .iload_n 1, 1), (21, .iaload, 1), (22, .istore_n 3, 1), (23, .aload_n 0, 1), (24, .getfield 50, 3), (27, .getfield 225, 3), (30, .iload_n 1, 1), (31, .iload_n 2, 1), (32, .iastore, 1), (33, .iload_n 3, 1), (34, .ireturn, 1)]
theorem dd_X7_ask : ∀ q ∈ dt_X7_ask, decode cX7_ask q.1 = .ok q.2 := by
  first
  | (refine dw_all ?_; decide +kernel)
  | decide +kernel
noncomputable def dt_X7_packs : List (Nat × Instr × Nat) := [(0, .iload_n 1, 1), (1, .aload_n 0, 1), (2, .getfield 50, 3), (5, .getfield 215, 3), (8, .invokestatic 228, 3), (11, .iload_n 2, 1), (12, .iconst 1, 1), (13, .bipush 6, 2), (15, .invokestatic 61, 3), (18, .aload_n 0, 1), (19, .getfield 50, 3), (22, .aload_n 0, 1), (23, .getfield 12, 3), (26, .iload_n 1, 1), (27, .iload_n 2, 1), (28, .invokevirtual 232, 3), (31, .ireturn, 1)]
theorem dd_X7_packs : ∀ q ∈ dt_X7_packs, decode cX7_packs q.1 = .ok q.2 := by
  first
  | (refine dw_all ?_; decide +kernel)
  | decide +kernel
noncomputable def dt_X7_channel : List (Nat × Instr × Nat) := [(0, .aload_n 0, 1), (1, .iload_n 3, 1), (2, .invokevirtual 222, 3), (5, .iload_n 1, 1), (6, .aload_n 0, 1), (7, .getfield 50, 3), (10, .getfield 215, 3), (13, .invokestatic 228, 3), (16, .iload_n 2, 1), (17, .iconst 1, 1), (18, .bipush 6, 2), (20, .invokestatic 61, 3), (23, .aload_n 0, 1), (24, .getfield 50, 3), (27, .aload_n 0, 1), (28, .getfield 12, 3), (31, .iload_n 1, 1), (32, .iload_n 2, 1), (33, .invokevirtual 232, 3), (36, .ifCond .eq 14, 3), (39, .aload_n 0, 1), (40, .getfield 50, 3), (43, .iload_n 3, 1), (44, .invokevirtual 236, 3), (47, .goto 4, 3), (50, .iconst (-1), 1), (51, .ireturn, 1)]
theorem dd_X7_channel : ∀ q ∈ dt_X7_channel, decode cX7_channel q.1 = .ok q.2 := by
  first
  | (refine dw_all ?_; decide +kernel)
  | decide +kernel
noncomputable def dt_X7_clear : List (Nat × Instr × Nat) := [(0, .iload_n 1, 1), (1, .iconst 1, 1), (2, .bipush 6, 2), (4, .invokestatic 61, 3), (7, .aload_n 0, 1), (8, .getfield 50, 3), (11, .aload_n 0, 1), (12, .getfield 12, 3), (15, .iload_n 1, 1), (16, .invokevirtual 239, 3), (19, .ireturn, 1)]
theorem dd_X7_clear : ∀ q ∈ dt_X7_clear, decode cX7_clear q.1 = .ok q.2 := by
  first
  | (refine dw_all ?_; decide +kernel)
  | decide +kernel
noncomputable def dt_X7_ofRegion : List (Nat × Instr × Nat) := [(0, .aload_n 0, 1), (1, .iload_n 1, 1), (2, .invokevirtual 87, 3), (5, .iload_n 2, 1), (6, .iconst 0, 1), (7, .bipush 8, 2), (9, .invokestatic 61, 3), (12, .aload_n 0, 1), (13, .iload_n 1, 1), (14, .iload_n 2, 1), (15, .invokevirtual 243, 3), (18, .ireturn, 1)]
theorem dd_X7_ofRegion : ∀ q ∈ dt_X7_ofRegion, decode cX7_ofRegion q.1 = .ok q.2 := by
  first
  | (refine dw_all ?_; decide +kernel)
  | decide +kernel
noncomputable def dt_X7_ofBidder : List (Nat × Instr × Nat) := [(0, .aload_n 0, 1), (1, .iload_n 1, 1), (2, .invokevirtual 124, 3), (5, .iload_n 2, 1), (6, .iconst 0, 1), (7, .bipush 10, 2), (9, .invokestatic 61, 3), (12, .aload_n 0, 1), (13, .iload_n 1, 1), (14, .iload_n 2, 1), (15, .invokevirtual 246, 3), (18, .ireturn, 1)]
theorem dd_X7_ofBidder : ∀ q ∈ dt_X7_ofBidder, decode cX7_ofBidder q.1 = .ok q.2 := by
  first
  | (refine dw_all ?_; decide +kernel)
  | decide +kernel
noncomputable def dt_X7_wants : List (Nat × Instr × Nat) := [(0, .aload_n 0, 1), (1, .iload_n 1, 1), (2, .invokevirtual 124, 3), (5, .aload_n 0, 1), (6, .iload_n 2, 1), (7, .invokevirtual 87, 3), (10, .iload_n 3, 1), (11, .ifCond .eq 15, 3), (14, .aload_n 0, 1), (15, .getfield 19, 3), (18, .getfield 249, 3), (21, .iload_n 1, 1), (22, .iaload, 1), (23, .goto 12, 3), (26, .aload_n 0, 1), (27, .getfield 19, 3), (30, .getfield 133, 3), (33, .iload_n 1, 1), (34, .iaload, 1), (35, .iload_n 2, 1), (36, .invokestatic 252, 3), (39, .ireturn, 1)]
theorem dd_X7_wants : ∀ q ∈ dt_X7_wants, decode cX7_wants q.1 = .ok q.2 := by
  first
  | (refine dw_all ?_; decide +kernel)
  | decide +kernel
noncomputable def dt_X7_priceIn : List (Nat × Instr × Nat) := [(0, .aload_n 0, 1), (1, .iload_n 1, 1), (2, .invokevirtual 255, 3), (5, .aload_n 0, 1), (6, .iload_n 2, 1), (7, .invokevirtual 87, 3), (10, .aload_n 0, 1), (11, .getfield 19, 3), (14, .getfield 258, 3), (17, .iload_n 1, 1), (18, .iconst 1, 1), (19, .isub, 1), (20, .aaload, 1), (21, .iload_n 2, 1), (22, .iaload, 1), (23, .ireturn, 1)]
theorem dd_X7_priceIn : ∀ q ∈ dt_X7_priceIn, decode cX7_priceIn q.1 = .ok q.2 := by
  first
  | (refine dw_all ?_; decide +kernel)
  | decide +kernel
noncomputable def dt_X7_codeIn : List (Nat × Instr × Nat) := [(0, .aload_n 0, 1), (1, .iload_n 1, 1), (2, .invokevirtual 255, 3), (5, .aload_n 0, 1), (6, .iload_n 2, 1), (7, .invokevirtual 124, 3), (10, .iload_n 3, 1), (11, .ifCond .eq 19, 3), (14, .aload_n 0, 1), (15, .getfield 19, 3), (18, .getfield 262, 3), (21, .iload_n 1, 1), (22, .iconst 1, 1), (23, .isub, 1), (24, .aaload, 1), (25, .iload_n 2, 1), (26, .iaload, 1), (27, .goto 16, 3), (30, .aload_n 0, 1), (31, .getfield 19, 3), (34, .getfield 265, 3), (37, .iload_n 1, 1), (38, .iconst 1, 1), (39, .isub, 1), (40, .aaload, 1), (41, .iload_n 2, 1), (42, .iaload, 1), (43, .ireturn, 1)]
theorem dd_X7_codeIn : ∀ q ∈ dt_X7_codeIn, decode cX7_codeIn q.1 = .ok q.2 := by
  first
  | (refine dw_all ?_; decide +kernel)
  | decide +kernel
noncomputable def dt_X7_ofPackage : List (Nat × Instr × Nat) := [(0, .aload_n 0, 1), (1, .iload_n 1, 1), (2, .invokevirtual 124, 3), (5, .iload_n 2, 1), (6, .ifCond .lt 16, 3), (9, .iload_n 2, 1), (10, .aload_n 0, 1), (11, .getfield 29, 3), (14, .getfield 173, 3), (17, .iload_n 1, 1), (18, .iaload, 1), (19, .if_icmp .lt 14, 3), (22, .new 268, 3), (25, .dup, 1), (26, .ldc_w 270, 3), (29, .invokespecial 272, 3), (32, .athrow, 1), (33, .iload_n 3, 1), (34, .ifCond .eq 17, 3), (37, .aload_n 0, 1), (38, .getfield 29, 3), (41, .getfield 273, 3), (44, .iload_n 1, 1), (45, .aaload, 1), (46, .iload_n 2, 1), (47, .iaload, 1), (48, .goto 14, 3), (51, .aload_n 0, 1), (52, .getfield 29, 3), (55, .getfield 276, 3), (58, .iload_n 1, 1), (59, .aaload, 1), (60, .iload_n 2, 1), (61, .iaload, 1), (62, .ireturn, 1)]
theorem dd_X7_ofPackage : ∀ q ∈ dt_X7_ofPackage, decode cX7_ofPackage q.1 = .ok q.2 := by
  first
  | (refine dw_all ?_; decide +kernel)
  | decide +kernel
noncomputable def dt_X7_wins : List (Nat × Instr × Nat) := [(0, .aload_n 0, 1), (1, .iload_n 1, 1), (2, .invokevirtual 124, 3), (5, .aload_n 0, 1), (6, .getfield 29, 3), (9, .getfield 200, 3), (12, .iload_n 1, 1), (13, .iaload, 1), (14, .ireturn, 1)]
theorem dd_X7_wins : ∀ q ∈ dt_X7_wins, decode cX7_wins q.1 = .ok q.2 := by
  first
  | (refine dw_all ?_; decide +kernel)
  | decide +kernel
noncomputable def dt_X7_pays : List (Nat × Instr × Nat) := [(0, .aload_n 0, 1), (1, .iload_n 1, 1), (2, .invokevirtual 124, 3), (5, .iload_n 2, 1), (6, .ifCond .eq 11, 3), (9, .aload_n 0, 1), (10, .iload_n 1, 1), (11, .invokevirtual 279, 3), (14, .goto 8, 3), (17, .aload_n 0, 1), (18, .iload_n 1, 1), (19, .invokevirtual 282, 3), (22, .ireturn, 1)]
theorem dd_X7_pays : ∀ q ∈ dt_X7_pays, decode cX7_pays q.1 = .ok q.2 := by
  first
  | (refine dw_all ?_; decide +kernel)
  | decide +kernel
noncomputable def dt_X7_holder : List (Nat × Instr × Nat) := [(0, .aload_n 0, 1), (1, .iload_n 1, 1), (2, .invokevirtual 87, 3), (5, .iload_n 2, 1), (6, .ifCond .lt 16, 3), (9, .iload_n 2, 1), (10, .aload_n 0, 1), (11, .getfield 12, 3), (14, .getfield 285, 3), (17, .iload_n 1, 1), (18, .iaload, 1), (19, .if_icmp .lt 14, 3), (22, .new 268, 3), (25, .dup, 1), (26, .ldc_w 288, 3), (29, .invokespecial 272, 3), (32, .athrow, 1), (33, .aload_n 0, 1), (34, .getfield 43, 3), (37, .getfield 290, 3), (40, .iload_n 1, 1), (41, .aaload, 1), (42, .iload_n 2, 1), (43, .iaload, 1), (44, .ireturn, 1)]
theorem dd_X7_holder : ∀ q ∈ dt_X7_holder, decode cX7_holder q.1 = .ok q.2 := by
  first
  | (refine dw_all ?_; decide +kernel)
  | decide +kernel
noncomputable def dt_X7_chart : List (Nat × Instr × Nat) := [(0, .aload_n 0, 1), (1, .iload_n 1, 1), (2, .invokevirtual 87, 3), (5, .new 293, 3), (8, .dup, 1), (9, .invokespecial 295, 3), (12, .astore_n 2, 1), (13, .aload_n 0, 1), (14, .getfield 43, 3), (17, .aload_n 0, 1), (18, .getfield 12, 3), (21, .iload_n 1, 1), (22, .aload_n 2, 1), (23, .invokevirtual 296, 3), (26, .aload_n 2, 1), (27, .invokevirtual 300, 3), (30, .areturn, 1)]
theorem dd_X7_chart : ∀ q ∈ dt_X7_chart, decode cX7_chart q.1 = .ok q.2 := by
  first
  | (refine dw_all ?_; decide +kernel)
  | decide +kernel
noncomputable def dt_X7_sale : List (Nat × Instr × Nat) := [(0, .iload_n 1, 1), (1, .iconst 0, 1), (2, .bipush 16, 2), (4, .invokestatic 61, 3), (7, .aload_n 0, 1), (8, .iload_n 1, 1), (9, .invokevirtual 304, 3), (12, .ireturn, 1)]
theorem dd_X7_sale : ∀ q ∈ dt_X7_sale, decode cX7_sale q.1 = .ok q.2 := by
  first
  | (refine dw_all ?_; decide +kernel)
  | decide +kernel
noncomputable def dt_X7_worth : List (Nat × Instr × Nat) := [(0, .iload_n 1, 1), (1, .aload_n 0, 1), (2, .getfield 12, 3), (5, .getfield 100, 3), (8, .invokestatic 228, 3), (11, .aload_n 0, 1), (12, .getfield 29, 3), (15, .getfield 307, 3), (18, .iload_n 1, 1), (19, .iaload, 1), (20, .ireturn, 1)]
theorem dd_X7_worth : ∀ q ∈ dt_X7_worth, decode cX7_worth q.1 = .ok q.2 := by
  first
  | (refine dw_all ?_; decide +kernel)
  | decide +kernel
noncomputable def dt_X7_wouldPay : List (Nat × Instr × Nat) := [(0, .aload_n 0, 1), (1, .iload_n 1, 1), (2, .invokevirtual 124, 3), (5, .iload_n 2, 1), (6, .iconst 0, 1), (7, .iconst 2, 1), (8, .invokestatic 61, 3), (11, .aload_n 0, 1), (12, .getfield 36, 3), (15, .getfield 310, 3), (18, .iload_n 2, 1), (19, .aaload, 1), (20, .iload_n 1, 1), (21, .iaload, 1), (22, .ireturn, 1)]
theorem dd_X7_wouldPay : ∀ q ∈ dt_X7_wouldPay, decode cX7_wouldPay q.1 = .ok q.2 := by
  first
  | (refine dw_all ?_; decide +kernel)
  | decide +kernel
noncomputable def dt_X7_objects : List (Nat × Instr × Nat) := [(0, .iload_n 1, 1), (1, .aload_n 0, 1), (2, .getfield 12, 3), (5, .getfield 100, 3), (8, .invokestatic 228, 3), (11, .iload_n 2, 1), (12, .iconst 0, 1), (13, .iconst 2, 1), (14, .invokestatic 61, 3), (17, .iconst 0, 1), (18, .aload_n 0, 1), (19, .getfield 36, 3), (22, .aload_n 0, 1), (23, .getfield 29, 3), (26, .iload_n 1, 1), (27, .iload_n 2, 1), (28, .invokevirtual 313, 3), (31, .invokestatic 317, 3), (34, .ireturn, 1)]
theorem dd_X7_objects : ∀ q ∈ dt_X7_objects, decode cX7_objects q.1 = .ok q.2 := by
  first
  | (refine dw_all ?_; decide +kernel)
  | decide +kernel
noncomputable def dt_X7_most : List (Nat × Instr × Nat) := [(0, .aload_n 0, 1), (1, .iload_n 1, 1), (2, .invokevirtual 124, 3), (5, .aload_n 0, 1), (6, .iload_n 2, 1), (7, .invokevirtual 87, 3), (10, .aload_n 0, 1), (11, .getfield 54, 3), (14, .iconst 1, 1), (15, .if_icmp .ne 19, 3), (18, .aload_n 0, 1), (19, .getfield 19, 3), (22, .aload_n 0, 1), (23, .getfield 12, 3), (26, .iload_n 1, 1), (27, .iload_n 2, 1), (28, .invokevirtual 322, 3), (31, .goto 4, 3), (34, .iconst (-1), 1), (35, .ireturn, 1)]
theorem dd_X7_most : ∀ q ∈ dt_X7_most, decode cX7_most q.1 = .ok q.2 := by
  first
  | (refine dw_all ?_; decide +kernel)
  | decide +kernel
noncomputable def dt_X7_contradicts : List (Nat × Instr × Nat) := [(0, .aload_n 0, 1), (1, .iload_n 1, 1), (2, .invokevirtual 124, 3), (5, .aload_n 0, 1), (6, .getfield 54, 3), (9, .iconst 1, 1), (10, .if_icmp .ne 14, 3), (13, .aload_n 0, 1), (14, .getfield 19, 3), (17, .iload_n 1, 1), (18, .invokevirtual 326, 3), (21, .goto 4, 3), (24, .iconst (-1), 1), (25, .ireturn, 1)]
theorem dd_X7_contradicts : ∀ q ∈ dt_X7_contradicts, decode cX7_contradicts q.1 = .ok q.2 := by
  first
  | (refine dw_all ?_; decide +kernel)
  | decide +kernel
noncomputable def dt_X7_anew : List (Nat × Instr × Nat) := [(0, .aload_n 0, 1), (1, .iload_n 1, 1), (2, .invokevirtual 255, 3), (5, .aload_n 0, 1), (6, .iload_n 2, 1), (7, .invokevirtual 124, 3), (10, .aload_n 0, 1), (11, .iload_n 3, 1), (12, .invokevirtual 87, 3), (15, .iload 4, 2), (17, .iconst 0, 1), (18, .iconst 5, 1), (19, .invokestatic 61, 3), (22, .aload_n 0, 1), (23, .getfield 23, 3), (26, .aload_n 0, 1), (27, .getfield 12, 3), (30, .aload_n 0, 1), (31, .getfield 19, 3), (34, .iload_n 1, 1), (35, .iload_n 2, 1), (36, .iload_n 3, 1), (37, .iload 4, 2), (39, .invokevirtual 329, 3), (42, .aload_n 0, 1), (43, .getfield 23, 3), (46, .invokevirtual 120, 3), (49, .ireturn, 1)]
theorem dd_X7_anew : ∀ q ∈ dt_X7_anew, decode cX7_anew q.1 = .ok q.2 := by
  first
  | (refine dw_all ?_; decide +kernel)
  | decide +kernel
noncomputable def dt_X7_knock : List (Nat × Instr × Nat) := [(0, .aload_n 0, 1), (1, .dup, 1), (2, .getfield 333, 3), (5, .iconst 1, 1), (6, .iadd, 1), (7, .putfield 333, 3), (10, .aload_n 0, 1), (11, .getfield 333, 3), (14, .ireturn, 1)]
theorem dd_X7_knock : ∀ q ∈ dt_X7_knock, decode cX7_knock q.1 = .ok q.2 := by
  first
  | (refine dw_all ?_; decide +kernel)
  | decide +kernel
noncomputable def dt_X7_isSound : List (Nat × Instr × Nat) := [(0, .aload_n 0, 1), (1, .getfield 23, 3), (4, .aload_n 0, 1), (5, .getfield 12, 3), (8, .aload_n 0, 1), (9, .getfield 19, 3), (12, .iconst (-1), 1), (13, .iconst 0, 1), (14, .iconst 0, 1), (15, .iconst 0, 1), (16, .invokevirtual 329, 3), (19, .aload_n 0, 1), (20, .invokevirtual 336, 3), (23, .ifCond .eq 21, 3), (26, .aload_n 0, 1), (27, .invokevirtual 340, 3), (30, .ifCond .eq 14, 3), (33, .aload_n 0, 1), (34, .invokevirtual 343, 3), (37, .ifCond .eq 7, 3), (40, .iconst 1, 1), (41, .goto 4, 3), (44, .iconst 0, 1), (45, .ireturn, 1)]
theorem dd_X7_isSound : ∀ q ∈ dt_X7_isSound, decode cX7_isSound q.1 = .ok q.2 := by
  first
  | (refine dw_all ?_; decide +kernel)
  | decide +kernel
noncomputable def dt_X7_digest : List (Nat × Instr × Nat) := [(0, .ldc2_w 346, 3), (3, .lstore_n 1, 1), (4, .iconst 0, 1), (5, .istore_n 3, 1), (6, .iload_n 3, 1), (7, .bipush 17, 2), (9, .if_icmp .ge 20, 3), (12, .lload_n 1, 1), (13, .aload_n 0, 1), (14, .iload_n 3, 1), (15, .invokevirtual 304, 3), (18, .i2l, 1), (19, .invokestatic 348, 3), (22, .lstore_n 1, 1), (23, .iinc 3 1, 3), (26, .goto (-20), 3), (29, .new 293, 3), (32, .dup, 1), (33, .invokespecial 295, 3), (36, .astore_n 3, 1), (37, .iconst 0, 1), (38, .istore 4, 2), (40, .iload 4, 2), (42, .aload_n 0, 1), (43, .getfield 12, 3), (46, .getfield 69, 3), (49, .if_icmp .ge 18, 3), (52, .aload_n 0, 1), (53, .lload_n 1, 1), (54, .iload 4, 2), (56, .aload_n 3, 1), (57, .invokevirtual 352, 3), (60, .lstore_n 1, 1), (61, .iinc 4 1, 3), (64, .goto (-24), 3), (67, .iconst 0, 1), (68, .istore 4, 2), (70, .iload 4, 2), (72, .aload_n 0, 1), (73, .getfield 12, 3), (76, .getfield 100, 3), (79, .if_icmp .ge 17, 3), (82, .aload_n 0, 1), (83, .lload_n 1, 1), (84, .iload 4, 2), (86, .invokevirtual 356, 3), (89, .lstore_n 1, 1), (90, .iinc 4 1, 3), (93, .goto (-23), 3), (96, .aload_n 0, 1), (97, .lload_n 1, 1), (98, .invokevirtual 360, 3), (101, .lstore_n 1, 1), (102, .aload_n 0, 1), (103, .getfield 50, 3), (106, .getfield 215, 3), (109, .ifCond .le 39, 3), (112, .lload_n 1, 1), (113, .aload_n 0, 1), (114, .getfield 50, 3), (117, .aload_n 0, 1), (118, .getfield 12, 3), (121, .iconst 1, 1), (122, .invokevirtual 239, 3), (125, .i2l, 1), (126, .invokestatic 348, 3), (129, .lstore_n 1, 1), (130, .lload_n 1, 1), (131, .aload_n 0, 1), (132, .getfield 50, 3), (135, .aload_n 0, 1), (136, .getfield 12, 3), (139, .iconst 2, 1), (140, .invokevirtual 239, 3), (143, .i2l, 1), (144, .invokestatic 348, 3), (147, .lstore_n 1, 1), (148, .lload_n 1, 1), (149, .aload_n 0, 1), (150, .invokevirtual 364, 3), (153, .ifCond .eq 7, 3), (156, .lconst 1, 1), (157, .goto 4, 3), (160, .lconst 0, 1), (161, .invokestatic 348, 3), (164, .lreturn, 1)]
theorem dd_X7_digest : ∀ q ∈ dt_X7_digest, decode cX7_digest q.1 = .ok q.2 := by
  first
  | (refine dw_all ?_; decide +kernel)
  | decide +kernel
noncomputable def dt_X7_needBetween : List (Nat × Instr × Nat) := [(0, .iload_n 0, 1), (1, .iload_n 1, 1), (2, .if_icmp .lt 8, 3), (5, .iload_n 0, 1), (6, .iload_n 2, 1), (7, .if_icmp .le 14, 3), (10, .new 90, 3), (13, .dup, 1), (14, .ldc_w 367, 3), (17, .invokespecial 94, 3), (20, .athrow, 1), (21, .return_, 1)]
theorem dd_X7_needBetween : ∀ q ∈ dt_X7_needBetween, decode cX7_needBetween q.1 = .ok q.2 := by
  first
  | (refine dw_all ?_; decide +kernel)
  | decide +kernel
noncomputable def dt_X7_needSet : List (Nat × Instr × Nat) := [(0, .iload_n 0, 1), (1, .ifCond .lt 10, 3), (4, .iload_n 0, 1), (5, .iconst 1, 1), (6, .iload_n 1, 1), (7, .ishl, 1), (8, .if_icmp .lt 14, 3), (11, .new 90, 3), (14, .dup, 1), (15, .ldc_w 369, 3), (18, .invokespecial 94, 3), (21, .athrow, 1), (22, .return_, 1)]
theorem dd_X7_needSet : ∀ q ∈ dt_X7_needSet, decode cX7_needSet q.1 = .ok q.2 := by
  first
  | (refine dw_all ?_; decide +kernel)
  | decide +kernel
noncomputable def dt_X7_needStage : List (Nat × Instr × Nat) := [(0, .aload_n 0, 1), (1, .getfield 54, 3), (4, .iload_n 1, 1), (5, .if_icmp .eq 14, 3), (8, .new 72, 3), (11, .dup, 1), (12, .ldc_w 371, 3), (15, .invokespecial 76, 3), (18, .athrow, 1), (19, .return_, 1)]
theorem dd_X7_needStage : ∀ q ∈ dt_X7_needStage, decode cX7_needStage q.1 = .ok q.2 := by
  first
  | (refine dw_all ?_; decide +kernel)
  | decide +kernel
noncomputable def dt_X7_needRegion : List (Nat × Instr × Nat) := [(0, .iload_n 1, 1), (1, .ifCond .lt 14, 3), (4, .iload_n 1, 1), (5, .aload_n 0, 1), (6, .getfield 12, 3), (9, .getfield 69, 3), (12, .if_icmp .lt 14, 3), (15, .new 268, 3), (18, .dup, 1), (19, .ldc_w 373, 3), (22, .invokespecial 272, 3), (25, .athrow, 1), (26, .return_, 1)]
theorem dd_X7_needRegion : ∀ q ∈ dt_X7_needRegion, decode cX7_needRegion q.1 = .ok q.2 := by
  first
  | (refine dw_all ?_; decide +kernel)
  | decide +kernel
noncomputable def dt_X7_needBidder : List (Nat × Instr × Nat) := [(0, .iload_n 1, 1), (1, .ifCond .lt 14, 3), (4, .iload_n 1, 1), (5, .aload_n 0, 1), (6, .getfield 12, 3), (9, .getfield 100, 3), (12, .if_icmp .lt 14, 3), (15, .new 268, 3), (18, .dup, 1), (19, .ldc_w 375, 3), (22, .invokespecial 272, 3), (25, .athrow, 1), (26, .return_, 1)]
theorem dd_X7_needBidder : ∀ q ∈ dt_X7_needBidder, decode cX7_needBidder q.1 = .ok q.2 := by
  first
  | (refine dw_all ?_; decide +kernel)
  | decide +kernel
noncomputable def dt_X7_needStation : List (Nat × Instr × Nat) := [(0, .iload_n 1, 1), (1, .ifCond .lt 14, 3), (4, .iload_n 1, 1), (5, .aload_n 0, 1), (6, .getfield 50, 3), (9, .getfield 215, 3), (12, .if_icmp .lt 14, 3), (15, .new 268, 3), (18, .dup, 1), (19, .ldc_w 377, 3), (22, .invokespecial 272, 3), (25, .athrow, 1), (26, .return_, 1)]
theorem dd_X7_needStation : ∀ q ∈ dt_X7_needStation, decode cX7_needStation q.1 = .ok q.2 := by
  first
  | (refine dw_all ?_; decide +kernel)
  | decide +kernel
noncomputable def dt_X7_needRound : List (Nat × Instr × Nat) := [(0, .iload_n 1, 1), (1, .iconst 1, 1), (2, .if_icmp .lt 14, 3), (5, .iload_n 1, 1), (6, .aload_n 0, 1), (7, .getfield 19, 3), (10, .getfield 379, 3), (13, .if_icmp .le 14, 3), (16, .new 268, 3), (19, .dup, 1), (20, .ldc_w 382, 3), (23, .invokespecial 272, 3), (26, .athrow, 1), (27, .return_, 1)]
theorem dd_X7_needRound : ∀ q ∈ dt_X7_needRound, decode cX7_needRound q.1 = .ok q.2 := by
  first
  | (refine dw_all ?_; decide +kernel)
  | decide +kernel
noncomputable def dt_X7_endClock : List (Nat × Instr × Nat) := [(0, .aload_n 0, 1), (1, .iconst 2, 1), (2, .putfield 54, 3), (5, .iconst 0, 1), (6, .istore_n 1, 1), (7, .iload_n 1, 1), (8, .aload_n 0, 1), (9, .getfield 12, 3), (12, .getfield 100, 3), (15, .if_icmp .ge 44, 3), (18, .aload_n 0, 1), (19, .getfield 19, 3), (22, .getfield 249, 3), (25, .iload_n 1, 1), (26, .iaload, 1), (27, .istore_n 2, 1), (28, .iload_n 2, 1), (29, .ifCond .eq 24, 3), (32, .aload_n 0, 1), (33, .getfield 29, 3), (36, .aload_n 0, 1), (37, .getfield 12, 3), (40, .iload_n 1, 1), (41, .iload_n 2, 1), (42, .aload_n 0, 1), (43, .getfield 19, 3), (46, .iload_n 2, 1), (47, .invokevirtual 384, 3), (50, .invokevirtual 182, 3), (53, .iinc 1 1, 3), (56, .goto (-49), 3), (59, .aload_n 0, 1), (60, .getfield 36, 3), (63, .aload_n 0, 1), (64, .getfield 29, 3), (67, .invokevirtual 186, 3), (70, .return_, 1)]
theorem dd_X7_endClock : ∀ q ∈ dt_X7_endClock, decode cX7_endClock q.1 = .ok q.2 := by
  first
  | (refine dw_all ?_; decide +kernel)
  | decide +kernel
noncomputable def dt_X7_paymentOf : List (Nat × Instr × Nat) := [(0, .aload_n 0, 1), (1, .getfield 54, 3), (4, .iconst 3, 1), (5, .if_icmp .ne 20, 3), (8, .aload_n 0, 1), (9, .getfield 36, 3), (12, .getfield 310, 3), (15, .aload_n 0, 1), (16, .getfield 190, 3), (19, .aaload, 1), (20, .iload_n 1, 1), (21, .iaload, 1), (22, .goto 4, 3), (25, .iconst 0, 1), (26, .ireturn, 1)]
theorem dd_X7_paymentOf : ∀ q ∈ dt_X7_paymentOf, decode cX7_paymentOf q.1 = .ok q.2 := by
  first
  | (refine dw_all ?_; decide +kernel)
  | decide +kernel
noncomputable def dt_X7_dueOf : List (Nat × Instr × Nat) := [(0, .aload_n 0, 1), (1, .iload_n 1, 1), (2, .invokevirtual 282, 3), (5, .bipush 100, 2), (7, .aload_n 0, 1), (8, .getfield 12, 3), (11, .getfield 387, 3), (14, .iload_n 1, 1), (15, .iaload, 1), (16, .isub, 1), (17, .imul, 1), (18, .bipush 100, 2), (20, .idiv, 1), (21, .ireturn, 1)]
theorem dd_X7_dueOf : ∀ q ∈ dt_X7_dueOf, decode cX7_dueOf q.1 = .ok q.2 := by
  first
  | (refine dw_all ?_; decide +kernel)
  | decide +kernel
noncomputable def dt_X7_allDue : List (Nat × Instr × Nat) := [(0, .iconst 0, 1), (1, .istore_n 1, 1), (2, .iconst 0, 1), (3, .istore_n 2, 1), (4, .iload_n 2, 1), (5, .aload_n 0, 1), (6, .getfield 12, 3), (9, .getfield 100, 3), (12, .if_icmp .ge 17, 3), (15, .iload_n 1, 1), (16, .aload_n 0, 1), (17, .iload_n 2, 1), (18, .invokevirtual 279, 3), (21, .iadd, 1), (22, .istore_n 1, 1), (23, .iinc 2 1, 3), (26, .goto (-22), 3), (29, .iload_n 1, 1), (30, .ireturn, 1)]
theorem dd_X7_allDue : ∀ q ∈ dt_X7_allDue, decode cX7_allDue q.1 = .ok q.2 := by
  first
  | (refine dw_all ?_; decide +kernel)
  | decide +kernel
noncomputable def dt_X7_roundNow : List (Nat × Instr × Nat) := [(0, .aload_n 0, 1), (1, .getfield 54, 3), (4, .iconst 1, 1), (5, .if_icmp .ne 15, 3), (8, .aload_n 0, 1), (9, .getfield 19, 3), (12, .getfield 379, 3), (15, .iconst 1, 1), (16, .iadd, 1), (17, .goto 10, 3), (20, .aload_n 0, 1), (21, .getfield 19, 3), (24, .getfield 379, 3), (27, .ireturn, 1)]
theorem dd_X7_roundNow : ∀ q ∈ dt_X7_roundNow, decode cX7_roundNow q.1 = .ok q.2 := by
  first
  | (refine dw_all ?_; decide +kernel)
  | decide +kernel
noncomputable def dt_X7_regionFact : List (Nat × Instr × Nat) := [(0, .iload_n 2, 1), (1, .tableswitch 143 0 7 #[47, 57, 67, 77, 87, 99, 121, 133], 47), (48, .aload_n 0, 1), (49, .getfield 12, 3), (52, .getfield 285, 3), (55, .iload_n 1, 1), (56, .iaload, 1), (57, .ireturn, 1), (58, .aload_n 0, 1), (59, .getfield 12, 3), (62, .getfield 142, 3), (65, .iload_n 1, 1), (66, .iaload, 1), (67, .ireturn, 1), (68, .aload_n 0, 1), (69, .getfield 12, 3), (72, .getfield 390, 3), (75, .iload_n 1, 1), (76, .iaload, 1), (77, .ireturn, 1), (78, .aload_n 0, 1), (79, .getfield 19, 3), (82, .getfield 393, 3), (85, .iload_n 1, 1), (86, .iaload, 1), (87, .ireturn, 1), (88, .aload_n 0, 1), (89, .getfield 19, 3), (92, .getfield 249, 3), (95, .iload_n 1, 1), (96, .invokestatic 396, 3), (99, .ireturn, 1), (100, .aload_n 0, 1), (101, .getfield 19, 3), (104, .getfield 249, 3), (107, .iload_n 1, 1), (108, .invokestatic 396, 3), (111, .aload_n 0, 1), (112, .getfield 12, 3), (115, .getfield 285, 3), (118, .iload_n 1, 1), (119, .iaload, 1), (120, .isub, 1), (121, .ireturn, 1), (122, .aload_n 0, 1), (123, .getfield 19, 3), (126, .getfield 133, 3), (129, .iload_n 1, 1), (130, .invokestatic 396, 3), (133, .ireturn, 1), (134, .aload_n 0, 1), (135, .getfield 12, 3), (138, .getfield 400, 3), (141, .iload_n 1, 1), (142, .iaload, 1), (143, .ireturn, 1), (144, .aload_n 0, 1), (145, .getfield 50, 3), (148, .iload_n 1, 1), (149, .invokevirtual 403, 3), (152, .ireturn, 1)]
theorem dd_X7_regionFact : ∀ q ∈ dt_X7_regionFact, decode cX7_regionFact q.1 = .ok q.2 := by
  first
  | (refine dw_all ?_; decide +kernel)
  | decide +kernel
noncomputable def dt_X7_bidderFact : List (Nat × Instr × Nat) := [(0, .iload_n 2, 1), (1, .tableswitch 172 0 9 #[55, 65, 75, 85, 95, 105, 115, 125, 145, 155], 55), (56, .aload_n 0, 1), (57, .getfield 12, 3), (60, .getfield 406, 3), (63, .iload_n 1, 1), (64, .iaload, 1), (65, .ireturn, 1), (66, .aload_n 0, 1), (67, .getfield 19, 3), (70, .getfield 409, 3), (73, .iload_n 1, 1), (74, .iaload, 1), (75, .ireturn, 1), (76, .aload_n 0, 1), (77, .getfield 12, 3), (80, .getfield 387, 3), (83, .iload_n 1, 1), (84, .iaload, 1), (85, .ireturn, 1), (86, .aload_n 0, 1), (87, .getfield 12, 3), (90, .getfield 412, 3), (93, .iload_n 1, 1), (94, .iaload, 1), (95, .ireturn, 1), (96, .aload_n 0, 1), (97, .getfield 19, 3), (100, .getfield 149, 3), (103, .iload_n 1, 1), (104, .iaload, 1), (105, .ireturn, 1), (106, .aload_n 0, 1), (107, .getfield 19, 3), (110, .getfield 249, 3), (113, .iload_n 1, 1), (114, .iaload, 1), (115, .ireturn, 1), (116, .aload_n 0, 1), (117, .getfield 19, 3), (120, .getfield 133, 3), (123, .iload_n 1, 1), (124, .iaload, 1), (125, .ireturn, 1), (126, .aload_n 0, 1), (127, .getfield 19, 3), (130, .getfield 133, 3), (133, .iload_n 1, 1), (134, .iaload, 1), (135, .aload_n 0, 1), (136, .getfield 12, 3), (139, .getfield 142, 3), (142, .invokestatic 145, 3), (145, .ireturn, 1), (146, .aload_n 0, 1), (147, .getfield 29, 3), (150, .getfield 173, 3), (153, .iload_n 1, 1), (154, .iaload, 1), (155, .ireturn, 1), (156, .aload_n 0, 1), (157, .getfield 29, 3), (160, .iload_n 1, 1), (161, .invokevirtual 415, 3), (164, .ifCond .eq 7, 3), (167, .iconst 1, 1), (168, .goto 4, 3), (171, .iconst 0, 1), (172, .ireturn, 1), (173, .aload_n 0, 1), (174, .getfield 19, 3), (177, .getfield 418, 3), (180, .iload_n 1, 1), (181, .iaload, 1), (182, .ireturn, 1)]
theorem dd_X7_bidderFact : ∀ q ∈ dt_X7_bidderFact, decode cX7_bidderFact q.1 = .ok q.2 := by
  first
  | (refine dw_all ?_; decide +kernel)
  | decide +kernel
noncomputable def dt_X7_saleFact : List (Nat × Instr × Nat) := [(0, .iload_n 1, 1), (1, .tableswitch 207 0 15 #[79, 84, 89, 97, 105, 113, 121, 137, 142, 150, 158, 169, 174, 179, 187, 199], 79), (80, .aload_n 0, 1), (81, .getfield 54, 3), (84, .ireturn, 1), (85, .aload_n 0, 1), (86, .invokevirtual 421, 3), (89, .ireturn, 1), (90, .aload_n 0, 1), (91, .getfield 12, 3), (94, .getfield 69, 3), (97, .ireturn, 1), (98, .aload_n 0, 1), (99, .getfield 12, 3), (102, .getfield 100, 3), (105, .ireturn, 1), (106, .aload_n 0, 1), (107, .getfield 50, 3), (110, .getfield 215, 3), (113, .ireturn, 1), (114, .aload_n 0, 1), (115, .getfield 12, 3), (118, .getfield 109, 3), (121, .ireturn, 1), (122, .aload_n 0, 1), (123, .getfield 12, 3), (126, .getfield 112, 3), (129, .ifCond .eq 7, 3), (132, .iconst 1, 1), (133, .goto 4, 3), (136, .iconst 0, 1), (137, .ireturn, 1), (138, .aload_n 0, 1), (139, .getfield 58, 3), (142, .ireturn, 1), (143, .aload_n 0, 1), (144, .getfield 19, 3), (147, .invokevirtual 424, 3), (150, .ireturn, 1), (151, .aload_n 0, 1), (152, .getfield 29, 3), (155, .invokevirtual 197, 3), (158, .ireturn, 1), (159, .aload_n 0, 1), (160, .getfield 29, 3), (163, .getfield 307, 3), (166, .bipush 63, 2), (168, .iaload, 1), (169, .ireturn, 1), (170, .aload_n 0, 1), (171, .invokevirtual 427, 3), (174, .ireturn, 1), (175, .aload_n 0, 1), (176, .getfield 209, 3), (179, .ireturn, 1), (180, .aload_n 0, 1), (181, .getfield 43, 3), (184, .getfield 430, 3), (187, .ireturn, 1), (188, .aload_n 0, 1), (189, .getfield 29, 3), (192, .aload_n 0, 1), (193, .getfield 12, 3), (196, .invokevirtual 433, 3), (199, .ireturn, 1), (200, .aload_n 0, 1), (201, .getfield 19, 3), (204, .getfield 379, 3), (207, .ireturn, 1), (208, .aload_n 0, 1), (209, .getfield 333, 3), (212, .ireturn, 1)]
theorem dd_X7_saleFact : ∀ q ∈ dt_X7_saleFact, decode cX7_saleFact q.1 = .ok q.2 := by
  first
  | (refine dw_all ?_; decide +kernel)
  | decide +kernel
noncomputable def dt_X7_isClockSound : List (Nat × Instr × Nat) := [(0, .iconst 0, 1), (1, .istore_n 1, 1), (2, .iload_n 1, 1), (3, .aload_n 0, 1), (4, .getfield 12, 3), (7, .getfield 69, 3), (10, .if_icmp .ge 32, 3), (13, .aload_n 0, 1), (14, .getfield 19, 3), (17, .getfield 393, 3), (20, .iload_n 1, 1), (21, .iaload, 1), (22, .aload_n 0, 1), (23, .getfield 12, 3), (26, .getfield 390, 3), (29, .iload_n 1, 1), (30, .iaload, 1), (31, .if_icmp .ge 5, 3), (34, .iconst 0, 1), (35, .ireturn, 1), (36, .iinc 1 1, 3), (39, .goto (-37), 3), (42, .iconst 0, 1), (43, .istore_n 1, 1), (44, .iload_n 1, 1), (45, .aload_n 0, 1), (46, .getfield 12, 3), (49, .getfield 100, 3), (52, .if_icmp .ge 45, 3), (55, .aload_n 0, 1), (56, .getfield 19, 3), (59, .getfield 409, 3), (62, .iload_n 1, 1), (63, .iaload, 1), (64, .ifCond .lt 25, 3), (67, .aload_n 0, 1), (68, .getfield 19, 3), (71, .getfield 249, 3), (74, .iload_n 1, 1), (75, .iaload, 1), (76, .aload_n 0, 1), (77, .getfield 12, 3), (80, .getfield 285, 3), (83, .invokestatic 437, 3), (86, .ifCond .ne 5, 3), (89, .iconst 0, 1), (90, .ireturn, 1), (91, .iinc 1 1, 3), (94, .goto (-50), 3), (97, .iconst 1, 1), (98, .ireturn, 1)]
theorem dd_X7_isClockSound : ∀ q ∈ dt_X7_isClockSound, decode cX7_isClockSound q.1 = .ok q.2 := by
  first
  | (refine dw_all ?_; decide +kernel)
  | decide +kernel
noncomputable def dt_X7_isSettlementSound : List (Nat × Instr × Nat) := [(0, .aload_n 0, 1), (1, .getfield 54, 3), (4, .iconst 3, 1), (5, .if_icmp .eq 5, 3), (8, .iconst 1, 1), (9, .ireturn, 1), (10, .iconst 0, 1), (11, .istore_n 1, 1), (12, .iload_n 1, 1), (13, .aload_n 0, 1), (14, .getfield 12, 3), (17, .getfield 100, 3), (20, .if_icmp .ge 27, 3), (23, .aload_n 0, 1), (24, .iload_n 1, 1), (25, .invokevirtual 282, 3), (28, .aload_n 0, 1), (29, .getfield 29, 3), (32, .iload_n 1, 1), (33, .invokevirtual 205, 3), (36, .if_icmp .le 5, 3), (39, .iconst 0, 1), (40, .ireturn, 1), (41, .iinc 1 1, 3), (44, .goto (-32), 3), (47, .aload_n 0, 1), (48, .getfield 43, 3), (51, .aload_n 0, 1), (52, .getfield 12, 3), (55, .aload_n 0, 1), (56, .getfield 29, 3), (59, .invokevirtual 441, 3), (62, .ireturn, 1)]
theorem dd_X7_isSettlementSound : ∀ q ∈ dt_X7_isSettlementSound, decode cX7_isSettlementSound q.1 = .ok q.2 := by
  first
  | (refine dw_all ?_; decide +kernel)
  | decide +kernel
noncomputable def dt_X7_isReplaySame : List (Nat × Instr × Nat) := [(0, .iconst 0, 1), (1, .istore_n 1, 1), (2, .iload_n 1, 1), (3, .aload_n 0, 1), (4, .getfield 12, 3), (7, .getfield 69, 3), (10, .if_icmp .ge 32, 3), (13, .aload_n 0, 1), (14, .getfield 23, 3), (17, .getfield 393, 3), (20, .iload_n 1, 1), (21, .iaload, 1), (22, .aload_n 0, 1), (23, .getfield 19, 3), (26, .getfield 393, 3), (29, .iload_n 1, 1), (30, .iaload, 1), (31, .if_icmp .eq 5, 3), (34, .iconst 0, 1), (35, .ireturn, 1), (36, .iinc 1 1, 3), (39, .goto (-37), 3), (42, .iconst 0, 1), (43, .istore_n 1, 1), (44, .iload_n 1, 1), (45, .aload_n 0, 1), (46, .getfield 12, 3), (49, .getfield 100, 3), (52, .if_icmp .ge 32, 3), (55, .aload_n 0, 1), (56, .getfield 23, 3), (59, .getfield 249, 3), (62, .iload_n 1, 1), (63, .iaload, 1), (64, .aload_n 0, 1), (65, .getfield 19, 3), (68, .getfield 249, 3), (71, .iload_n 1, 1), (72, .iaload, 1), (73, .if_icmp .eq 5, 3), (76, .iconst 0, 1), (77, .ireturn, 1), (78, .iinc 1 1, 3), (81, .goto (-37), 3), (84, .iconst 1, 1), (85, .ireturn, 1)]
theorem dd_X7_isReplaySame : ∀ q ∈ dt_X7_isReplaySame, decode cX7_isReplaySame q.1 = .ok q.2 := by
  first
  | (refine dw_all ?_; decide +kernel)
  | decide +kernel
noncomputable def dt_X7_mixed : List (Nat × Instr × Nat) := [(0, .lload_n 0, 1), (1, .ldc2_w 445, 3), (4, .lmul, 1), (5, .lload_n 2, 1), (6, .ladd, 1), (7, .lreturn, 1)]
theorem dd_X7_mixed : ∀ q ∈ dt_X7_mixed, decode cX7_mixed q.1 = .ok q.2 := by
  first
  | (refine dw_all ?_; decide +kernel)
  | decide +kernel
noncomputable def dt_X7_withRegion : List (Nat × Instr × Nat) := [(0, .lload_n 1, 1), (1, .lstore 5, 2), (3, .iconst 0, 1), (4, .istore 7, 2), (6, .iload 7, 2), (8, .bipush 9, 2), (10, .if_icmp .ge 24, 3), (13, .lload 5, 2), (15, .aload_n 0, 1), (16, .iload_n 3, 1), (17, .iload 7, 2), (19, .invokevirtual 243, 3), (22, .i2l, 1), (23, .invokestatic 348, 3), (26, .lstore 5, 2), (28, .iinc 7 1, 3), (31, .goto (-25), 3), (34, .aload 4, 2), (36, .iconst 0, 1), (37, .invokevirtual 447, 3), (40, .aload_n 0, 1), (41, .getfield 43, 3), (44, .aload_n 0, 1), (45, .getfield 12, 3), (48, .iload_n 3, 1), (49, .aload 4, 2), (51, .invokevirtual 296, 3), (54, .lload 5, 2), (56, .aload 4, 2), (58, .invokevirtual 450, 3), (61, .i2l, 1), (62, .invokestatic 348, 3), (65, .lstore 5, 2), (67, .iconst 0, 1), (68, .istore 7, 2), (70, .iload 7, 2), (72, .aload_n 0, 1), (73, .getfield 12, 3), (76, .getfield 285, 3), (79, .iload_n 3, 1), (80, .iaload, 1), (81, .if_icmp .ge 29, 3), (84, .lload 5, 2), (86, .aload_n 0, 1), (87, .getfield 43, 3), (90, .getfield 290, 3), (93, .iload_n 3, 1), (94, .aaload, 1), (95, .iload 7, 2), (97, .iaload, 1), (98, .i2l, 1), (99, .invokestatic 348, 3), (102, .lstore 5, 2), (104, .iinc 7 1, 3), (107, .goto (-37), 3), (110, .lload 5, 2), (112, .lreturn, 1)]
theorem dd_X7_withRegion : ∀ q ∈ dt_X7_withRegion, decode cX7_withRegion q.1 = .ok q.2 := by
  first
  | (refine dw_all ?_; decide +kernel)
  | decide +kernel
noncomputable def dt_X7_withBidder : List (Nat × Instr × Nat) := [(0, .lload_n 1, 1), (1, .lstore 4, 2), (3, .iconst 0, 1), (4, .istore 6, 2), (6, .iload 6, 2), (8, .bipush 11, 2), (10, .if_icmp .ge 24, 3), (13, .lload 4, 2), (15, .aload_n 0, 1), (16, .iload_n 3, 1), (17, .iload 6, 2), (19, .invokevirtual 246, 3), (22, .i2l, 1), (23, .invokestatic 348, 3), (26, .lstore 4, 2), (28, .iinc 6 1, 3), (31, .goto (-25), 3), (34, .lload 4, 2), (36, .aload_n 0, 1), (37, .getfield 29, 3), (40, .getfield 200, 3), (43, .iload_n 3, 1), (44, .iaload, 1), (45, .i2l, 1), (46, .invokestatic 348, 3), (49, .lstore 4, 2), (51, .lload 4, 2), (53, .aload_n 0, 1), (54, .iload_n 3, 1), (55, .invokevirtual 282, 3), (58, .i2l, 1), (59, .invokestatic 348, 3), (62, .lstore 4, 2), (64, .lload 4, 2), (66, .aload_n 0, 1), (67, .iload_n 3, 1), (68, .invokevirtual 279, 3), (71, .i2l, 1), (72, .invokestatic 348, 3), (75, .lstore 4, 2), (77, .lload 4, 2), (79, .aload_n 0, 1), (80, .getfield 36, 3), (83, .getfield 310, 3), (86, .iconst 1, 1), (87, .aaload, 1), (88, .iload_n 3, 1), (89, .iaload, 1), (90, .i2l, 1), (91, .invokestatic 348, 3), (94, .lstore 4, 2), (96, .lload 4, 2), (98, .aload_n 0, 1), (99, .getfield 36, 3), (102, .getfield 310, 3), (105, .iconst 2, 1), (106, .aaload, 1), (107, .iload_n 3, 1), (108, .iaload, 1), (109, .i2l, 1), (110, .invokestatic 348, 3), (113, .lstore 4, 2), (115, .iconst 0, 1), (116, .istore 6, 2), (118, .iload 6, 2), (120, .aload_n 0, 1), (121, .getfield 29, 3), (124, .getfield 173, 3), (127, .iload_n 3, 1), (128, .iaload, 1), (129, .if_icmp .ge 49, 3), (132, .lload 4, 2), (134, .aload_n 0, 1), (135, .getfield 29, 3), (138, .getfield 273, 3), (141, .iload_n 3, 1), (142, .aaload, 1), (143, .iload 6, 2), (145, .iaload, 1), (146, .i2l, 1), (147, .invokestatic 348, 3), (150, .lstore 4, 2), (152, .lload 4, 2), (154, .aload_n 0, 1), (155, .getfield 29, 3), (158, .getfield 276, 3), (161, .iload_n 3, 1), (162, .aaload, 1), (163, .iload 6, 2), (165, .iaload, 1), (166, .i2l, 1), (167, .invokestatic 348, 3), (170, .lstore 4, 2), (172, .iinc 6 1, 3), (175, .goto (-57), 3), (178, .lload 4, 2), (180, .lreturn, 1)]
theorem dd_X7_withBidder : ∀ q ∈ dt_X7_withBidder, decode cX7_withBidder q.1 = .ok q.2 := by
  first
  | (refine dw_all ?_; decide +kernel)
  | decide +kernel
noncomputable def dt_X7_withLastRound : List (Nat × Instr × Nat) := [(0, .aload_n 0, 1), (1, .getfield 19, 3), (4, .getfield 379, 3), (7, .ifCond .ne 5, 3), (10, .lload_n 1, 1), (11, .lreturn, 1), (12, .aload_n 0, 1), (13, .getfield 19, 3), (16, .getfield 379, 3), (19, .iconst 1, 1), (20, .isub, 1), (21, .istore_n 3, 1), (22, .lload_n 1, 1), (23, .lstore 4, 2), (25, .iconst 0, 1), (26, .istore 6, 2), (28, .iload 6, 2), (30, .aload_n 0, 1), (31, .getfield 12, 3), (34, .getfield 69, 3), (37, .if_icmp .ge 29, 3), (40, .lload 4, 2), (42, .aload_n 0, 1), (43, .getfield 19, 3), (46, .getfield 258, 3), (49, .iload_n 3, 1), (50, .aaload, 1), (51, .iload 6, 2), (53, .iaload, 1), (54, .i2l, 1), (55, .invokestatic 348, 3), (58, .lstore 4, 2), (60, .iinc 6 1, 3), (63, .goto (-35), 3), (66, .iconst 0, 1), (67, .istore 6, 2), (69, .iload 6, 2), (71, .aload_n 0, 1), (72, .getfield 12, 3), (75, .getfield 100, 3), (78, .if_icmp .ge 29, 3), (81, .lload 4, 2), (83, .aload_n 0, 1), (84, .getfield 19, 3), (87, .getfield 265, 3), (90, .iload_n 3, 1), (91, .aaload, 1), (92, .iload 6, 2), (94, .iaload, 1), (95, .i2l, 1), (96, .invokestatic 348, 3), (99, .lstore 4, 2), (101, .iinc 6 1, 3), (104, .goto (-35), 3), (107, .lload 4, 2), (109, .lreturn, 1)]
theorem dd_X7_withLastRound : ∀ q ∈ dt_X7_withLastRound, decode cX7_withLastRound q.1 = .ok q.2 := by
  first
  | (refine dw_all ?_; decide +kernel)
  | decide +kernel
noncomputable def dt_J6_bitCount_0f7a4 : List (Nat × Instr × Nat) := [(0, .iload_n 0, 1), (1, .iload_n 0, 1), (2, .iconst 1, 1), (3, .iushr, 1), (4, .ldc_w 265, 3), (7, .iand, 1), (8, .isub, 1), (9, .istore_n 0, 1), (10, .iload_n 0, 1), (11, .ldc_w 266, 3), (14, .iand, 1), (15, .iload_n 0, 1), (16, .iconst 2, 1), (17, .iushr, 1), (18, .ldc_w 266, 3), (21, .iand, 1), (22, .iadd, 1), (23, .istore_n 0, 1), (24, .iload_n 0, 1), (25, .iload_n 0, 1), (26, .iconst 4, 1), (27, .iushr, 1), (28, .iadd, 1), (29, .ldc_w 267, 3), (32, .iand, 1), (33, .istore_n 0, 1), (34, .iload_n 0, 1), (35, .iload_n 0, 1), (36, .bipush 8, 2), (38, .iushr, 1), (39, .iadd, 1), (40, .istore_n 0, 1), (41, .iload_n 0, 1), (42, .iload_n 0, 1), (43, .bipush 16, 2), (45, .iushr, 1), (46, .iadd, 1), (47, .istore_n 0, 1), (48, .iload_n 0, 1), (49, .bipush 63, 2), (51, .iand, 1), (52, .ireturn, 1)]
theorem dd_J6_bitCount_0f7a4 : ∀ q ∈ dt_J6_bitCount_0f7a4, decode cJ6_bitCount_0f7a4 q.1 = .ok q.2 := by
  first
  | (refine dw_all ?_; decide +kernel)
  | decide +kernel
noncomputable def dt_J9_max_7cf53 : List (Nat × Instr × Nat) := [(0, .iload_n 0, 1), (1, .iload_n 1, 1), (2, .if_icmp .lt 7, 3), (5, .iload_n 0, 1), (6, .goto 4, 3), (9, .iload_n 1, 1), (10, .ireturn, 1)]
theorem dd_J9_max_7cf53 : ∀ q ∈ dt_J9_max_7cf53, decode cJ9_max_7cf53 q.1 = .ok q.2 := by
  first
  | (refine dw_all ?_; decide +kernel)
  | decide +kernel
noncomputable def dt_J9_min_7cf53 : List (Nat × Instr × Nat) := [(0, .iload_n 0, 1), (1, .iload_n 1, 1), (2, .if_icmp .gt 7, 3), (5, .iload_n 0, 1), (6, .goto 4, 3), (9, .iload_n 1, 1), (10, .ireturn, 1)]
theorem dd_J9_min_7cf53 : ∀ q ∈ dt_J9_min_7cf53, decode cJ9_min_7cf53 q.1 = .ok q.2 := by
  first
  | (refine dw_all ?_; decide +kernel)
  | decide +kernel
noncomputable def dt_J7_fill_53178 : List (Nat × Instr × Nat) := [(0, .iconst 0, 1), (1, .istore_n 2, 1), (2, .aload_n 0, 1), (3, .arraylength, 1), (4, .istore_n 3, 1), (5, .iload_n 2, 1), (6, .iload_n 3, 1), (7, .if_icmp .ge 13, 3), (10, .aload_n 0, 1), (11, .iload_n 2, 1), (12, .iload_n 1, 1), (13, .iastore, 1), (14, .iinc 2 1, 3), (17, .goto (-12), 3), (20, .return_, 1)]
theorem dd_J7_fill_53178 : ∀ q ∈ dt_J7_fill_53178, decode cJ7_fill_53178 q.1 = .ok q.2 := by
  first
  | (refine dw_all ?_; decide +kernel)
  | decide +kernel
