section
/-! ===== decode tables of the reference ===== -/
noncomputable def dt_X8_init : List (Nat × Instr × Nat) := [(0, .aload_n 0, 1), (1, .invokespecial 1, 3), (4, .return_, 1)]
theorem dd_X8_init : ∀ q ∈ dt_X8_init, decode cX8_init q.1 = .ok q.2 := by
  first
  | (refine dw_all ?_; decide +kernel)
  | decide +kernel
noncomputable def dt_X9_init : List (Nat × Instr × Nat) := [(0, .aload_n 0, 1), (1, .invokespecial 1, 3), (4, .aload_n 0, 1), (5, .new 7, 3), (8, .dup, 1), (9, .invokespecial 9, 3), (12, .putfield 10, 3), (15, .return_, 1)]
theorem dd_X9_init : ∀ q ∈ dt_X9_init, decode cX9_init q.1 = .ok q.2 := by
  first
  | (refine dw_all ?_; decide +kernel)
  | decide +kernel
noncomputable def dt_X9_many : List (Nat × Instr × Nat) := [(0, .aload_n 0, 1), (1, .getfield 10, 3), (4, .invokevirtual 16, 3), (7, .iconst 2, 1), (8, .idiv, 1), (9, .ireturn, 1)]
theorem dd_X9_many : ∀ q ∈ dt_X9_many, decode cX9_many q.1 = .ok q.2 := by
  first
  | (refine dw_all ?_; decide +kernel)
  | decide +kernel
noncomputable def dt_X9_code : List (Nat × Instr × Nat) := [(0, .aload_n 0, 1), (1, .getfield 10, 3), (4, .iconst 2, 1), (5, .iload_n 1, 1), (6, .imul, 1), (7, .invokevirtual 20, 3), (10, .checkcast 24, 3), (13, .invokevirtual 26, 3), (16, .ireturn, 1)]
theorem dd_X9_code : ∀ q ∈ dt_X9_code, decode cX9_code q.1 = .ok q.2 := by
  first
  | (refine dw_all ?_; decide +kernel)
  | decide +kernel
noncomputable def dt_X9_amount : List (Nat × Instr × Nat) := [(0, .aload_n 0, 1), (1, .getfield 10, 3), (4, .iconst 2, 1), (5, .iload_n 1, 1), (6, .imul, 1), (7, .iconst 1, 1), (8, .iadd, 1), (9, .invokevirtual 20, 3), (12, .checkcast 24, 3), (15, .invokevirtual 26, 3), (18, .ireturn, 1)]
theorem dd_X9_amount : ∀ q ∈ dt_X9_amount, decode cX9_amount q.1 = .ok q.2 := by
  first
  | (refine dw_all ?_; decide +kernel)
  | decide +kernel
noncomputable def dt_X10_init : List (Nat × Instr × Nat) := [(0, .aload_n 0, 1), (1, .aload_n 1, 1), (2, .putfield 3, 3), (5, .aload_n 0, 1), (6, .invokespecial 9, 3), (9, .aload_n 0, 1), (10, .bipush 6, 2), (12, .newarray .int, 2), (14, .putfield 15, 3), (17, .aload_n 0, 1), (18, .bipush 6, 2), (20, .newarray .int, 2), (22, .putfield 19, 3), (25, .aload_n 0, 1), (26, .bipush 64, 2), (28, .newarray .int, 2), (30, .putfield 22, 3), (33, .aload_n 0, 1), (34, .iconst 5, 1), (35, .newarray .int, 2), (37, .putfield 25, 3), (40, .aload_n 0, 1), (41, .bipush 20, 2), (43, .newarray .int, 2), (45, .putfield 28, 3), (48, .aload_n 0, 1), (49, .iconst (-1), 1), (50, .putfield 31, 3), (53, .iconst 0, 1), (54, .istore_n 2, 1), (55, .iload_n 2, 1), (56, .aload_n 1, 1), (57, .getfield 35, 3), (60, .invokevirtual 39, 3), (63, .if_icmp .ge 29, 3), (66, .aload_n 0, 1), (67, .getfield 25, 3), (70, .iload_n 2, 1), (71, .aload_n 1, 1), (72, .getfield 35, 3), (75, .iload_n 2, 1), (76, .invokevirtual 45, 3), (79, .checkcast 49, 3), (82, .getfield 51, 3), (85, .iastore, 1), (86, .iinc 2 1, 3), (89, .goto (-34), 3), (92, .aload_n 1, 1), (93, .getfield 54, 3), (96, .iconst 1, 1), (97, .if_icmp .le 10, 3), (100, .aload_n 0, 1), (101, .iconst 0, 1), (102, .iconst 0, 1), (103, .iconst 0, 1), (104, .invokevirtual 57, 3), (107, .iconst 0, 1), (108, .istore_n 2, 1), (109, .iload_n 2, 1), (110, .bipush 6, 2), (112, .if_icmp .ge 24, 3), (115, .aload_n 1, 1), (116, .getfield 54, 3), (119, .iconst 2, 1), (120, .if_icmp .ge 10, 3), (123, .aload_n 0, 1), (124, .getfield 15, 3), (127, .iload_n 2, 1), (128, .iconst (-1), 1), (129, .iastore, 1), (130, .iinc 2 1, 3), (133, .goto (-24), 3), (136, .iconst 0, 1), (137, .istore_n 2, 1), (138, .iload_n 2, 1), (139, .aload_n 0, 1), (140, .getfield 22, 3), (143, .arraylength, 1), (144, .if_icmp .ge 59, 3), (147, .iconst 0, 1), (148, .istore_n 3, 1), (149, .iload_n 3, 1), (150, .bipush 6, 2), (152, .if_icmp .ge 45, 3), (155, .iload_n 2, 1), (156, .iload_n 3, 1), (157, .ishr, 1), (158, .iconst 1, 1), (159, .iand, 1), (160, .iconst 1, 1), (161, .if_icmp .ne 30, 3), (164, .aload_n 0, 1), (165, .getfield 22, 3), (168, .iload_n 2, 1), (169, .aload_n 0, 1), (170, .getfield 22, 3), (173, .iload_n 2, 1), (174, .iaload, 1), (175, .aload_n 0, 1), (176, .getfield 22, 3), (179, .iload_n 2, 1), (180, .iconst 1, 1), (181, .iload_n 3, 1), (182, .ishl, 1), (183, .iconst (-1), 1), (184, .ixor, 1), (185, .iand, 1), (186, .iaload, 1), (187, .invokestatic 61, 3), (190, .iastore, 1), (191, .iinc 3 1, 3), (194, .goto (-45), 3), (197, .iinc 2 1, 3), (200, .goto (-62), 3), (203, .return_, 1)]
theorem dd_X10_init : ∀ q ∈ dt_X10_init, decode cX10_init q.1 = .ok q.2 := by
  first
  | (refine dw_all ?_; decide +kernel)
  | decide +kernel
noncomputable def dt_X10_pick : List (Nat × Instr × Nat) := [(0, .iload_n 1, 1), (1, .aload_n 0, 1), (2, .getfield 3, 3), (5, .getfield 67, 3), (8, .invokevirtual 39, 3), (11, .if_icmp .ne 73, 3), (14, .aload_n 0, 1), (15, .getfield 22, 3), (18, .iload_n 2, 1), (19, .aload_n 0, 1), (20, .getfield 22, 3), (23, .iload_n 2, 1), (24, .iaload, 1), (25, .iload_n 3, 1), (26, .invokestatic 61, 3), (29, .iastore, 1), (30, .iload_n 3, 1), (31, .aload_n 0, 1), (32, .getfield 31, 3), (35, .if_icmp .gt 4, 3), (38, .return_, 1), (39, .aload_n 0, 1), (40, .iload_n 3, 1), (41, .putfield 31, 3), (44, .aload_n 0, 1), (45, .getfield 19, 3), (48, .iconst 0, 1), (49, .aload_n 0, 1), (50, .getfield 15, 3), (53, .iconst 0, 1), (54, .bipush 6, 2), (56, .invokestatic 70, 3), (59, .iload_n 1, 1), (60, .istore 4, 2), (62, .iload 4, 2), (64, .bipush 6, 2), (66, .if_icmp .ge 17, 3), (69, .aload_n 0, 1), (70, .getfield 15, 3), (73, .iload 4, 2), (75, .iconst (-1), 1), (76, .iastore, 1), (77, .iinc 4 1, 3), (80, .goto (-18), 3), (83, .return_, 1), (84, .aload_n 0, 1), (85, .getfield 3, 3), (88, .getfield 67, 3), (91, .iload_n 1, 1), (92, .invokevirtual 45, 3), (95, .checkcast 76, 3), (98, .astore 4, 2), (100, .aload_n 0, 1), (101, .getfield 19, 3), (104, .iload_n 1, 1), (105, .iconst (-1), 1), (106, .iastore, 1), (107, .aload_n 0, 1), (108, .iload_n 1, 1), (109, .iconst 1, 1), (110, .iadd, 1), (111, .iload_n 2, 1), (112, .iload_n 3, 1), (113, .invokevirtual 57, 3), (116, .iconst 0, 1), (117, .istore 5, 2), (119, .iload 5, 2), (121, .aload 4, 2), (123, .invokevirtual 78, 3), (126, .if_icmp .ge 93, 3), (129, .aload 4, 2), (131, .getfield 81, 3), (134, .ifCond .ne 85, 3), (137, .aload_n 0, 1), (138, .aload 4, 2), (140, .aload 4, 2), (142, .iload 5, 2), (144, .invokevirtual 85, 3), (147, .invokevirtual 89, 3), (150, .ifCond .ne 6, 3), (153, .goto 60, 3), (156, .aload_n 0, 1), (157, .aload 4, 2), (159, .aload 4, 2), (161, .iload 5, 2), (163, .invokevirtual 85, 3), (166, .iconst 1, 1), (167, .invokevirtual 93, 3), (170, .aload_n 0, 1), (171, .getfield 19, 3), (174, .iload_n 1, 1), (175, .iload 5, 2), (177, .iastore, 1), (178, .aload_n 0, 1), (179, .iload_n 1, 1), (180, .iconst 1, 1), (181, .iadd, 1), (182, .iload_n 2, 1), (183, .iconst 1, 1), (184, .iload_n 1, 1), (185, .ishl, 1), (186, .ior, 1), (187, .iload_n 3, 1), (188, .aload 4, 2), (190, .iload 5, 2), (192, .invokevirtual 97, 3), (195, .iadd, 1), (196, .invokevirtual 57, 3), (199, .aload_n 0, 1), (200, .aload 4, 2), (202, .aload 4, 2), (204, .iload 5, 2), (206, .invokevirtual 85, 3), (209, .iconst (-1), 1), (210, .invokevirtual 93, 3), (213, .iinc 5 1, 3), (216, .goto (-97), 3), (219, .return_, 1)]
theorem dd_X10_pick : ∀ q ∈ dt_X10_pick, decode cX10_pick q.1 = .ok q.2 := by
  first
  | (refine dw_all ?_; decide +kernel)
  | decide +kernel
noncomputable def dt_X10_canTake : List (Nat × Instr × Nat) := [(0, .iload_n 2, 1), (1, .istore_n 3, 1), (2, .iconst 0, 1), (3, .istore 4, 2), (5, .iload_n 3, 1), (6, .ifCond .le 73, 3), (9, .iload_n 3, 1), (10, .bipush 6, 2), (12, .irem, 1), (13, .istore 5, 2), (15, .iload 5, 2), (17, .aload_n 0, 1), (18, .getfield 25, 3), (21, .iload 4, 2), (23, .iaload, 1), (24, .if_icmp .gt 42, 3), (27, .aload_n 1, 1), (28, .getfield 100, 3), (31, .ifCond .le 37, 3), (34, .iload 5, 2), (36, .ifCond .le 32, 3), (39, .aload_n 0, 1), (40, .getfield 28, 3), (43, .aload_n 1, 1), (44, .getfield 100, 3), (47, .iconst 5, 1), (48, .imul, 1), (49, .iload 4, 2), (51, .iadd, 1), (52, .iaload, 1), (53, .iload 5, 2), (55, .iadd, 1), (56, .aload_n 0, 1), (57, .getfield 3, 3), (60, .getfield 103, 3), (63, .if_icmp .le 5, 3), (66, .iconst 0, 1), (67, .ireturn, 1), (68, .iload_n 3, 1), (69, .bipush 6, 2), (71, .idiv, 1), (72, .istore_n 3, 1), (73, .iinc 4 1, 3), (76, .goto (-71), 3), (79, .iconst 1, 1), (80, .ireturn, 1)]
theorem dd_X10_canTake : ∀ q ∈ dt_X10_canTake, decode cX10_canTake q.1 = .ok q.2 := by
  first
  | (refine dw_all ?_; decide +kernel)
  | decide +kernel
noncomputable def dt_X10_take : List (Nat × Instr × Nat) := [(0, .iload_n 2, 1), (1, .istore 4, 2), (3, .iconst 0, 1), (4, .istore 5, 2), (6, .iload 4, 2), (8, .ifCond .le 57, 3), (11, .aload_n 0, 1), (12, .getfield 25, 3), (15, .iload 5, 2), (17, .dup2, 1), (18, .iaload, 1), (19, .iload_n 3, 1), (20, .iload 4, 2), (22, .bipush 6, 2), (24, .irem, 1), (25, .imul, 1), (26, .isub, 1), (27, .iastore, 1), (28, .aload_n 0, 1), (29, .getfield 28, 3), (32, .aload_n 1, 1), (33, .getfield 100, 3), (36, .iconst 5, 1), (37, .imul, 1), (38, .iload 5, 2), (40, .iadd, 1), (41, .dup2, 1), (42, .iaload, 1), (43, .iload_n 3, 1), (44, .iload 4, 2), (46, .bipush 6, 2), (48, .irem, 1), (49, .imul, 1), (50, .iadd, 1), (51, .iastore, 1), (52, .iload 4, 2), (54, .bipush 6, 2), (56, .idiv, 1), (57, .istore 4, 2), (59, .iinc 5 1, 3), (62, .goto (-56), 3), (65, .return_, 1)]
theorem dd_X10_take : ∀ q ∈ dt_X10_take, decode cX10_take q.1 = .ok q.2 := by
  first
  | (refine dw_all ?_; decide +kernel)
  | decide +kernel
noncomputable def dt_X10_amount : List (Nat × Instr × Nat) := [(0, .aload_n 0, 1), (1, .getfield 15, 3), (4, .iload_n 1, 1), (5, .iaload, 1), (6, .iconst (-1), 1), (7, .if_icmp .ne 7, 3), (10, .iconst 0, 1), (11, .goto 26, 3), (14, .aload_n 0, 1), (15, .getfield 3, 3), (18, .getfield 67, 3), (21, .iload_n 1, 1), (22, .invokevirtual 45, 3), (25, .checkcast 76, 3), (28, .aload_n 0, 1), (29, .getfield 15, 3), (32, .iload_n 1, 1), (33, .iaload, 1), (34, .invokevirtual 97, 3), (37, .ireturn, 1)]
theorem dd_X10_amount : ∀ q ∈ dt_X10_amount, decode cX10_amount q.1 = .ok q.2 := by
  first
  | (refine dw_all ?_; decide +kernel)
  | decide +kernel
noncomputable def dt_X10_winners : List (Nat × Instr × Nat) := [(0, .iconst 0, 1), (1, .istore_n 1, 1), (2, .iconst 0, 1), (3, .istore_n 2, 1), (4, .iload_n 2, 1), (5, .bipush 6, 2), (7, .if_icmp .ge 29, 3), (10, .iload_n 1, 1), (11, .aload_n 0, 1), (12, .getfield 15, 3), (15, .iload_n 2, 1), (16, .iaload, 1), (17, .iconst (-1), 1), (18, .if_icmp .ne 7, 3), (21, .iconst 0, 1), (22, .goto 6, 3), (25, .iconst 1, 1), (26, .iload_n 2, 1), (27, .ishl, 1), (28, .ior, 1), (29, .istore_n 1, 1), (30, .iinc 2 1, 3), (33, .goto (-29), 3), (36, .iload_n 1, 1), (37, .ireturn, 1)]
theorem dd_X10_winners : ∀ q ∈ dt_X10_winners, decode cX10_winners q.1 = .ok q.2 := by
  first
  | (refine dw_all ?_; decide +kernel)
  | decide +kernel
noncomputable def dt_X10_worth : List (Nat × Instr × Nat) := [(0, .aload_n 0, 1), (1, .getfield 22, 3), (4, .iload_n 1, 1), (5, .iaload, 1), (6, .ireturn, 1)]
theorem dd_X10_worth : ∀ q ∈ dt_X10_worth, decode cX10_worth q.1 = .ok q.2 := by
  first
  | (refine dw_all ?_; decide +kernel)
  | decide +kernel
noncomputable def dt_X10_all : List (Nat × Instr × Nat) := [(0, .iconst 1, 1), (1, .aload_n 0, 1), (2, .getfield 3, 3), (5, .getfield 67, 3), (8, .invokevirtual 39, 3), (11, .ishl, 1), (12, .iconst 1, 1), (13, .isub, 1), (14, .ireturn, 1)]
theorem dd_X10_all : ∀ q ∈ dt_X10_all, decode cX10_all q.1 = .ok q.2 := by
  first
  | (refine dw_all ?_; decide +kernel)
  | decide +kernel
noncomputable def dt_X10_objection : List (Nat × Instr × Nat) := [(0, .aload_n 0, 1), (1, .iload_n 1, 1), (2, .invokevirtual 106, 3), (5, .istore_n 3, 1), (6, .iconst 0, 1), (7, .istore 4, 2), (9, .iload 4, 2), (11, .aload_n 0, 1), (12, .getfield 3, 3), (15, .getfield 67, 3), (18, .invokevirtual 39, 3), (21, .if_icmp .ge 50, 3), (24, .iload_n 3, 1), (25, .iload_n 1, 1), (26, .iload 4, 2), (28, .ishr, 1), (29, .iconst 1, 1), (30, .iand, 1), (31, .iconst 1, 1), (32, .if_icmp .ne 12, 3), (35, .aload_n 0, 1), (36, .iload 4, 2), (38, .invokevirtual 109, 3), (41, .goto 22, 3), (44, .aload_n 0, 1), (45, .getfield 15, 3), (48, .iload 4, 2), (50, .iaload, 1), (51, .iconst (-1), 1), (52, .if_icmp .ne 7, 3), (55, .iconst 0, 1), (56, .goto 7, 3), (59, .aload_n 2, 1), (60, .iload 4, 2), (62, .iaload, 1), (63, .isub, 1), (64, .istore_n 3, 1), (65, .iinc 4 1, 3), (68, .goto (-59), 3), (71, .iload_n 3, 1), (72, .ireturn, 1)]
theorem dd_X10_objection : ∀ q ∈ dt_X10_objection, decode cX10_objection q.1 = .ok q.2 := by
  first
  | (refine dw_all ?_; decide +kernel)
  | decide +kernel
noncomputable def dt_X10_payments : List (Nat × Instr × Nat) := [(0, .bipush 6, 2), (2, .newarray .int, 2), (4, .astore_n 2, 1), (5, .iconst 0, 1), (6, .istore_n 3, 1), (7, .iload_n 3, 1), (8, .aload_n 0, 1), (9, .getfield 3, 3), (12, .getfield 67, 3), (15, .invokevirtual 39, 3), (18, .if_icmp .ge 66, 3), (21, .aload_n 0, 1), (22, .getfield 15, 3), (25, .iload_n 3, 1), (26, .iaload, 1), (27, .iconst (-1), 1), (28, .if_icmp .ne 6, 3), (31, .goto 47, 3), (34, .aload_n 2, 1), (35, .iload_n 3, 1), (36, .iload_n 1, 1), (37, .ifCond .ne 11, 3), (40, .aload_n 0, 1), (41, .iload_n 3, 1), (42, .invokevirtual 109, 3), (45, .goto 32, 3), (48, .aload_n 0, 1), (49, .aload_n 0, 1), (50, .invokevirtual 110, 3), (53, .iconst 1, 1), (54, .iload_n 3, 1), (55, .ishl, 1), (56, .iconst (-1), 1), (57, .ixor, 1), (58, .iand, 1), (59, .invokevirtual 106, 3), (62, .aload_n 0, 1), (63, .aload_n 0, 1), (64, .invokevirtual 110, 3), (67, .invokevirtual 106, 3), (70, .aload_n 0, 1), (71, .iload_n 3, 1), (72, .invokevirtual 109, 3), (75, .isub, 1), (76, .isub, 1), (77, .iastore, 1), (78, .iinc 3 1, 3), (81, .goto (-74), 3), (84, .iload_n 1, 1), (85, .iconst 2, 1), (86, .if_icmp .ne 69, 3), (89, .iconst 0, 1), (90, .istore_n 3, 1), (91, .iconst 1, 1), (92, .istore 4, 2), (94, .iload 4, 2), (96, .aload_n 0, 1), (97, .invokevirtual 110, 3), (100, .if_icmp .gt 28, 3), (103, .aload_n 0, 1), (104, .iload 4, 2), (106, .aload_n 2, 1), (107, .invokevirtual 113, 3), (110, .aload_n 0, 1), (111, .iload_n 3, 1), (112, .aload_n 2, 1), (113, .invokevirtual 113, 3), (116, .if_icmp .le 6, 3), (119, .iload 4, 2), (121, .istore_n 3, 1), (122, .iinc 4 1, 3), (125, .goto (-31), 3), (128, .aload_n 0, 1), (129, .iload_n 3, 1), (130, .aload_n 2, 1), (131, .invokevirtual 113, 3), (134, .istore 4, 2), (136, .iload 4, 2), (138, .ifCond .gt 6, 3), (141, .goto 14, 3), (144, .aload_n 0, 1), (145, .iload_n 3, 1), (146, .iload 4, 2), (148, .aload_n 2, 1), (149, .invokevirtual 117, 3), (152, .goto (-68), 3), (155, .aload_n 2, 1), (156, .areturn, 1)]
theorem dd_X10_payments : ∀ q ∈ dt_X10_payments, decode cX10_payments q.1 = .ok q.2 := by
  first
  | (refine dw_all ?_; decide +kernel)
  | decide +kernel
noncomputable def dt_X10_raise : List (Nat × Instr × Nat) := [(0, .iload_n 2, 1), (1, .istore 4, 2), (3, .iconst 1, 1), (4, .istore 5, 2), (6, .iload 4, 2), (8, .ifCond .le 94, 3), (11, .iload 5, 2), (13, .ifCond .eq 89, 3), (16, .iconst 0, 1), (17, .istore 5, 2), (19, .iconst 0, 1), (20, .istore 6, 2), (22, .iload 6, 2), (24, .aload_n 0, 1), (25, .getfield 3, 3), (28, .getfield 67, 3), (31, .invokevirtual 39, 3), (34, .if_icmp .ge 65, 3), (37, .iload 4, 2), (39, .ifCond .le 60, 3), (42, .iload_n 1, 1), (43, .iload 6, 2), (45, .ishr, 1), (46, .iconst 1, 1), (47, .iand, 1), (48, .iconst 1, 1), (49, .if_icmp .eq 44, 3), (52, .aload_n 0, 1), (53, .getfield 15, 3), (56, .iload 6, 2), (58, .iaload, 1), (59, .iconst (-1), 1), (60, .if_icmp .eq 33, 3), (63, .aload_n 3, 1), (64, .iload 6, 2), (66, .iaload, 1), (67, .aload_n 0, 1), (68, .iload 6, 2), (70, .invokevirtual 109, 3), (73, .if_icmp .lt 6, 3), (76, .goto 17, 3), (79, .aload_n 3, 1), (80, .iload 6, 2), (82, .dup2, 1), (83, .iaload, 1), (84, .iconst 1, 1), (85, .iadd, 1), (86, .iastore, 1), (87, .iinc 4 (-1), 3), (90, .iconst 1, 1), (91, .istore 5, 2), (93, .iinc 6 1, 3), (96, .goto (-74), 3), (99, .goto (-93), 3), (102, .return_, 1)]
theorem dd_X10_raise : ∀ q ∈ dt_X10_raise, decode cX10_raise q.1 = .ok q.2 := by
  first
  | (refine dw_all ?_; decide +kernel)
  | decide +kernel
noncomputable def dt_X11_init : List (Nat × Instr × Nat) := [(0, .aload_n 0, 1), (1, .aload_n 1, 1), (2, .putfield 3, 3), (5, .aload_n 0, 1), (6, .invokespecial 9, 3), (9, .aload_n 0, 1), (10, .aload_n 0, 1), (11, .getfield 3, 3), (14, .getfield 15, 3), (17, .invokevirtual 19, 3), (20, .newarray .int, 2), (22, .putfield 25, 3), (25, .aload_n 0, 1), (26, .invokestatic 29, 3), (29, .putfield 33, 3), (32, .aload_n 0, 1), (33, .invokestatic 29, 3), (36, .putfield 36, 3), (39, .aload_n 0, 1), (40, .bipush 6, 2), (42, .newarray .boolean, 2), (44, .putfield 39, 3), (47, .aload_n 0, 1), (48, .bipush 6, 2), (50, .newarray .int, 2), (52, .putfield 43, 3), (55, .aload_n 0, 1), (56, .bipush 6, 2), (58, .newarray .int, 2), (60, .putfield 46, 3), (63, .aload_n 0, 1), (64, .bipush 6, 2), (66, .newarray .int, 2), (68, .putfield 49, 3), (71, .aload_n 0, 1), (72, .new 20, 3), (75, .dup, 1), (76, .invokespecial 52, 3), (79, .putfield 53, 3), (82, .aload_n 0, 1), (83, .new 20, 3), (86, .dup, 1), (87, .invokespecial 52, 3), (90, .putfield 56, 3), (93, .iconst 0, 1), (94, .istore_n 2, 1), (95, .iload_n 2, 1), (96, .aload_n 0, 1), (97, .getfield 25, 3), (100, .arraylength, 1), (101, .if_icmp .ge 29, 3), (104, .aload_n 0, 1), (105, .getfield 25, 3), (108, .iload_n 2, 1), (109, .aload_n 1, 1), (110, .getfield 15, 3), (113, .iload_n 2, 1), (114, .invokevirtual 59, 3), (117, .checkcast 63, 3), (120, .getfield 65, 3), (123, .iastore, 1), (124, .iinc 2 1, 3), (127, .goto (-32), 3), (130, .iconst 0, 1), (131, .istore_n 2, 1), (132, .iload_n 2, 1), (133, .aload_n 1, 1), (134, .getfield 69, 3), (137, .invokevirtual 19, 3), (140, .if_icmp .ge 36, 3), (143, .aload_n 0, 1), (144, .getfield 43, 3), (147, .iload_n 2, 1), (148, .aload_n 1, 1), (149, .getfield 69, 3), (152, .iload_n 2, 1), (153, .invokevirtual 59, 3), (156, .checkcast 72, 3), (159, .getfield 74, 3), (162, .iastore, 1), (163, .aload_n 0, 1), (164, .getfield 46, 3), (167, .iload_n 2, 1), (168, .iconst 2, 1), (169, .iastore, 1), (170, .iinc 2 1, 3), (173, .goto (-41), 3), (176, .return_, 1)]
theorem dd_X11_init : ∀ q ∈ dt_X11_init, decode cX11_init q.1 = .ok q.2 := by
  first
  | (refine dw_all ?_; decide +kernel)
  | decide +kernel
noncomputable def dt_X11_heldIn : List (Nat × Instr × Nat) := [(0, .iconst 0, 1), (1, .istore_n 2, 1), (2, .iconst 0, 1), (3, .istore_n 3, 1), (4, .iload_n 3, 1), (5, .aload_n 0, 1), (6, .getfield 3, 3), (9, .getfield 69, 3), (12, .invokevirtual 19, 3), (15, .if_icmp .ge 22, 3), (18, .iload_n 2, 1), (19, .aload_n 0, 1), (20, .getfield 33, 3), (23, .iload_n 3, 1), (24, .iaload, 1), (25, .iload_n 1, 1), (26, .invokestatic 76, 3), (29, .iadd, 1), (30, .istore_n 2, 1), (31, .iinc 3 1, 3), (34, .goto (-30), 3), (37, .iload_n 2, 1), (38, .ireturn, 1)]
theorem dd_X11_heldIn : ∀ q ∈ dt_X11_heldIn, decode cX11_heldIn q.1 = .ok q.2 := by
  first
  | (refine dw_all ?_; decide +kernel)
  | decide +kernel
noncomputable def dt_X11_wishedIn : List (Nat × Instr × Nat) := [(0, .iconst 0, 1), (1, .istore_n 2, 1), (2, .iconst 0, 1), (3, .istore_n 3, 1), (4, .iload_n 3, 1), (5, .aload_n 0, 1), (6, .getfield 3, 3), (9, .getfield 69, 3), (12, .invokevirtual 19, 3), (15, .if_icmp .ge 22, 3), (18, .iload_n 2, 1), (19, .aload_n 0, 1), (20, .getfield 36, 3), (23, .iload_n 3, 1), (24, .iaload, 1), (25, .iload_n 1, 1), (26, .invokestatic 76, 3), (29, .iadd, 1), (30, .istore_n 2, 1), (31, .iinc 3 1, 3), (34, .goto (-30), 3), (37, .iload_n 2, 1), (38, .ireturn, 1)]
theorem dd_X11_wishedIn : ∀ q ∈ dt_X11_wishedIn, decode cX11_wishedIn q.1 = .ok q.2 := by
  first
  | (refine dw_all ?_; decide +kernel)
  | decide +kernel
noncomputable def dt_X11_contradicts : List (Nat × Instr × Nat) := [(0, .iconst 0, 1), (1, .istore_n 2, 1), (2, .iload_n 2, 1), (3, .aload_n 0, 1), (4, .getfield 53, 3), (7, .invokevirtual 19, 3), (10, .if_icmp .ge 94, 3), (13, .iconst 0, 1), (14, .istore_n 3, 1), (15, .iconst 0, 1), (16, .istore 4, 2), (18, .iload 4, 2), (20, .aload_n 0, 1), (21, .getfield 25, 3), (24, .arraylength, 1), (25, .if_icmp .ge 65, 3), (28, .iload_n 3, 1), (29, .aload_n 0, 1), (30, .getfield 25, 3), (33, .iload 4, 2), (35, .iaload, 1), (36, .aload_n 0, 1), (37, .getfield 53, 3), (40, .iload_n 2, 1), (41, .invokevirtual 59, 3), (44, .checkcast 80, 3), (47, .iload 4, 2), (49, .iaload, 1), (50, .isub, 1), (51, .aload_n 0, 1), (52, .getfield 36, 3), (55, .iload_n 1, 1), (56, .iaload, 1), (57, .iload 4, 2), (59, .invokestatic 76, 3), (62, .aload_n 0, 1), (63, .getfield 56, 3), (66, .iload_n 2, 1), (67, .invokevirtual 59, 3), (70, .checkcast 80, 3), (73, .iload_n 1, 1), (74, .iaload, 1), (75, .iload 4, 2), (77, .invokestatic 76, 3), (80, .isub, 1), (81, .imul, 1), (82, .iadd, 1), (83, .istore_n 3, 1), (84, .iinc 4 1, 3), (87, .goto (-69), 3), (90, .iload_n 3, 1), (91, .ifCond .le 7, 3), (94, .iload_n 2, 1), (95, .iconst 1, 1), (96, .iadd, 1), (97, .ireturn, 1), (98, .iinc 2 1, 3), (101, .goto (-99), 3), (104, .iconst (-1), 1), (105, .ireturn, 1)]
theorem dd_X11_contradicts : ∀ q ∈ dt_X11_contradicts, decode cX11_contradicts q.1 = .ok q.2 := by
  first
  | (refine dw_all ?_; decide +kernel)
  | decide +kernel
noncomputable def dt_X11_close : List (Nat × Instr × Nat) := [(0, .iconst 0, 1), (1, .istore_n 2, 1), (2, .iload_n 2, 1), (3, .aload_n 0, 1), (4, .getfield 3, 3), (7, .getfield 69, 3), (10, .invokevirtual 19, 3), (13, .if_icmp .ge 50, 3), (16, .aload_n 0, 1), (17, .getfield 3, 3), (20, .getfield 81, 3), (23, .ifCond .eq 34, 3), (26, .aload_n 0, 1), (27, .iload_n 2, 1), (28, .invokevirtual 85, 3), (31, .iconst (-1), 1), (32, .if_icmp .eq 25, 3), (35, .aload_n 0, 1), (36, .getfield 36, 3), (39, .iload_n 2, 1), (40, .aload_n 0, 1), (41, .getfield 33, 3), (44, .iload_n 2, 1), (45, .iaload, 1), (46, .iastore, 1), (47, .aload_n 0, 1), (48, .getfield 49, 3), (51, .iload_n 2, 1), (52, .dup2, 1), (53, .iaload, 1), (54, .iconst 1, 1), (55, .iadd, 1), (56, .iastore, 1), (57, .iinc 2 1, 3), (60, .goto (-58), 3), (63, .iconst 0, 1), (64, .istore_n 2, 1), (65, .iload_n 2, 1), (66, .aload_n 0, 1), (67, .getfield 3, 3), (70, .getfield 69, 3), (73, .invokevirtual 19, 3), (76, .if_icmp .ge 71, 3), (79, .aload_n 0, 1), (80, .getfield 39, 3), (83, .iload_n 2, 1), (84, .baload, 1), (85, .ifCond .ne 56, 3), (88, .bipush 10, 2), (90, .aload_n 0, 1), (91, .getfield 3, 3), (94, .aload_n 0, 1), (95, .getfield 36, 3), (98, .iload_n 2, 1), (99, .iaload, 1), (100, .invokevirtual 89, 3), (103, .imul, 1), (104, .bipush 8, 2), (106, .aload_n 0, 1), (107, .getfield 43, 3), (110, .iload_n 2, 1), (111, .iaload, 1), (112, .imul, 1), (113, .if_icmp .ge 28, 3), (116, .aload_n 0, 1), (117, .getfield 43, 3), (120, .iload_n 2, 1), (121, .bipush 10, 2), (123, .aload_n 0, 1), (124, .getfield 3, 3), (127, .aload_n 0, 1), (128, .getfield 36, 3), (131, .iload_n 2, 1), (132, .iaload, 1), (133, .invokevirtual 89, 3), (136, .imul, 1), (137, .bipush 8, 2), (139, .idiv, 1), (140, .iastore, 1), (141, .iinc 2 1, 3), (144, .goto (-79), 3), (147, .aload_n 0, 1), (148, .getfield 53, 3), (151, .aload_n 0, 1), (152, .getfield 25, 3), (155, .invokevirtual 92, 3), (158, .checkcast 80, 3), (161, .invokevirtual 96, 3), (164, .pop, 1), (165, .iconst 0, 1), (166, .istore_n 2, 1), (167, .iconst 0, 1), (168, .istore_n 3, 1), (169, .iload_n 3, 1), (170, .aload_n 0, 1), (171, .getfield 25, 3), (174, .arraylength, 1), (175, .if_icmp .ge 242, 3), (178, .iconst 0, 1), (179, .istore 4, 2), (181, .iload 4, 2), (183, .aload_n 0, 1), (184, .getfield 3, 3), (187, .getfield 69, 3), (190, .invokevirtual 19, 3), (193, .if_icmp .ge 63, 3), (196, .aload_n 0, 1), (197, .getfield 36, 3), (200, .iload 4, 2), (202, .iaload, 1), (203, .iload_n 3, 1), (204, .invokestatic 76, 3), (207, .aload_n 0, 1), (208, .getfield 33, 3), (211, .iload 4, 2), (213, .iaload, 1), (214, .iload_n 3, 1), (215, .invokestatic 76, 3), (218, .if_icmp .le 32, 3), (221, .aload_n 0, 1), (222, .getfield 33, 3), (225, .iload 4, 2), (227, .aload_n 0, 1), (228, .getfield 33, 3), (231, .iload 4, 2), (233, .iaload, 1), (234, .iload_n 3, 1), (235, .aload_n 0, 1), (236, .getfield 36, 3), (239, .iload 4, 2), (241, .iaload, 1), (242, .iload_n 3, 1), (243, .invokestatic 76, 3), (246, .invokestatic 100, 3), (249, .iastore, 1), (250, .iinc 4 1, 3), (253, .goto (-72), 3), (256, .iconst 0, 1), (257, .istore 4, 2), (259, .iload 4, 2), (261, .aload_n 0, 1), (262, .getfield 3, 3), (265, .getfield 69, 3), (268, .invokevirtual 19, 3), (271, .if_icmp .ge 76, 3), (274, .aload_n 0, 1), (275, .getfield 33, 3), (278, .iload 4, 2), (280, .iaload, 1), (281, .iload_n 3, 1), (282, .invokestatic 76, 3), (285, .aload_n 0, 1), (286, .getfield 36, 3), (289, .iload 4, 2), (291, .iaload, 1), (292, .iload_n 3, 1), (293, .invokestatic 76, 3), (296, .if_icmp .le 45, 3), (299, .aload_n 0, 1), (300, .iload_n 3, 1), (301, .invokevirtual 104, 3), (304, .aload_n 0, 1), (305, .getfield 3, 3), (308, .getfield 15, 3), (311, .iload_n 3, 1), (312, .invokevirtual 59, 3), (315, .checkcast 63, 3), (318, .getfield 107, 3), (321, .if_icmp .le 20, 3), (324, .aload_n 0, 1), (325, .getfield 33, 3), (328, .iload 4, 2), (330, .dup2, 1), (331, .iaload, 1), (332, .iload_n 3, 1), (333, .invokestatic 110, 3), (336, .isub, 1), (337, .iastore, 1), (338, .goto (-64), 3), (341, .iinc 4 1, 3), (344, .goto (-85), 3), (347, .aload_n 0, 1), (348, .iload_n 3, 1), (349, .invokevirtual 104, 3), (352, .aload_n 0, 1), (353, .getfield 3, 3), (356, .getfield 15, 3), (359, .iload_n 3, 1), (360, .invokevirtual 59, 3), (363, .checkcast 63, 3), (366, .getfield 107, 3), (369, .if_icmp .gt 6, 3), (372, .goto 39, 3), (375, .iconst 1, 1), (376, .istore_n 2, 1), (377, .aload_n 0, 1), (378, .getfield 25, 3), (381, .iload_n 3, 1), (382, .sipush 9999, 3), (385, .aload_n 0, 1), (386, .getfield 25, 3), (389, .iload_n 3, 1), (390, .iaload, 1), (391, .iconst 1, 1), (392, .aload_n 0, 1), (393, .getfield 25, 3), (396, .iload_n 3, 1), (397, .iaload, 1), (398, .iload_n 1, 1), (399, .imul, 1), (400, .bipush 100, 2), (402, .idiv, 1), (403, .invokestatic 113, 3), (406, .iadd, 1), (407, .invokestatic 118, 3), (410, .iastore, 1), (411, .iinc 3 1, 3), (414, .goto (-245), 3), (417, .aload_n 0, 1), (418, .getfield 56, 3), (421, .aload_n 0, 1), (422, .getfield 33, 3), (425, .invokevirtual 92, 3), (428, .checkcast 80, 3), (431, .invokevirtual 96, 3), (434, .pop, 1), (435, .aload_n 0, 1), (436, .iload_n 2, 1), (437, .ifCond .eq 15, 3), (440, .aload_n 0, 1), (441, .getfield 56, 3), (444, .invokevirtual 19, 3), (447, .bipush 60, 2), (449, .if_icmp .ne 7, 3), (452, .iconst 1, 1), (453, .goto 4, 3), (456, .iconst 0, 1), (457, .putfield 121, 3), (460, .aload_n 0, 1), (461, .aload_n 0, 1), (462, .getfield 33, 3), (465, .invokevirtual 92, 3), (468, .checkcast 80, 3), (471, .putfield 36, 3), (474, .aload_n 0, 1), (475, .bipush 6, 2), (477, .newarray .boolean, 2), (479, .putfield 39, 3), (482, .return_, 1)]
theorem dd_X11_close : ∀ q ∈ dt_X11_close, decode cX11_close q.1 = .ok q.2 := by
  first
  | (refine dw_all ?_; decide +kernel)
  | decide +kernel
noncomputable def dt_X12_init : List (Nat × Instr × Nat) := [(0, .aload_n 0, 1), (1, .invokespecial 1, 3), (4, .return_, 1)]
theorem dd_X12_init : ∀ q ∈ dt_X12_init, decode cX12_init q.1 = .ok q.2 := by
  first
  | (refine dw_all ?_; decide +kernel)
  | decide +kernel
noncomputable def dt_X13_init : List (Nat × Instr × Nat) := [(0, .aload_n 0, 1), (1, .invokespecial 1, 3), (4, .return_, 1)]
theorem dd_X13_init : ∀ q ∈ dt_X13_init, decode cX13_init q.1 = .ok q.2 := by
  first
  | (refine dw_all ?_; decide +kernel)
  | decide +kernel
noncomputable def dt_X14_init : List (Nat × Instr × Nat) := [(0, .aload_n 0, 1), (1, .invokespecial 1, 3), (4, .aload_n 0, 1), (5, .iconst 5, 1), (6, .putfield 7, 3), (9, .aload_n 0, 1), (10, .iconst 1, 1), (11, .putfield 13, 3), (14, .aload_n 0, 1), (15, .bipush 10, 2), (17, .putfield 17, 3), (20, .aload_n 0, 1), (21, .new 20, 3), (24, .dup, 1), (25, .invokespecial 22, 3), (28, .putfield 23, 3), (31, .aload_n 0, 1), (32, .new 20, 3), (35, .dup, 1), (36, .invokespecial 22, 3), (39, .putfield 27, 3), (42, .aload_n 0, 1), (43, .new 20, 3), (46, .dup, 1), (47, .invokespecial 22, 3), (50, .putfield 30, 3), (53, .aload_n 0, 1), (54, .new 20, 3), (57, .dup, 1), (58, .invokespecial 22, 3), (61, .putfield 33, 3), (64, .aload_n 0, 1), (65, .bipush 6, 2), (67, .newarray .int, 2), (69, .putfield 36, 3), (72, .aload_n 0, 1), (73, .bipush 6, 2), (75, .newarray .int, 2), (77, .putfield 40, 3), (80, .aload_n 0, 1), (81, .iconst 5, 1), (82, .newarray .int, 2), (84, .putfield 43, 3), (87, .return_, 1)]
theorem dd_X14_init : ∀ q ∈ dt_X14_init, decode cX14_init q.1 = .ok q.2 := by
  first
  | (refine dw_all ?_; decide +kernel)
  | decide +kernel
noncomputable def dt_X14_thrown : List (Nat × Instr × Nat) := [(0, .aload_n 0, 1), (1, .getfield 46, 3), (4, .ireturn, 1)]
theorem dd_X14_thrown : ∀ q ∈ dt_X14_thrown, decode cX14_thrown q.1 = .ok q.2 := by
  first
  | (refine dw_all ?_; decide +kernel)
  | decide +kernel
noncomputable def dt_X14_refuse : List (Nat × Instr × Nat) := [(0, .aload_n 0, 1), (1, .iload_n 1, 1), (2, .putfield 46, 3), (5, .iconst 0, 1), (6, .ireturn, 1)]
theorem dd_X14_refuse : ∀ q ∈ dt_X14_refuse, decode cX14_refuse q.1 = .ok q.2 := by
  first
  | (refine dw_all ?_; decide +kernel)
  | decide +kernel
noncomputable def dt_X14_is : List (Nat × Instr × Nat) := [(0, .iload_n 0, 1), (1, .iload_n 1, 1), (2, .if_icmp .lt 12, 3), (5, .iload_n 0, 1), (6, .iload_n 2, 1), (7, .if_icmp .gt 7, 3), (10, .iconst 1, 1), (11, .goto 4, 3), (14, .iconst 0, 1), (15, .ireturn, 1)]
theorem dd_X14_is : ∀ q ∈ dt_X14_is, decode cX14_is q.1 = .ok q.2 := by
  first
  | (refine dw_all ?_; decide +kernel)
  | decide +kernel
noncomputable def dt_X14_codes : List (Nat × Instr × Nat) := [(0, .bipush 6, 2), (2, .newarray .int, 2), (4, .areturn, 1)]
theorem dd_X14_codes : ∀ q ∈ dt_X14_codes, decode cX14_codes q.1 = .ok q.2 := by
  first
  | (refine dw_all ?_; decide +kernel)
  | decide +kernel
noncomputable def dt_X14_power : List (Nat × Instr × Nat) := [(0, .iconst 1, 1), (1, .istore_n 1, 1), (2, .iconst 0, 1), (3, .istore_n 2, 1), (4, .iload_n 2, 1), (5, .iload_n 0, 1), (6, .if_icmp .ge 14, 3), (9, .iload_n 1, 1), (10, .bipush 6, 2), (12, .imul, 1), (13, .istore_n 1, 1), (14, .iinc 2 1, 3), (17, .goto (-13), 3), (20, .iload_n 1, 1), (21, .ireturn, 1)]
theorem dd_X14_power : ∀ q ∈ dt_X14_power, decode cX14_power q.1 = .ok q.2 := by
  first
  | (refine dw_all ?_; decide +kernel)
  | decide +kernel
noncomputable def dt_X14_of : List (Nat × Instr × Nat) := [(0, .iload_n 0, 1), (1, .iload_n 1, 1), (2, .invokestatic 49, 3), (5, .idiv, 1), (6, .bipush 6, 2), (8, .irem, 1), (9, .ireturn, 1)]
theorem dd_X14_of : ∀ q ∈ dt_X14_of, decode cX14_of q.1 = .ok q.2 := by
  first
  | (refine dw_all ?_; decide +kernel)
  | decide +kernel
noncomputable def dt_X14_with : List (Nat × Instr × Nat) := [(0, .iload_n 0, 1), (1, .iload_n 2, 1), (2, .iload_n 0, 1), (3, .iload_n 1, 1), (4, .invokestatic 53, 3), (7, .isub, 1), (8, .iload_n 1, 1), (9, .invokestatic 49, 3), (12, .imul, 1), (13, .iadd, 1), (14, .ireturn, 1)]
theorem dd_X14_with : ∀ q ∈ dt_X14_with, decode cX14_with q.1 = .ok q.2 := by
  first
  | (refine dw_all ?_; decide +kernel)
  | decide +kernel
noncomputable def dt_X14_points : List (Nat × Instr × Nat) := [(0, .iconst 0, 1), (1, .istore_n 2, 1), (2, .iconst 0, 1), (3, .istore_n 3, 1), (4, .iload_n 3, 1), (5, .aload_n 0, 1), (6, .getfield 23, 3), (9, .invokevirtual 57, 3), (12, .if_icmp .ge 32, 3), (15, .iload_n 2, 1), (16, .iload_n 1, 1), (17, .iload_n 3, 1), (18, .invokestatic 53, 3), (21, .aload_n 0, 1), (22, .getfield 23, 3), (25, .iload_n 3, 1), (26, .invokevirtual 61, 3), (29, .checkcast 65, 3), (32, .getfield 67, 3), (35, .imul, 1), (36, .iadd, 1), (37, .istore_n 2, 1), (38, .iinc 3 1, 3), (41, .goto (-37), 3), (44, .iload_n 2, 1), (45, .ireturn, 1)]
theorem dd_X14_points : ∀ q ∈ dt_X14_points, decode cX14_points q.1 = .ok q.2 := by
  first
  | (refine dw_all ?_; decide +kernel)
  | decide +kernel
noncomputable def dt_X14_isRegion : List (Nat × Instr × Nat) := [(0, .iload_n 1, 1), (1, .iconst 0, 1), (2, .aload_n 0, 1), (3, .getfield 23, 3), (6, .invokevirtual 57, 3), (9, .iconst 1, 1), (10, .isub, 1), (11, .invokestatic 70, 3), (14, .ireturn, 1)]
theorem dd_X14_isRegion : ∀ q ∈ dt_X14_isRegion, decode cX14_isRegion q.1 = .ok q.2 := by
  first
  | (refine dw_all ?_; decide +kernel)
  | decide +kernel
noncomputable def dt_X14_isBidder : List (Nat × Instr × Nat) := [(0, .iload_n 1, 1), (1, .iconst 0, 1), (2, .aload_n 0, 1), (3, .getfield 27, 3), (6, .invokevirtual 57, 3), (9, .iconst 1, 1), (10, .isub, 1), (11, .invokestatic 70, 3), (14, .ireturn, 1)]
theorem dd_X14_isBidder : ∀ q ∈ dt_X14_isBidder, decode cX14_isBidder q.1 = .ok q.2 := by
  first
  | (refine dw_all ?_; decide +kernel)
  | decide +kernel
noncomputable def dt_X14_areStations : List (Nat × Instr × Nat) := [(0, .iload_n 1, 1), (1, .ifCond .lt 22, 3), (4, .iload_n 1, 1), (5, .iconst 1, 1), (6, .aload_n 0, 1), (7, .getfield 33, 3), (10, .invokevirtual 57, 3), (13, .iconst 2, 1), (14, .idiv, 1), (15, .ishl, 1), (16, .if_icmp .ge 7, 3), (19, .iconst 1, 1), (20, .goto 4, 3), (23, .iconst 0, 1), (24, .ireturn, 1)]
theorem dd_X14_areStations : ∀ q ∈ dt_X14_areStations, decode cX14_areStations q.1 = .ok q.2 := by
  first
  | (refine dw_all ?_; decide +kernel)
  | decide +kernel
noncomputable def dt_X14_areBidders : List (Nat × Instr × Nat) := [(0, .iload_n 1, 1), (1, .ifCond .lt 20, 3), (4, .iload_n 1, 1), (5, .iconst 1, 1), (6, .aload_n 0, 1), (7, .getfield 27, 3), (10, .invokevirtual 57, 3), (13, .ishl, 1), (14, .if_icmp .ge 7, 3), (17, .iconst 1, 1), (18, .goto 4, 3), (21, .iconst 0, 1), (22, .ireturn, 1)]
theorem dd_X14_areBidders : ∀ q ∈ dt_X14_areBidders, decode cX14_areBidders q.1 = .ok q.2 := by
  first
  | (refine dw_all ?_; decide +kernel)
  | decide +kernel
noncomputable def dt_X14_region : List (Nat × Instr × Nat) := [(0, .aload_n 0, 1), (1, .iconst 0, 1), (2, .putfield 46, 3), (5, .iload_n 1, 1), (6, .iconst 1, 1), (7, .iconst 5, 1), (8, .invokestatic 70, 3), (11, .ifCond .eq 24, 3), (14, .iload_n 2, 1), (15, .iconst 1, 1), (16, .bipush 9, 2), (18, .invokestatic 70, 3), (21, .ifCond .eq 14, 3), (24, .iload_n 3, 1), (25, .iconst 1, 1), (26, .sipush 999, 3), (29, .invokestatic 70, 3), (32, .ifCond .ne 9, 3), (35, .aload_n 0, 1), (36, .iconst 1, 1), (37, .invokevirtual 74, 3), (40, .ireturn, 1), (41, .aload_n 0, 1), (42, .getfield 77, 3), (45, .ifCond .ne 14, 3), (48, .aload_n 0, 1), (49, .getfield 23, 3), (52, .invokevirtual 57, 3), (55, .iconst 5, 1), (56, .if_icmp .ne 9, 3), (59, .aload_n 0, 1), (60, .iconst 2, 1), (61, .invokevirtual 74, 3), (64, .ireturn, 1), (65, .new 65, 3), (68, .dup, 1), (69, .invokespecial 80, 3), (72, .astore 4, 2), (74, .aload 4, 2), (76, .iload_n 1, 1), (77, .putfield 81, 3), (80, .aload 4, 2), (82, .iload_n 2, 1), (83, .putfield 67, 3), (86, .aload 4, 2), (88, .iload_n 3, 1), (89, .putfield 84, 3), (92, .aload_n 0, 1), (93, .getfield 23, 3), (96, .aload 4, 2), (98, .invokevirtual 87, 3), (101, .pop, 1), (102, .aload_n 0, 1), (103, .getfield 23, 3), (106, .invokevirtual 57, 3), (109, .iconst 1, 1), (110, .isub, 1), (111, .ireturn, 1)]
theorem dd_X14_region : ∀ q ∈ dt_X14_region, decode cX14_region q.1 = .ok q.2 := by
  first
  | (refine dw_all ?_; decide +kernel)
  | decide +kernel
noncomputable def dt_X14_border : List (Nat × Instr × Nat) := [(0, .aload_n 0, 1), (1, .iconst 0, 1), (2, .putfield 46, 3), (5, .aload_n 0, 1), (6, .iload_n 1, 1), (7, .invokevirtual 91, 3), (10, .ifCond .eq 11, 3), (13, .aload_n 0, 1), (14, .iload_n 2, 1), (15, .invokevirtual 91, 3), (18, .ifCond .ne 9, 3), (21, .aload_n 0, 1), (22, .iconst 1, 1), (23, .invokevirtual 74, 3), (26, .ireturn, 1), (27, .iload_n 1, 1), (28, .iload_n 2, 1), (29, .if_icmp .ne 9, 3), (32, .aload_n 0, 1), (33, .iconst 2, 1), (34, .invokevirtual 74, 3), (37, .ireturn, 1), (38, .aload_n 0, 1), (39, .getfield 77, 3), (42, .ifCond .eq 9, 3), (45, .aload_n 0, 1), (46, .iconst 3, 1), (47, .invokevirtual 74, 3), (50, .ireturn, 1), (51, .aload_n 0, 1), (52, .getfield 23, 3), (55, .iload_n 1, 1), (56, .invokevirtual 61, 3), (59, .checkcast 65, 3), (62, .dup, 1), (63, .getfield 95, 3), (66, .iconst 1, 1), (67, .iload_n 2, 1), (68, .ishl, 1), (69, .ior, 1), (70, .putfield 95, 3), (73, .aload_n 0, 1), (74, .getfield 23, 3), (77, .iload_n 2, 1), (78, .invokevirtual 61, 3), (81, .checkcast 65, 3), (84, .dup, 1), (85, .getfield 95, 3), (88, .iconst 1, 1), (89, .iload_n 1, 1), (90, .ishl, 1), (91, .ior, 1), (92, .putfield 95, 3), (95, .iconst 0, 1), (96, .istore_n 3, 1), (97, .aload_n 0, 1), (98, .getfield 23, 3), (101, .invokevirtual 98, 3), (104, .astore 4, 2), (106, .aload 4, 2), (108, .invokeinterface 102 1, 5), (113, .ifCond .eq 29, 3), (116, .aload 4, 2), (118, .invokeinterface 108 1, 5), (123, .checkcast 65, 3), (126, .astore 5, 2), (128, .iload_n 3, 1), (129, .aload 5, 2), (131, .getfield 95, 3), (134, .invokestatic 112, 3), (137, .iadd, 1), (138, .istore_n 3, 1), (139, .goto (-33), 3), (142, .iload_n 3, 1), (143, .iconst 2, 1), (144, .idiv, 1), (145, .ireturn, 1)]
theorem dd_X14_border : ∀ q ∈ dt_X14_border, decode cX14_border q.1 = .ok q.2 := by
  first
  | (refine dw_all ?_; decide +kernel)
  | decide +kernel
noncomputable def dt_X14_bidder : List (Nat × Instr × Nat) := [(0, .aload_n 0, 1), (1, .iconst 0, 1), (2, .putfield 46, 3), (5, .iload_n 1, 1), (6, .iconst 0, 1), (7, .ldc 117, 2), (9, .invokestatic 70, 3), (12, .ifCond .eq 34, 3), (15, .iload_n 2, 1), (16, .iconst 1, 1), (17, .sipush 200, 3), (20, .invokestatic 70, 3), (23, .ifCond .eq 23, 3), (26, .iload_n 3, 1), (27, .iconst 0, 1), (28, .bipush 30, 2), (30, .invokestatic 70, 3), (33, .ifCond .eq 13, 3), (36, .iload 4, 2), (38, .iconst 0, 1), (39, .iconst 3, 1), (40, .invokestatic 70, 3), (43, .ifCond .ne 9, 3), (46, .aload_n 0, 1), (47, .iconst 1, 1), (48, .invokevirtual 74, 3), (51, .ireturn, 1), (52, .aload_n 0, 1), (53, .getfield 77, 3), (56, .ifCond .ne 15, 3), (59, .aload_n 0, 1), (60, .getfield 27, 3), (63, .invokevirtual 57, 3), (66, .bipush 6, 2), (68, .if_icmp .ne 9, 3), (71, .aload_n 0, 1), (72, .iconst 2, 1), (73, .invokevirtual 74, 3), (76, .ireturn, 1), (77, .new 118, 3), (80, .dup, 1), (81, .invokespecial 120, 3), (84, .astore 5, 2), (86, .aload 5, 2), (88, .iload_n 1, 1), (89, .putfield 121, 3), (92, .aload 5, 2), (94, .iload_n 2, 1), (95, .putfield 124, 3), (98, .aload 5, 2), (100, .iload_n 3, 1), (101, .putfield 127, 3), (104, .aload 5, 2), (106, .iload 4, 2), (108, .putfield 130, 3), (111, .aload_n 0, 1), (112, .getfield 27, 3), (115, .aload 5, 2), (117, .invokevirtual 87, 3), (120, .pop, 1), (121, .aload_n 0, 1), (122, .getfield 27, 3), (125, .invokevirtual 57, 3), (128, .iconst 1, 1), (129, .isub, 1), (130, .ireturn, 1)]
theorem dd_X14_bidder : ∀ q ∈ dt_X14_bidder, decode cX14_bidder q.1 = .ok q.2 := by
  first
  | (refine dw_all ?_; decide +kernel)
  | decide +kernel
noncomputable def dt_X14_rules : List (Nat × Instr × Nat) := [(0, .aload_n 0, 1), (1, .iconst 0, 1), (2, .putfield 46, 3), (5, .iload_n 1, 1), (6, .iconst 1, 1), (7, .iconst 5, 1), (8, .invokestatic 70, 3), (11, .ifCond .ne 9, 3), (14, .aload_n 0, 1), (15, .iconst 1, 1), (16, .invokevirtual 74, 3), (19, .ireturn, 1), (20, .aload_n 0, 1), (21, .getfield 77, 3), (24, .ifCond .eq 9, 3), (27, .aload_n 0, 1), (28, .iconst 2, 1), (29, .invokevirtual 74, 3), (32, .ireturn, 1), (33, .aload_n 0, 1), (34, .getfield 7, 3), (37, .istore_n 3, 1), (38, .aload_n 0, 1), (39, .iload_n 1, 1), (40, .putfield 7, 3), (43, .aload_n 0, 1), (44, .iload_n 2, 1), (45, .putfield 13, 3), (48, .iload_n 3, 1), (49, .ireturn, 1)]
theorem dd_X14_rules : ∀ q ∈ dt_X14_rules, decode cX14_rules q.1 = .ok q.2 := by
  first
  | (refine dw_all ?_; decide +kernel)
  | decide +kernel
noncomputable def dt_X14_step : List (Nat × Instr × Nat) := [(0, .aload_n 0, 1), (1, .iconst 0, 1), (2, .putfield 46, 3), (5, .iload_n 1, 1), (6, .iconst 1, 1), (7, .bipush 20, 2), (9, .invokestatic 70, 3), (12, .ifCond .ne 9, 3), (15, .aload_n 0, 1), (16, .iconst 1, 1), (17, .invokevirtual 74, 3), (20, .ireturn, 1), (21, .aload_n 0, 1), (22, .getfield 77, 3), (25, .iconst 1, 1), (26, .if_icmp .le 9, 3), (29, .aload_n 0, 1), (30, .iconst 2, 1), (31, .invokevirtual 74, 3), (34, .ireturn, 1), (35, .aload_n 0, 1), (36, .getfield 17, 3), (39, .istore_n 2, 1), (40, .aload_n 0, 1), (41, .iload_n 1, 1), (42, .putfield 17, 3), (45, .iload_n 2, 1), (46, .ireturn, 1)]
theorem dd_X14_step : ∀ q ∈ dt_X14_step, decode cX14_step q.1 = .ok q.2 := by
  first
  | (refine dw_all ?_; decide +kernel)
  | decide +kernel
noncomputable def dt_X14_open : List (Nat × Instr × Nat) := [(0, .aload_n 0, 1), (1, .iconst 0, 1), (2, .putfield 46, 3), (5, .aload_n 0, 1), (6, .getfield 77, 3), (9, .ifCond .ne 23, 3), (12, .aload_n 0, 1), (13, .getfield 23, 3), (16, .invokevirtual 133, 3), (19, .ifCond .ne 13, 3), (22, .aload_n 0, 1), (23, .getfield 27, 3), (26, .invokevirtual 133, 3), (29, .ifCond .eq 9, 3), (32, .aload_n 0, 1), (33, .iconst 1, 1), (34, .invokevirtual 74, 3), (37, .ireturn, 1), (38, .aload_n 0, 1), (39, .iconst 1, 1), (40, .putfield 77, 3), (43, .aload_n 0, 1), (44, .new 136, 3), (47, .dup, 1), (48, .aload_n 0, 1), (49, .invokespecial 138, 3), (52, .putfield 141, 3), (55, .iconst 0, 1), (56, .istore_n 1, 1), (57, .aload_n 0, 1), (58, .getfield 23, 3), (61, .invokevirtual 98, 3), (64, .astore_n 2, 1), (65, .aload_n 2, 1), (66, .invokeinterface 102 1, 5), (71, .ifCond .eq 23, 3), (74, .aload_n 2, 1), (75, .invokeinterface 108 1, 5), (80, .checkcast 65, 3), (83, .astore_n 3, 1), (84, .iload_n 1, 1), (85, .aload_n 3, 1), (86, .getfield 84, 3), (89, .iadd, 1), (90, .istore_n 1, 1), (91, .goto (-26), 3), (94, .iload_n 1, 1), (95, .ireturn, 1)]
theorem dd_X14_open : ∀ q ∈ dt_X14_open, decode cX14_open q.1 = .ok q.2 := by
  first
  | (refine dw_all ?_; decide +kernel)
  | decide +kernel
noncomputable def dt_X14_canWish : List (Nat × Instr × Nat) := [(0, .aload_n 0, 1), (1, .getfield 141, 3), (4, .getfield 145, 3), (7, .iload_n 1, 1), (8, .iaload, 1), (9, .istore 4, 2), (11, .iload_n 3, 1), (12, .iload 4, 2), (14, .iload_n 2, 1), (15, .invokestatic 53, 3), (18, .if_icmp .gt 5, 3), (21, .iconst 1, 1), (22, .ireturn, 1), (23, .aload_n 0, 1), (24, .getfield 27, 3), (27, .iload_n 1, 1), (28, .invokevirtual 61, 3), (31, .checkcast 118, 3), (34, .getfield 130, 3), (37, .istore 5, 2), (39, .iload_n 3, 1), (40, .istore 6, 2), (42, .iconst 0, 1), (43, .istore 7, 2), (45, .iload 7, 2), (47, .aload_n 0, 1), (48, .getfield 27, 3), (51, .invokevirtual 57, 3), (54, .if_icmp .ge 63, 3), (57, .iload 6, 2), (59, .iload 7, 2), (61, .iload_n 1, 1), (62, .if_icmp .eq 45, 3), (65, .iload 5, 2), (67, .ifCond .le 40, 3), (70, .aload_n 0, 1), (71, .getfield 27, 3), (74, .iload 7, 2), (76, .invokevirtual 61, 3), (79, .checkcast 118, 3), (82, .getfield 130, 3), (85, .iload 5, 2), (87, .if_icmp .ne 20, 3), (90, .aload_n 0, 1), (91, .getfield 141, 3), (94, .getfield 145, 3), (97, .iload 7, 2), (99, .iaload, 1), (100, .iload_n 2, 1), (101, .invokestatic 53, 3), (104, .goto 4, 3), (107, .iconst 0, 1), (108, .iadd, 1), (109, .istore 6, 2), (111, .iinc 7 1, 3), (114, .goto (-69), 3), (117, .iload_n 3, 1), (118, .aload_n 0, 1), (119, .getfield 23, 3), (122, .iload_n 2, 1), (123, .invokevirtual 61, 3), (126, .checkcast 65, 3), (129, .getfield 81, 3), (132, .if_icmp .gt 39, 3), (135, .iload 6, 2), (137, .aload_n 0, 1), (138, .getfield 7, 3), (141, .if_icmp .gt 30, 3), (144, .aload_n 0, 1), (145, .iload 4, 2), (147, .iload_n 2, 1), (148, .iload_n 3, 1), (149, .invokestatic 148, 3), (152, .invokevirtual 152, 3), (155, .aload_n 0, 1), (156, .getfield 141, 3), (159, .getfield 154, 3), (162, .iload_n 1, 1), (163, .iaload, 1), (164, .if_icmp .gt 7, 3), (167, .iconst 1, 1), (168, .goto 4, 3), (171, .iconst 0, 1), (172, .ireturn, 1)]
theorem dd_X14_canWish : ∀ q ∈ dt_X14_canWish, decode cX14_canWish q.1 = .ok q.2 := by
  first
  | (refine dw_all ?_; decide +kernel)
  | decide +kernel
noncomputable def dt_X14_wish : List (Nat × Instr × Nat) := [(0, .aload_n 0, 1), (1, .iconst 0, 1), (2, .putfield 46, 3), (5, .aload_n 0, 1), (6, .iload_n 1, 1), (7, .invokevirtual 156, 3), (10, .ifCond .eq 11, 3), (13, .aload_n 0, 1), (14, .iload_n 2, 1), (15, .invokevirtual 91, 3), (18, .ifCond .ne 9, 3), (21, .aload_n 0, 1), (22, .iconst 1, 1), (23, .invokevirtual 74, 3), (26, .ireturn, 1), (27, .iload_n 3, 1), (28, .iconst 0, 1), (29, .iconst 5, 1), (30, .invokestatic 70, 3), (33, .ifCond .ne 9, 3), (36, .aload_n 0, 1), (37, .iconst 2, 1), (38, .invokevirtual 74, 3), (41, .ireturn, 1), (42, .aload_n 0, 1), (43, .getfield 77, 3), (46, .iconst 1, 1), (47, .if_icmp .ne 13, 3), (50, .aload_n 0, 1), (51, .iload_n 1, 1), (52, .iload_n 2, 1), (53, .iload_n 3, 1), (54, .invokevirtual 159, 3), (57, .ifCond .ne 9, 3), (60, .aload_n 0, 1), (61, .iconst 3, 1), (62, .invokevirtual 74, 3), (65, .ireturn, 1), (66, .aload_n 0, 1), (67, .getfield 141, 3), (70, .getfield 145, 3), (73, .iload_n 1, 1), (74, .aload_n 0, 1), (75, .getfield 141, 3), (78, .getfield 145, 3), (81, .iload_n 1, 1), (82, .iaload, 1), (83, .iload_n 2, 1), (84, .iload_n 3, 1), (85, .invokestatic 148, 3), (88, .iastore, 1), (89, .aload_n 0, 1), (90, .aload_n 0, 1), (91, .getfield 141, 3), (94, .getfield 145, 3), (97, .iload_n 1, 1), (98, .iaload, 1), (99, .invokevirtual 152, 3), (102, .ireturn, 1)]
theorem dd_X14_wish : ∀ q ∈ dt_X14_wish, decode cX14_wish q.1 = .ok q.2 := by
  first
  | (refine dw_all ?_; decide +kernel)
  | decide +kernel
noncomputable def dt_X14_waive : List (Nat × Instr × Nat) := [(0, .aload_n 0, 1), (1, .iconst 0, 1), (2, .putfield 46, 3), (5, .aload_n 0, 1), (6, .iload_n 1, 1), (7, .invokevirtual 156, 3), (10, .ifCond .ne 9, 3), (13, .aload_n 0, 1), (14, .iconst 1, 1), (15, .invokevirtual 74, 3), (18, .ireturn, 1), (19, .aload_n 0, 1), (20, .getfield 77, 3), (23, .iconst 1, 1), (24, .if_icmp .ne 27, 3), (27, .aload_n 0, 1), (28, .getfield 141, 3), (31, .getfield 162, 3), (34, .iload_n 1, 1), (35, .iaload, 1), (36, .ifCond .eq 15, 3), (39, .aload_n 0, 1), (40, .getfield 141, 3), (43, .getfield 165, 3), (46, .iload_n 1, 1), (47, .baload, 1), (48, .ifCond .eq 9, 3), (51, .aload_n 0, 1), (52, .iconst 2, 1), (53, .invokevirtual 74, 3), (56, .ireturn, 1), (57, .aload_n 0, 1), (58, .getfield 141, 3), (61, .getfield 162, 3), (64, .iload_n 1, 1), (65, .dup2, 1), (66, .iaload, 1), (67, .iconst 1, 1), (68, .isub, 1), (69, .iastore, 1), (70, .aload_n 0, 1), (71, .getfield 141, 3), (74, .getfield 165, 3), (77, .iload_n 1, 1), (78, .iconst 1, 1), (79, .bastore, 1), (80, .aload_n 0, 1), (81, .getfield 141, 3), (84, .getfield 162, 3), (87, .iload_n 1, 1), (88, .iaload, 1), (89, .ireturn, 1)]
theorem dd_X14_waive : ∀ q ∈ dt_X14_waive, decode cX14_waive q.1 = .ok q.2 := by
  first
  | (refine dw_all ?_; decide +kernel)
  | decide +kernel
noncomputable def dt_X14_close : List (Nat × Instr × Nat) := [(0, .aload_n 0, 1), (1, .iconst 0, 1), (2, .putfield 46, 3), (5, .iload_n 1, 1), (6, .iconst 1, 1), (7, .bipush 9, 2), (9, .invokestatic 70, 3), (12, .ifCond .ne 9, 3), (15, .aload_n 0, 1), (16, .iconst 1, 1), (17, .invokevirtual 74, 3), (20, .ireturn, 1), (21, .aload_n 0, 1), (22, .getfield 77, 3), (25, .iconst 1, 1), (26, .if_icmp .eq 9, 3), (29, .aload_n 0, 1), (30, .iconst 2, 1), (31, .invokevirtual 74, 3), (34, .ireturn, 1), (35, .iconst 0, 1), (36, .istore_n 2, 1), (37, .iload_n 2, 1), (38, .iload_n 1, 1), (39, .if_icmp .ge 21, 3), (42, .aload_n 0, 1), (43, .getfield 77, 3), (46, .iconst 1, 1), (47, .if_icmp .ne 13, 3), (50, .aload_n 0, 1), (51, .invokevirtual 169, 3), (54, .iinc 2 1, 3), (57, .goto (-20), 3), (60, .aload_n 0, 1), (61, .getfield 77, 3), (64, .ireturn, 1)]
theorem dd_X14_close : ∀ q ∈ dt_X14_close, decode cX14_close q.1 = .ok q.2 := by
  first
  | (refine dw_all ?_; decide +kernel)
  | decide +kernel
noncomputable def dt_X14_closeOne : List (Nat × Instr × Nat) := [(0, .new 172, 3), (3, .dup, 1), (4, .invokespecial 174, 3), (7, .astore_n 1, 1), (8, .aload_n 1, 1), (9, .aload_n 0, 1), (10, .getfield 17, 3), (13, .putfield 175, 3), (16, .aload_n 1, 1), (17, .aload_n 0, 1), (18, .getfield 141, 3), (21, .getfield 176, 3), (24, .invokevirtual 179, 3), (27, .checkcast 180, 3), (30, .putfield 183, 3), (33, .aload_n 1, 1), (34, .aload_n 0, 1), (35, .getfield 141, 3), (38, .getfield 145, 3), (41, .invokevirtual 179, 3), (44, .checkcast 180, 3), (47, .putfield 184, 3), (50, .aload_n 1, 1), (51, .aload_n 0, 1), (52, .getfield 141, 3), (55, .getfield 165, 3), (58, .invokevirtual 185, 3), (61, .checkcast 186, 3), (64, .putfield 187, 3), (67, .aload_n 0, 1), (68, .getfield 141, 3), (71, .aload_n 0, 1), (72, .getfield 17, 3), (75, .invokevirtual 188, 3), (78, .aload_n 1, 1), (79, .aload_n 0, 1), (80, .getfield 141, 3), (83, .getfield 192, 3), (86, .invokevirtual 179, 3), (89, .checkcast 180, 3), (92, .putfield 195, 3), (95, .aload_n 0, 1), (96, .getfield 30, 3), (99, .aload_n 1, 1), (100, .invokevirtual 87, 3), (103, .pop, 1), (104, .aload_n 0, 1), (105, .getfield 141, 3), (108, .getfield 196, 3), (111, .ifCond .ne 4, 3), (114, .return_, 1), (115, .aload_n 0, 1), (116, .iconst 2, 1), (117, .putfield 77, 3), (120, .iconst 0, 1), (121, .istore_n 2, 1), (122, .iload_n 2, 1), (123, .aload_n 0, 1), (124, .getfield 27, 3), (127, .invokevirtual 57, 3), (130, .if_icmp .ge 84, 3), (133, .iconst 0, 1), (134, .istore_n 3, 1), (135, .iconst 0, 1), (136, .istore 4, 2), (138, .iload 4, 2), (140, .aload_n 0, 1), (141, .getfield 23, 3), (144, .invokevirtual 57, 3), (147, .if_icmp .ge 31, 3), (150, .iload_n 3, 1), (151, .aload_n 1, 1), (152, .getfield 195, 3), (155, .iload_n 2, 1), (156, .iaload, 1), (157, .iload 4, 2), (159, .invokestatic 53, 3), (162, .aload_n 1, 1), (163, .getfield 183, 3), (166, .iload 4, 2), (168, .iaload, 1), (169, .imul, 1), (170, .iadd, 1), (171, .istore_n 3, 1), (172, .iinc 4 1, 3), (175, .goto (-37), 3), (178, .aload_n 1, 1), (179, .getfield 195, 3), (182, .iload_n 2, 1), (183, .iaload, 1), (184, .ifCond .le 24, 3), (187, .aload_n 0, 1), (188, .getfield 27, 3), (191, .iload_n 2, 1), (192, .invokevirtual 61, 3), (195, .checkcast 118, 3), (198, .aload_n 1, 1), (199, .getfield 195, 3), (202, .iload_n 2, 1), (203, .iaload, 1), (204, .iload_n 3, 1), (205, .invokestatic 199, 3), (208, .iinc 2 1, 3), (211, .goto (-89), 3), (214, .return_, 1)]
theorem dd_X14_closeOne : ∀ q ∈ dt_X14_closeOne, decode cX14_closeOne q.1 = .ok q.2 := by
  first
  | (refine dw_all ?_; decide +kernel)
  | decide +kernel
noncomputable def dt_X14_addPackage : List (Nat × Instr × Nat) := [(0, .aload_n 0, 1), (1, .getfield 203, 3), (4, .iload_n 1, 1), (5, .invokestatic 206, 3), (8, .invokevirtual 87, 3), (11, .pop, 1), (12, .aload_n 0, 1), (13, .getfield 203, 3), (16, .iload_n 2, 1), (17, .invokestatic 206, 3), (20, .invokevirtual 87, 3), (23, .pop, 1), (24, .return_, 1)]
theorem dd_X14_addPackage : ∀ q ∈ dt_X14_addPackage, decode cX14_addPackage q.1 = .ok q.2 := by
  first
  | (refine dw_all ?_; decide +kernel)
  | decide +kernel
noncomputable def dt_X14_offer : List (Nat × Instr × Nat) := [(0, .aload_n 0, 1), (1, .iconst 0, 1), (2, .putfield 46, 3), (5, .aload_n 0, 1), (6, .iload_n 1, 1), (7, .invokevirtual 156, 3), (10, .ifCond .ne 9, 3), (13, .aload_n 0, 1), (14, .iconst 1, 1), (15, .invokevirtual 74, 3), (18, .ireturn, 1), (19, .iload_n 2, 1), (20, .ifCond .lt 21, 3), (23, .iload_n 2, 1), (24, .aload_n 0, 1), (25, .getfield 23, 3), (28, .invokevirtual 57, 3), (31, .invokestatic 49, 3), (34, .if_icmp .ge 7, 3), (37, .iload_n 3, 1), (38, .ifCond .ge 9, 3), (41, .aload_n 0, 1), (42, .iconst 2, 1), (43, .invokevirtual 74, 3), (46, .ireturn, 1), (47, .aload_n 0, 1), (48, .getfield 27, 3), (51, .iload_n 1, 1), (52, .invokevirtual 61, 3), (55, .checkcast 118, 3), (58, .astore 4, 2), (60, .aload_n 0, 1), (61, .getfield 77, 3), (64, .iconst 2, 1), (65, .if_icmp .ne 30, 3), (68, .aload 4, 2), (70, .invokevirtual 210, 3), (73, .bipush 6, 2), (75, .if_icmp .ge 20, 3), (78, .iload_n 2, 1), (79, .ifCond .le 16, 3), (82, .iload_n 3, 1), (83, .aload 4, 2), (85, .getfield 121, 3), (88, .if_icmp .gt 7, 3), (91, .iconst 1, 1), (92, .goto 4, 3), (95, .iconst 0, 1), (96, .istore 5, 2), (98, .lconst 0, 1), (99, .lstore 6, 2), (101, .iconst 0, 1), (102, .istore 8, 2), (104, .iload 8, 2), (106, .aload_n 0, 1), (107, .getfield 23, 3), (110, .invokevirtual 57, 3), (113, .if_icmp .ge 79, 3), (116, .lload 6, 2), (118, .iload_n 2, 1), (119, .iload 8, 2), (121, .invokestatic 53, 3), (124, .i2l, 1), (125, .aload_n 0, 1), (126, .getfield 23, 3), (129, .iload 8, 2), (131, .invokevirtual 61, 3), (134, .checkcast 65, 3), (137, .getfield 84, 3), (140, .i2l, 1), (141, .lmul, 1), (142, .ladd, 1), (143, .lstore 6, 2), (145, .iload 5, 2), (147, .iload_n 2, 1), (148, .iload 8, 2), (150, .invokestatic 53, 3), (153, .aload_n 0, 1), (154, .getfield 7, 3), (157, .aload_n 0, 1), (158, .getfield 23, 3), (161, .iload 8, 2), (163, .invokevirtual 61, 3), (166, .checkcast 65, 3), (169, .getfield 81, 3), (172, .invokestatic 213, 3), (175, .if_icmp .gt 7, 3), (178, .iconst 1, 1), (179, .goto 4, 3), (182, .iconst 0, 1), (183, .iand, 1), (184, .istore 5, 2), (186, .iinc 8 1, 3), (189, .goto (-85), 3), (192, .iload 5, 2), (194, .ifCond .eq 11, 3), (197, .iload_n 3, 1), (198, .i2l, 1), (199, .lload 6, 2), (201, .lcmp, 1), (202, .ifCond .ge 9, 3), (205, .aload_n 0, 1), (206, .iconst 3, 1), (207, .invokevirtual 74, 3), (210, .ireturn, 1), (211, .aload 4, 2), (213, .iload_n 2, 1), (214, .iload_n 3, 1), (215, .invokestatic 199, 3), (218, .aload 4, 2), (220, .invokevirtual 210, 3), (223, .iconst 1, 1), (224, .isub, 1), (225, .ireturn, 1)]
theorem dd_X14_offer : ∀ q ∈ dt_X14_offer, decode cX14_offer q.1 = .ok q.2 := by
  first
  | (refine dw_all ?_; decide +kernel)
  | decide +kernel
noncomputable def dt_X14_keep : List (Nat × Instr × Nat) := [(0, .new 218, 3), (3, .dup, 1), (4, .aload_n 0, 1), (5, .invokespecial 220, 3), (8, .astore_n 1, 1), (9, .aload_n 1, 1), (10, .getfield 221, 3), (13, .iconst 0, 1), (14, .aload_n 0, 1), (15, .getfield 36, 3), (18, .iconst 0, 1), (19, .bipush 6, 2), (21, .invokestatic 224, 3), (24, .aload_n 1, 1), (25, .aload_n 0, 1), (26, .getfield 230, 3), (29, .invokevirtual 233, 3), (32, .iconst 0, 1), (33, .aload_n 0, 1), (34, .getfield 40, 3), (37, .iconst 0, 1), (38, .bipush 6, 2), (40, .invokestatic 224, 3), (43, .iconst 0, 1), (44, .istore_n 2, 1), (45, .iload_n 2, 1), (46, .aload_n 0, 1), (47, .getfield 23, 3), (50, .invokevirtual 57, 3), (53, .if_icmp .ge 122, 3), (56, .iconst 0, 1), (57, .istore_n 3, 1), (58, .sipush 999, 3), (61, .istore 4, 2), (63, .iconst 0, 1), (64, .istore 5, 2), (66, .iload 5, 2), (68, .bipush 6, 2), (70, .if_icmp .ge 92, 3), (73, .iconst 0, 1), (74, .istore 6, 2), (76, .iconst 0, 1), (77, .istore 7, 2), (79, .iload 7, 2), (81, .iload_n 2, 1), (82, .if_icmp .ge 57, 3), (85, .iload 6, 2), (87, .aload_n 0, 1), (88, .getfield 23, 3), (91, .iload_n 2, 1), (92, .invokevirtual 61, 3), (95, .checkcast 65, 3), (98, .getfield 95, 3), (101, .iload 7, 2), (103, .ishr, 1), (104, .iconst 1, 1), (105, .iand, 1), (106, .iconst 1, 1), (107, .if_icmp .ne 22, 3), (110, .aload_n 0, 1), (111, .iload_n 2, 1), (112, .iload 5, 2), (114, .iload 7, 2), (116, .aload_n 0, 1), (117, .getfield 43, 3), (120, .iload 7, 2), (122, .iaload, 1), (123, .invokevirtual 236, 3), (126, .goto 4, 3), (129, .iconst 0, 1), (130, .iadd, 1), (131, .istore 6, 2), (133, .iinc 7 1, 3), (136, .goto (-57), 3), (139, .iload 6, 2), (141, .iload 4, 2), (143, .if_icmp .lt 6, 3), (146, .goto 10, 3), (149, .iload 6, 2), (151, .istore 4, 2), (153, .iload 5, 2), (155, .istore_n 3, 1), (156, .iinc 5 1, 3), (159, .goto (-93), 3), (162, .aload_n 0, 1), (163, .getfield 43, 3), (166, .iload_n 2, 1), (167, .iload_n 3, 1), (168, .iastore, 1), (169, .iinc 2 1, 3), (172, .goto (-127), 3), (175, .return_, 1)]
theorem dd_X14_keep : ∀ q ∈ dt_X14_keep, decode cX14_keep q.1 = .ok q.2 := by
  first
  | (refine dw_all ?_; decide +kernel)
  | decide +kernel
noncomputable def dt_X14_holds : List (Nat × Instr × Nat) := [(0, .iload_n 2, 1), (1, .istore 4, 2), (3, .iconst 0, 1), (4, .istore 5, 2), (6, .iload 5, 2), (8, .bipush 6, 2), (10, .if_icmp .ge 90, 3), (13, .iload 5, 2), (15, .iload_n 3, 1), (16, .iadd, 1), (17, .bipush 6, 2), (19, .irem, 1), (20, .istore 6, 2), (22, .iload 6, 2), (24, .aload_n 0, 1), (25, .getfield 27, 3), (28, .invokevirtual 57, 3), (31, .if_icmp .ge 43, 3), (34, .aload_n 0, 1), (35, .getfield 36, 3), (38, .iload 6, 2), (40, .iaload, 1), (41, .iconst (-1), 1), (42, .if_icmp .eq 32, 3), (45, .aload_n 0, 1), (46, .getfield 27, 3), (49, .iload 6, 2), (51, .invokevirtual 61, 3), (54, .checkcast 118, 3), (57, .aload_n 0, 1), (58, .getfield 36, 3), (61, .iload 6, 2), (63, .iaload, 1), (64, .invokevirtual 240, 3), (67, .iload_n 1, 1), (68, .invokestatic 53, 3), (71, .goto 4, 3), (74, .iconst 0, 1), (75, .istore 7, 2), (77, .iload 4, 2), (79, .iload 7, 2), (81, .if_icmp .ge 6, 3), (84, .iload 6, 2), (86, .ireturn, 1), (87, .iload 4, 2), (89, .iload 7, 2), (91, .isub, 1), (92, .istore 4, 2), (94, .iinc 5 1, 3), (97, .goto (-91), 3), (100, .iconst (-1), 1), (101, .ireturn, 1)]
theorem dd_X14_holds : ∀ q ∈ dt_X14_holds, decode cX14_holds q.1 = .ok q.2 := by
  first
  | (refine dw_all ?_; decide +kernel)
  | decide +kernel
noncomputable def dt_X14_clashes : List (Nat × Instr × Nat) := [(0, .iconst 0, 1), (1, .istore 5, 2), (3, .aload_n 0, 1), (4, .getfield 23, 3), (7, .iload_n 1, 1), (8, .invokevirtual 61, 3), (11, .checkcast 65, 3), (14, .getfield 81, 3), (17, .aload_n 0, 1), (18, .getfield 23, 3), (21, .iload_n 3, 1), (22, .invokevirtual 61, 3), (25, .checkcast 65, 3), (28, .getfield 81, 3), (31, .invokestatic 213, 3), (34, .istore 6, 2), (36, .iconst 0, 1), (37, .istore 7, 2), (39, .iload 7, 2), (41, .iload 6, 2), (43, .if_icmp .ge 59, 3), (46, .aload_n 0, 1), (47, .iload_n 1, 1), (48, .iload 7, 2), (50, .iload_n 2, 1), (51, .invokevirtual 243, 3), (54, .istore 8, 2), (56, .aload_n 0, 1), (57, .iload_n 3, 1), (58, .iload 7, 2), (60, .iload 4, 2), (62, .invokevirtual 243, 3), (65, .istore 9, 2), (67, .iload 5, 2), (69, .iload 8, 2), (71, .iconst (-1), 1), (72, .if_icmp .eq 20, 3), (75, .iload 9, 2), (77, .iconst (-1), 1), (78, .if_icmp .eq 14, 3), (81, .iload 8, 2), (83, .iload 9, 2), (85, .if_icmp .eq 7, 3), (88, .iconst 1, 1), (89, .goto 4, 3), (92, .iconst 0, 1), (93, .iadd, 1), (94, .istore 5, 2), (96, .iinc 7 1, 3), (99, .goto (-60), 3), (102, .iload 5, 2), (104, .ireturn, 1)]
theorem dd_X14_clashes : ∀ q ∈ dt_X14_clashes, decode cX14_clashes q.1 = .ok q.2 := by
  first
  | (refine dw_all ?_; decide +kernel)
  | decide +kernel
noncomputable def dt_X14_settle : List (Nat × Instr × Nat) := [(0, .aload_n 0, 1), (1, .iconst 0, 1), (2, .putfield 46, 3), (5, .iload_n 1, 1), (6, .iconst 0, 1), (7, .iconst 2, 1), (8, .invokestatic 70, 3), (11, .ifCond .ne 9, 3), (14, .aload_n 0, 1), (15, .iconst 1, 1), (16, .invokevirtual 74, 3), (19, .ireturn, 1), (20, .aload_n 0, 1), (21, .getfield 77, 3), (24, .iconst 2, 1), (25, .if_icmp .eq 9, 3), (28, .aload_n 0, 1), (29, .iconst 2, 1), (30, .invokevirtual 74, 3), (33, .ireturn, 1), (34, .aload_n 0, 1), (35, .iconst 3, 1), (36, .putfield 77, 3), (39, .aload_n 0, 1), (40, .iload_n 1, 1), (41, .putfield 230, 3), (44, .aload_n 0, 1), (45, .invokevirtual 246, 3), (48, .aload_n 0, 1), (49, .invokevirtual 249, 3), (52, .ireturn, 1)]
theorem dd_X14_settle : ∀ q ∈ dt_X14_settle, decode cX14_settle q.1 = .ok q.2 := by
  first
  | (refine dw_all ?_; decide +kernel)
  | decide +kernel
noncomputable def dt_X14_winnersKept : List (Nat × Instr × Nat) := [(0, .iconst 0, 1), (1, .istore_n 1, 1), (2, .iconst 0, 1), (3, .istore_n 2, 1), (4, .iload_n 2, 1), (5, .aload_n 0, 1), (6, .getfield 27, 3), (9, .invokevirtual 57, 3), (12, .if_icmp .ge 27, 3), (15, .iload_n 1, 1), (16, .aload_n 0, 1), (17, .getfield 36, 3), (20, .iload_n 2, 1), (21, .iaload, 1), (22, .iconst (-1), 1), (23, .if_icmp .ne 7, 3), (26, .iconst 0, 1), (27, .goto 4, 3), (30, .iconst 1, 1), (31, .iadd, 1), (32, .istore_n 1, 1), (33, .iinc 2 1, 3), (36, .goto (-32), 3), (39, .iload_n 1, 1), (40, .ireturn, 1)]
theorem dd_X14_winnersKept : ∀ q ∈ dt_X14_winnersKept, decode cX14_winnersKept q.1 = .ok q.2 := by
  first
  | (refine dw_all ?_; decide +kernel)
  | decide +kernel
noncomputable def dt_X14_fail : List (Nat × Instr × Nat) := [(0, .aload_n 0, 1), (1, .iconst 0, 1), (2, .putfield 46, 3), (5, .aload_n 0, 1), (6, .iload_n 1, 1), (7, .invokevirtual 156, 3), (10, .ifCond .ne 9, 3), (13, .aload_n 0, 1), (14, .iconst 1, 1), (15, .invokevirtual 74, 3), (18, .ireturn, 1), (19, .aload_n 0, 1), (20, .getfield 77, 3), (23, .iconst 3, 1), (24, .if_icmp .ne 13, 3), (27, .aload_n 0, 1), (28, .getfield 36, 3), (31, .iload_n 1, 1), (32, .iaload, 1), (33, .iconst (-1), 1), (34, .if_icmp .ne 9, 3), (37, .aload_n 0, 1), (38, .iconst 2, 1), (39, .invokevirtual 74, 3), (42, .ireturn, 1), (43, .aload_n 0, 1), (44, .getfield 27, 3), (47, .iload_n 1, 1), (48, .invokevirtual 61, 3), (51, .checkcast 118, 3), (54, .aload_n 0, 1), (55, .getfield 36, 3), (58, .iload_n 1, 1), (59, .iaload, 1), (60, .invokevirtual 252, 3), (63, .bipush 10, 2), (65, .idiv, 1), (66, .istore_n 2, 1), (67, .aload_n 0, 1), (68, .dup, 1), (69, .getfield 255, 3), (72, .iload_n 2, 1), (73, .iadd, 1), (74, .putfield 255, 3), (77, .aload_n 0, 1), (78, .getfield 27, 3), (81, .iload_n 1, 1), (82, .invokevirtual 61, 3), (85, .checkcast 118, 3), (88, .iconst 1, 1), (89, .putfield 258, 3), (92, .aload_n 0, 1), (93, .invokevirtual 246, 3), (96, .iload_n 2, 1), (97, .ireturn, 1)]
theorem dd_X14_fail : ∀ q ∈ dt_X14_fail, decode cX14_fail q.1 = .ok q.2 := by
  first
  | (refine dw_all ?_; decide +kernel)
  | decide +kernel
noncomputable def dt_X14_station : List (Nat × Instr × Nat) := [(0, .aload_n 0, 1), (1, .iconst 0, 1), (2, .putfield 46, 3), (5, .aload_n 0, 1), (6, .iload_n 1, 1), (7, .invokevirtual 91, 3), (10, .ifCond .ne 9, 3), (13, .aload_n 0, 1), (14, .iconst 1, 1), (15, .invokevirtual 74, 3), (18, .ireturn, 1), (19, .iload_n 2, 1), (20, .iconst 1, 1), (21, .sipush 9999, 3), (24, .invokestatic 70, 3), (27, .ifCond .ne 9, 3), (30, .aload_n 0, 1), (31, .iconst 2, 1), (32, .invokevirtual 74, 3), (35, .ireturn, 1), (36, .aload_n 0, 1), (37, .getfield 33, 3), (40, .invokevirtual 57, 3), (43, .bipush 20, 2), (45, .if_icmp .ne 9, 3), (48, .aload_n 0, 1), (49, .iconst 3, 1), (50, .invokevirtual 74, 3), (53, .ireturn, 1), (54, .aload_n 0, 1), (55, .getfield 33, 3), (58, .iload_n 1, 1), (59, .invokestatic 206, 3), (62, .invokevirtual 87, 3), (65, .pop, 1), (66, .aload_n 0, 1), (67, .getfield 33, 3), (70, .iload_n 2, 1), (71, .invokestatic 206, 3), (74, .invokevirtual 87, 3), (77, .pop, 1), (78, .aload_n 0, 1), (79, .getfield 33, 3), (82, .invokevirtual 57, 3), (85, .iconst 2, 1), (86, .idiv, 1), (87, .iconst 1, 1), (88, .isub, 1), (89, .ireturn, 1)]
theorem dd_X14_station : ∀ q ∈ dt_X14_station, decode cX14_station q.1 = .ok q.2 := by
  first
  | (refine dw_all ?_; decide +kernel)
  | decide +kernel
noncomputable def dt_X14_ask : List (Nat × Instr × Nat) := [(0, .aload_n 0, 1), (1, .iconst 0, 1), (2, .putfield 46, 3), (5, .iload_n 1, 1), (6, .iconst 0, 1), (7, .aload_n 0, 1), (8, .getfield 33, 3), (11, .invokevirtual 57, 3), (14, .iconst 2, 1), (15, .idiv, 1), (16, .iconst 1, 1), (17, .isub, 1), (18, .invokestatic 70, 3), (21, .ifCond .ne 9, 3), (24, .aload_n 0, 1), (25, .iconst 1, 1), (26, .invokevirtual 74, 3), (29, .ireturn, 1), (30, .iload_n 2, 1), (31, .iconst 1, 1), (32, .sipush 9999, 3), (35, .invokestatic 70, 3), (38, .ifCond .ne 9, 3), (41, .aload_n 0, 1), (42, .iconst 2, 1), (43, .invokevirtual 74, 3), (46, .ireturn, 1), (47, .aload_n 0, 1), (48, .getfield 33, 3), (51, .iconst 2, 1), (52, .iload_n 1, 1), (53, .imul, 1), (54, .iconst 1, 1), (55, .iadd, 1), (56, .iload_n 2, 1), (57, .invokestatic 206, 3), (60, .invokevirtual 261, 3), (63, .checkcast 113, 3), (66, .invokevirtual 265, 3), (69, .ireturn, 1)]
theorem dd_X14_ask : ∀ q ∈ dt_X14_ask, decode cX14_ask q.1 = .ok q.2 := by
  first
  | (refine dw_all ?_; decide +kernel)
  | decide +kernel
noncomputable def dt_X14_areDisturbing : List (Nat × Instr × Nat) := [(0, .aload_n 0, 1), (1, .getfield 33, 3), (4, .iconst 2, 1), (5, .iload_n 1, 1), (6, .imul, 1), (7, .invokevirtual 61, 3), (10, .checkcast 113, 3), (13, .invokevirtual 265, 3), (16, .istore_n 3, 1), (17, .aload_n 0, 1), (18, .getfield 33, 3), (21, .iconst 2, 1), (22, .iload_n 2, 1), (23, .imul, 1), (24, .invokevirtual 61, 3), (27, .checkcast 113, 3), (30, .invokevirtual 265, 3), (33, .istore 4, 2), (35, .iload_n 3, 1), (36, .iload 4, 2), (38, .if_icmp .eq 26, 3), (41, .aload_n 0, 1), (42, .getfield 23, 3), (45, .iload_n 3, 1), (46, .invokevirtual 61, 3), (49, .checkcast 65, 3), (52, .getfield 95, 3), (55, .iload 4, 2), (57, .ishr, 1), (58, .iconst 1, 1), (59, .iand, 1), (60, .iconst 1, 1), (61, .if_icmp .ne 7, 3), (64, .iconst 1, 1), (65, .goto 4, 3), (68, .iconst 0, 1), (69, .ireturn, 1)]
theorem dd_X14_areDisturbing : ∀ q ∈ dt_X14_areDisturbing, decode cX14_areDisturbing q.1 = .ok q.2 := by
  first
  | (refine dw_all ?_; decide +kernel)
  | decide +kernel
noncomputable def dt_X14_canPack : List (Nat × Instr × Nat) := [(0, .iload_n 2, 1), (1, .istore 4, 2), (3, .iload 4, 2), (5, .aload_n 0, 1), (6, .getfield 33, 3), (9, .invokevirtual 57, 3), (12, .iconst 2, 1), (13, .idiv, 1), (14, .if_icmp .ge 18, 3), (17, .iload_n 1, 1), (18, .iload 4, 2), (20, .ishr, 1), (21, .iconst 1, 1), (22, .iand, 1), (23, .ifCond .ne 9, 3), (26, .iinc 4 1, 3), (29, .goto (-26), 3), (32, .iload 4, 2), (34, .aload_n 0, 1), (35, .getfield 33, 3), (38, .invokevirtual 57, 3), (41, .iconst 2, 1), (42, .idiv, 1), (43, .if_icmp .ne 5, 3), (46, .iconst 1, 1), (47, .ireturn, 1), (48, .iconst 0, 1), (49, .istore 5, 2), (51, .iload 5, 2), (53, .aload_n 3, 1), (54, .arraylength, 1), (55, .if_icmp .ge 77, 3), (58, .aload_n 0, 1), (59, .aload_n 3, 1), (60, .iload 5, 2), (62, .iaload, 1), (63, .iload 4, 2), (65, .invokevirtual 268, 3), (68, .ifCond .ne 6, 3), (71, .goto 55, 3), (74, .aload_n 3, 1), (75, .iload 5, 2), (77, .dup2, 1), (78, .iaload, 1), (79, .iconst 1, 1), (80, .iload 4, 2), (82, .ishl, 1), (83, .ior, 1), (84, .iastore, 1), (85, .aload_n 0, 1), (86, .iload_n 1, 1), (87, .iload 4, 2), (89, .iconst 1, 1), (90, .iadd, 1), (91, .aload_n 3, 1), (92, .invokevirtual 272, 3), (95, .istore 6, 2), (97, .aload_n 3, 1), (98, .iload 5, 2), (100, .dup2, 1), (101, .iaload, 1), (102, .iconst 1, 1), (103, .iload 4, 2), (105, .ishl, 1), (106, .iconst (-1), 1), (107, .ixor, 1), (108, .iand, 1), (109, .iastore, 1), (110, .iload 6, 2), (112, .ifCond .eq 5, 3), (115, .iconst 1, 1), (116, .ireturn, 1), (117, .aload_n 3, 1), (118, .iload 5, 2), (120, .iaload, 1), (121, .ifCond .ne 5, 3), (124, .iconst 0, 1), (125, .ireturn, 1), (126, .iinc 5 1, 3), (129, .goto (-78), 3), (132, .iconst 0, 1), (133, .ireturn, 1)]
theorem dd_X14_canPack : ∀ q ∈ dt_X14_canPack, decode cX14_canPack q.1 = .ok q.2 := by
  first
  | (refine dw_all ?_; decide +kernel)
  | decide +kernel
noncomputable def dt_X14_isFree : List (Nat × Instr × Nat) := [(0, .iconst 0, 1), (1, .istore_n 3, 1), (2, .iload_n 3, 1), (3, .iload_n 2, 1), (4, .if_icmp .ge 29, 3), (7, .iload_n 1, 1), (8, .iload_n 3, 1), (9, .ishr, 1), (10, .iconst 1, 1), (11, .iand, 1), (12, .iconst 1, 1), (13, .if_icmp .ne 14, 3), (16, .aload_n 0, 1), (17, .iload_n 3, 1), (18, .iload_n 2, 1), (19, .invokevirtual 276, 3), (22, .ifCond .eq 5, 3), (25, .iconst 0, 1), (26, .ireturn, 1), (27, .iinc 3 1, 3), (30, .goto (-28), 3), (33, .iconst 1, 1), (34, .ireturn, 1)]
theorem dd_X14_isFree : ∀ q ∈ dt_X14_isFree, decode cX14_isFree q.1 = .ok q.2 := by
  first
  | (refine dw_all ?_; decide +kernel)
  | decide +kernel
noncomputable def dt_X14_packs : List (Nat × Instr × Nat) := [(0, .aload_n 0, 1), (1, .aload_n 0, 1), (2, .iload_n 1, 1), (3, .invokevirtual 279, 3), (6, .ifCond .eq 17, 3), (9, .iload_n 2, 1), (10, .iconst 1, 1), (11, .bipush 6, 2), (13, .invokestatic 70, 3), (16, .ifCond .eq 7, 3), (19, .iconst 0, 1), (20, .goto 4, 3), (23, .iconst 1, 1), (24, .putfield 46, 3), (27, .aload_n 0, 1), (28, .getfield 46, 3), (31, .ifCond .ne 19, 3), (34, .aload_n 0, 1), (35, .iload_n 1, 1), (36, .iconst 0, 1), (37, .iload_n 2, 1), (38, .newarray .int, 2), (40, .invokevirtual 272, 3), (43, .ifCond .eq 7, 3), (46, .iconst 1, 1), (47, .goto 4, 3), (50, .iconst 0, 1), (51, .ireturn, 1)]
theorem dd_X14_packs : ∀ q ∈ dt_X14_packs, decode cX14_packs q.1 = .ok q.2 := by
  first
  | (refine dw_all ?_; decide +kernel)
  | decide +kernel
noncomputable def dt_X14_channel : List (Nat × Instr × Nat) := [(0, .aload_n 0, 1), (1, .iconst 0, 1), (2, .putfield 46, 3), (5, .iload_n 3, 1), (6, .iconst 0, 1), (7, .aload_n 0, 1), (8, .getfield 33, 3), (11, .invokevirtual 57, 3), (14, .iconst 2, 1), (15, .idiv, 1), (16, .iconst 1, 1), (17, .isub, 1), (18, .invokestatic 70, 3), (21, .ifCond .ne 9, 3), (24, .aload_n 0, 1), (25, .iconst 1, 1), (26, .invokevirtual 74, 3), (29, .ireturn, 1), (30, .aload_n 0, 1), (31, .iload_n 1, 1), (32, .invokevirtual 279, 3), (35, .ifCond .eq 13, 3), (38, .iload_n 2, 1), (39, .iconst 1, 1), (40, .bipush 6, 2), (42, .invokestatic 70, 3), (45, .ifCond .ne 9, 3), (48, .aload_n 0, 1), (49, .iconst 2, 1), (50, .invokevirtual 74, 3), (53, .ireturn, 1), (54, .iload_n 2, 1), (55, .newarray .int, 2), (57, .astore 4, 2), (59, .iload_n 1, 1), (60, .iload_n 3, 1), (61, .ishr, 1), (62, .iconst 1, 1), (63, .iand, 1), (64, .ifCond .eq 14, 3), (67, .aload_n 0, 1), (68, .iload_n 1, 1), (69, .iconst 0, 1), (70, .aload 4, 2), (72, .invokevirtual 272, 3), (75, .ifCond .ne 5, 3), (78, .iconst (-1), 1), (79, .ireturn, 1), (80, .iconst 0, 1), (81, .istore 5, 2), (83, .iload 5, 2), (85, .iload_n 3, 1), (86, .if_icmp .gt 65, 3), (89, .iload_n 1, 1), (90, .iload 5, 2), (92, .ishr, 1), (93, .iconst 1, 1), (94, .iand, 1), (95, .ifCond .ne 6, 3), (98, .goto 47, 3), (101, .iconst 0, 1), (102, .istore 6, 2), (104, .aload_n 0, 1), (105, .iload_n 1, 1), (106, .iload 5, 2), (108, .iload 6, 2), (110, .aload 4, 2), (112, .invokevirtual 282, 3), (115, .ifCond .ne 9, 3), (118, .iinc 6 1, 3), (121, .goto (-17), 3), (124, .aload 4, 2), (126, .iload 6, 2), (128, .dup2, 1), (129, .iaload, 1), (130, .iconst 1, 1), (131, .iload 5, 2), (133, .ishl, 1), (134, .ior, 1), (135, .iastore, 1), (136, .iload 5, 2), (138, .iload_n 3, 1), (139, .if_icmp .ne 6, 3), (142, .iload 6, 2), (144, .ireturn, 1), (145, .iinc 5 1, 3), (148, .goto (-65), 3), (151, .iconst (-1), 1), (152, .ireturn, 1)]
theorem dd_X14_channel : ∀ q ∈ dt_X14_channel, decode cX14_channel q.1 = .ok q.2 := by
  first
  | (refine dw_all ?_; decide +kernel)
  | decide +kernel
noncomputable def dt_X14_isFits : List (Nat × Instr × Nat) := [(0, .aload_n 0, 1), (1, .aload 4, 2), (3, .iload_n 3, 1), (4, .iaload, 1), (5, .iload_n 2, 1), (6, .invokevirtual 268, 3), (9, .ifCond .ne 5, 3), (12, .iconst 0, 1), (13, .ireturn, 1), (14, .aload 4, 2), (16, .iload_n 3, 1), (17, .dup2, 1), (18, .iaload, 1), (19, .iconst 1, 1), (20, .iload_n 2, 1), (21, .ishl, 1), (22, .ior, 1), (23, .iastore, 1), (24, .aload_n 0, 1), (25, .iload_n 1, 1), (26, .iload_n 2, 1), (27, .iconst 1, 1), (28, .iadd, 1), (29, .aload 4, 2), (31, .invokevirtual 272, 3), (34, .istore 5, 2), (36, .aload 4, 2), (38, .iload_n 3, 1), (39, .dup2, 1), (40, .iaload, 1), (41, .iconst 1, 1), (42, .iload_n 2, 1), (43, .ishl, 1), (44, .iconst (-1), 1), (45, .ixor, 1), (46, .iand, 1), (47, .iastore, 1), (48, .iload 5, 2), (50, .ireturn, 1)]
theorem dd_X14_isFits : ∀ q ∈ dt_X14_isFits, decode cX14_isFits q.1 = .ok q.2 := by
  first
  | (refine dw_all ?_; decide +kernel)
  | decide +kernel
noncomputable def dt_X14_clearNow : List (Nat × Instr × Nat) := [(0, .iconst 1, 1), (1, .aload_n 0, 1), (2, .getfield 33, 3), (5, .invokevirtual 57, 3), (8, .iconst 2, 1), (9, .idiv, 1), (10, .ishl, 1), (11, .iconst 1, 1), (12, .isub, 1), (13, .istore_n 2, 1), (14, .iload_n 1, 1), (15, .newarray .int, 2), (17, .astore_n 3, 1), (18, .iload_n 2, 1), (19, .istore 4, 2), (21, .ldc_w 286, 3), (24, .istore 5, 2), (26, .iconst 0, 1), (27, .istore 6, 2), (29, .iload 6, 2), (31, .iload_n 2, 1), (32, .if_icmp .gt 100, 3), (35, .iconst 0, 1), (36, .istore 7, 2), (38, .iconst 0, 1), (39, .istore 8, 2), (41, .iload 8, 2), (43, .aload_n 0, 1), (44, .getfield 33, 3), (47, .invokevirtual 57, 3), (50, .iconst 2, 1), (51, .idiv, 1), (52, .if_icmp .ge 41, 3), (55, .iload 7, 2), (57, .iload 6, 2), (59, .iload 8, 2), (61, .ishr, 1), (62, .iconst 1, 1), (63, .iand, 1), (64, .aload_n 0, 1), (65, .getfield 33, 3), (68, .iconst 2, 1), (69, .iload 8, 2), (71, .imul, 1), (72, .iconst 1, 1), (73, .iadd, 1), (74, .invokevirtual 61, 3), (77, .checkcast 113, 3), (80, .invokevirtual 265, 3), (83, .imul, 1), (84, .iadd, 1), (85, .istore 7, 2), (87, .iinc 8 1, 3), (90, .goto (-49), 3), (93, .iload 7, 2), (95, .iload 5, 2), (97, .if_icmp .ge 29, 3), (100, .aload_n 0, 1), (101, .iload_n 2, 1), (102, .iload 6, 2), (104, .iconst (-1), 1), (105, .ixor, 1), (106, .iand, 1), (107, .iconst 0, 1), (108, .aload_n 3, 1), (109, .invokevirtual 272, 3), (112, .ifCond .ne 6, 3), (115, .goto 11, 3), (118, .iload 6, 2), (120, .istore 4, 2), (122, .iload 7, 2), (124, .istore 5, 2), (126, .iinc 6 1, 3), (129, .goto (-100), 3), (132, .iload 4, 2), (134, .ireturn, 1)]
theorem dd_X14_clearNow : ∀ q ∈ dt_X14_clearNow, decode cX14_clearNow q.1 = .ok q.2 := by
  first
  | (refine dw_all ?_; decide +kernel)
  | decide +kernel
noncomputable def dt_X14_clear : List (Nat × Instr × Nat) := [(0, .aload_n 0, 1), (1, .iconst 0, 1), (2, .putfield 46, 3), (5, .iload_n 1, 1), (6, .iconst 1, 1), (7, .bipush 6, 2), (9, .invokestatic 70, 3), (12, .ifCond .eq 11, 3), (15, .aload_n 0, 1), (16, .iload_n 1, 1), (17, .invokevirtual 287, 3), (20, .goto 8, 3), (23, .aload_n 0, 1), (24, .iconst 1, 1), (25, .invokevirtual 74, 3), (28, .ireturn, 1)]
theorem dd_X14_clear : ∀ q ∈ dt_X14_clear, decode cX14_clear q.1 = .ok q.2 := by
  first
  | (refine dw_all ?_; decide +kernel)
  | decide +kernel
noncomputable def dt_X14_ofRegionNow : List (Nat × Instr × Nat) := [(0, .aload_n 0, 1), (1, .getfield 23, 3), (4, .iload_n 1, 1), (5, .invokevirtual 61, 3), (8, .checkcast 65, 3), (11, .astore_n 3, 1), (12, .iload_n 2, 1), (13, .tableswitch 156 0 7 #[47, 52, 57, 62, 86, 106, 131, 151], 47), (60, .aload_n 3, 1), (61, .getfield 81, 3), (64, .ireturn, 1), (65, .aload_n 3, 1), (66, .getfield 67, 3), (69, .ireturn, 1), (70, .aload_n 3, 1), (71, .getfield 84, 3), (74, .ireturn, 1), (75, .aload_n 0, 1), (76, .getfield 141, 3), (79, .ifnonnull 10, 3), (82, .aload_n 3, 1), (83, .getfield 84, 3), (86, .goto 12, 3), (89, .aload_n 0, 1), (90, .getfield 141, 3), (93, .getfield 176, 3), (96, .iload_n 1, 1), (97, .iaload, 1), (98, .ireturn, 1), (99, .aload_n 0, 1), (100, .getfield 141, 3), (103, .ifnonnull 7, 3), (106, .iconst 0, 1), (107, .goto 11, 3), (110, .aload_n 0, 1), (111, .getfield 141, 3), (114, .iload_n 1, 1), (115, .invokevirtual 290, 3), (118, .ireturn, 1), (119, .aload_n 0, 1), (120, .getfield 141, 3), (123, .ifnonnull 7, 3), (126, .iconst 0, 1), (127, .goto 11, 3), (130, .aload_n 0, 1), (131, .getfield 141, 3), (134, .iload_n 1, 1), (135, .invokevirtual 290, 3), (138, .aload_n 3, 1), (139, .getfield 81, 3), (142, .isub, 1), (143, .ireturn, 1), (144, .aload_n 0, 1), (145, .getfield 141, 3), (148, .ifnonnull 7, 3), (151, .iconst 0, 1), (152, .goto 11, 3), (155, .aload_n 0, 1), (156, .getfield 141, 3), (159, .iload_n 1, 1), (160, .invokevirtual 293, 3), (163, .ireturn, 1), (164, .aload_n 3, 1), (165, .getfield 95, 3), (168, .ireturn, 1), (169, .aload_n 0, 1), (170, .iload_n 1, 1), (171, .invokevirtual 296, 3), (174, .ireturn, 1)]
theorem dd_X14_ofRegionNow : ∀ q ∈ dt_X14_ofRegionNow, decode cX14_ofRegionNow q.1 = .ok q.2 := by
  first
  | (refine dw_all ?_; decide +kernel)
  | decide +kernel
noncomputable def dt_X14_stationsIn : List (Nat × Instr × Nat) := [(0, .iconst 0, 1), (1, .istore_n 2, 1), (2, .iconst 0, 1), (3, .istore_n 3, 1), (4, .iload_n 3, 1), (5, .aload_n 0, 1), (6, .getfield 33, 3), (9, .invokevirtual 57, 3), (12, .if_icmp .ge 35, 3), (15, .iload_n 2, 1), (16, .aload_n 0, 1), (17, .getfield 33, 3), (20, .iload_n 3, 1), (21, .invokevirtual 61, 3), (24, .checkcast 113, 3), (27, .invokevirtual 265, 3), (30, .iload_n 1, 1), (31, .if_icmp .ne 7, 3), (34, .iconst 1, 1), (35, .goto 4, 3), (38, .iconst 0, 1), (39, .iadd, 1), (40, .istore_n 2, 1), (41, .iinc 3 2, 3), (44, .goto (-40), 3), (47, .iload_n 2, 1), (48, .ireturn, 1)]
theorem dd_X14_stationsIn : ∀ q ∈ dt_X14_stationsIn, decode cX14_stationsIn q.1 = .ok q.2 := by
  first
  | (refine dw_all ?_; decide +kernel)
  | decide +kernel
noncomputable def dt_X14_ofRegion : List (Nat × Instr × Nat) := [(0, .aload_n 0, 1), (1, .iconst 0, 1), (2, .putfield 46, 3), (5, .aload_n 0, 1), (6, .iload_n 1, 1), (7, .invokevirtual 91, 3), (10, .ifCond .ne 9, 3), (13, .aload_n 0, 1), (14, .iconst 1, 1), (15, .invokevirtual 74, 3), (18, .ireturn, 1), (19, .iload_n 2, 1), (20, .iconst 0, 1), (21, .bipush 8, 2), (23, .invokestatic 70, 3), (26, .ifCond .eq 12, 3), (29, .aload_n 0, 1), (30, .iload_n 1, 1), (31, .iload_n 2, 1), (32, .invokevirtual 299, 3), (35, .goto 8, 3), (38, .aload_n 0, 1), (39, .iconst 2, 1), (40, .invokevirtual 74, 3), (43, .ireturn, 1)]
theorem dd_X14_ofRegion : ∀ q ∈ dt_X14_ofRegion, decode cX14_ofRegion q.1 = .ok q.2 := by
  first
  | (refine dw_all ?_; decide +kernel)
  | decide +kernel
noncomputable def dt_X14_heldCode : List (Nat × Instr × Nat) := [(0, .aload_n 0, 1), (1, .getfield 141, 3), (4, .ifnonnull 7, 3), (7, .iconst 0, 1), (8, .goto 12, 3), (11, .aload_n 0, 1), (12, .getfield 141, 3), (15, .getfield 192, 3), (18, .iload_n 1, 1), (19, .iaload, 1), (20, .ireturn, 1)]
theorem dd_X14_heldCode : ∀ q ∈ dt_X14_heldCode, decode cX14_heldCode q.1 = .ok q.2 := by
  first
  | (refine dw_all ?_; decide +kernel)
  | decide +kernel
noncomputable def dt_X14_wishedCode : List (Nat × Instr × Nat) := [(0, .aload_n 0, 1), (1, .getfield 141, 3), (4, .ifnonnull 7, 3), (7, .iconst 0, 1), (8, .goto 12, 3), (11, .aload_n 0, 1), (12, .getfield 141, 3), (15, .getfield 145, 3), (18, .iload_n 1, 1), (19, .iaload, 1), (20, .ireturn, 1)]
theorem dd_X14_wishedCode : ∀ q ∈ dt_X14_wishedCode, decode cX14_wishedCode q.1 = .ok q.2 := by
  first
  | (refine dw_all ?_; decide +kernel)
  | decide +kernel
noncomputable def dt_X14_ofBidderNow : List (Nat × Instr × Nat) := [(0, .aload_n 0, 1), (1, .getfield 27, 3), (4, .iload_n 1, 1), (5, .invokevirtual 61, 3), (8, .checkcast 118, 3), (11, .astore_n 3, 1), (12, .iload_n 2, 1), (13, .tableswitch 155 0 9 #[55, 60, 84, 89, 94, 115, 121, 127, 137, 142], 55), (68, .aload_n 3, 1), (69, .getfield 121, 3), (72, .ireturn, 1), (73, .aload_n 0, 1), (74, .getfield 141, 3), (77, .ifnonnull 10, 3), (80, .aload_n 3, 1), (81, .getfield 124, 3), (84, .goto 12, 3), (87, .aload_n 0, 1), (88, .getfield 141, 3), (91, .getfield 154, 3), (94, .iload_n 1, 1), (95, .iaload, 1), (96, .ireturn, 1), (97, .aload_n 3, 1), (98, .getfield 127, 3), (101, .ireturn, 1), (102, .aload_n 3, 1), (103, .getfield 130, 3), (106, .ireturn, 1), (107, .aload_n 0, 1), (108, .getfield 141, 3), (111, .ifnonnull 7, 3), (114, .iconst 2, 1), (115, .goto 12, 3), (118, .aload_n 0, 1), (119, .getfield 141, 3), (122, .getfield 162, 3), (125, .iload_n 1, 1), (126, .iaload, 1), (127, .ireturn, 1), (128, .aload_n 0, 1), (129, .iload_n 1, 1), (130, .invokevirtual 302, 3), (133, .ireturn, 1), (134, .aload_n 0, 1), (135, .iload_n 1, 1), (136, .invokevirtual 305, 3), (139, .ireturn, 1), (140, .aload_n 0, 1), (141, .aload_n 0, 1), (142, .iload_n 1, 1), (143, .invokevirtual 305, 3), (146, .invokevirtual 152, 3), (149, .ireturn, 1), (150, .aload_n 3, 1), (151, .invokevirtual 210, 3), (154, .ireturn, 1), (155, .aload_n 3, 1), (156, .getfield 258, 3), (159, .ifCond .eq 7, 3), (162, .iconst 1, 1), (163, .goto 4, 3), (166, .iconst 0, 1), (167, .ireturn, 1), (168, .aload_n 0, 1), (169, .getfield 141, 3), (172, .ifnonnull 7, 3), (175, .iconst 0, 1), (176, .goto 12, 3), (179, .aload_n 0, 1), (180, .getfield 141, 3), (183, .getfield 308, 3), (186, .iload_n 1, 1), (187, .iaload, 1), (188, .ireturn, 1)]
theorem dd_X14_ofBidderNow : ∀ q ∈ dt_X14_ofBidderNow, decode cX14_ofBidderNow q.1 = .ok q.2 := by
  first
  | (refine dw_all ?_; decide +kernel)
  | decide +kernel
noncomputable def dt_X14_ofBidder : List (Nat × Instr × Nat) := [(0, .aload_n 0, 1), (1, .iconst 0, 1), (2, .putfield 46, 3), (5, .aload_n 0, 1), (6, .iload_n 1, 1), (7, .invokevirtual 156, 3), (10, .ifCond .ne 9, 3), (13, .aload_n 0, 1), (14, .iconst 1, 1), (15, .invokevirtual 74, 3), (18, .ireturn, 1), (19, .iload_n 2, 1), (20, .iconst 0, 1), (21, .bipush 10, 2), (23, .invokestatic 70, 3), (26, .ifCond .eq 12, 3), (29, .aload_n 0, 1), (30, .iload_n 1, 1), (31, .iload_n 2, 1), (32, .invokevirtual 311, 3), (35, .goto 8, 3), (38, .aload_n 0, 1), (39, .iconst 2, 1), (40, .invokevirtual 74, 3), (43, .ireturn, 1)]
theorem dd_X14_ofBidder : ∀ q ∈ dt_X14_ofBidder, decode cX14_ofBidder q.1 = .ok q.2 := by
  first
  | (refine dw_all ?_; decide +kernel)
  | decide +kernel
noncomputable def dt_X14_wants : List (Nat × Instr × Nat) := [(0, .aload_n 0, 1), (1, .iconst 0, 1), (2, .putfield 46, 3), (5, .aload_n 0, 1), (6, .iload_n 1, 1), (7, .invokevirtual 156, 3), (10, .ifCond .eq 11, 3), (13, .aload_n 0, 1), (14, .iload_n 2, 1), (15, .invokevirtual 91, 3), (18, .ifCond .ne 9, 3), (21, .aload_n 0, 1), (22, .iconst 1, 1), (23, .invokevirtual 74, 3), (26, .ireturn, 1), (27, .iload_n 3, 1), (28, .ifCond .eq 11, 3), (31, .aload_n 0, 1), (32, .iload_n 1, 1), (33, .invokevirtual 302, 3), (36, .goto 8, 3), (39, .aload_n 0, 1), (40, .iload_n 1, 1), (41, .invokevirtual 305, 3), (44, .iload_n 2, 1), (45, .invokestatic 53, 3), (48, .ireturn, 1)]
theorem dd_X14_wants : ∀ q ∈ dt_X14_wants, decode cX14_wants q.1 = .ok q.2 := by
  first
  | (refine dw_all ?_; decide +kernel)
  | decide +kernel
noncomputable def dt_X14_isRound : List (Nat × Instr × Nat) := [(0, .iload_n 1, 1), (1, .iconst 1, 1), (2, .aload_n 0, 1), (3, .getfield 30, 3), (6, .invokevirtual 57, 3), (9, .invokestatic 70, 3), (12, .ireturn, 1)]
theorem dd_X14_isRound : ∀ q ∈ dt_X14_isRound, decode cX14_isRound q.1 = .ok q.2 := by
  first
  | (refine dw_all ?_; decide +kernel)
  | decide +kernel
noncomputable def dt_X14_priceIn : List (Nat × Instr × Nat) := [(0, .aload_n 0, 1), (1, .iconst 0, 1), (2, .putfield 46, 3), (5, .aload_n 0, 1), (6, .iload_n 1, 1), (7, .invokevirtual 314, 3), (10, .ifCond .eq 32, 3), (13, .aload_n 0, 1), (14, .iload_n 2, 1), (15, .invokevirtual 91, 3), (18, .ifCond .eq 24, 3), (21, .aload_n 0, 1), (22, .getfield 30, 3), (25, .iload_n 1, 1), (26, .iconst 1, 1), (27, .isub, 1), (28, .invokevirtual 61, 3), (31, .checkcast 172, 3), (34, .getfield 183, 3), (37, .iload_n 2, 1), (38, .iaload, 1), (39, .goto 8, 3), (42, .aload_n 0, 1), (43, .iconst 1, 1), (44, .invokevirtual 74, 3), (47, .ireturn, 1)]
theorem dd_X14_priceIn : ∀ q ∈ dt_X14_priceIn, decode cX14_priceIn q.1 = .ok q.2 := by
  first
  | (refine dw_all ?_; decide +kernel)
  | decide +kernel
noncomputable def dt_X14_codeIn : List (Nat × Instr × Nat) := [(0, .aload_n 0, 1), (1, .iconst 0, 1), (2, .putfield 46, 3), (5, .aload_n 0, 1), (6, .iload_n 1, 1), (7, .invokevirtual 314, 3), (10, .ifCond .eq 11, 3), (13, .aload_n 0, 1), (14, .iload_n 2, 1), (15, .invokevirtual 156, 3), (18, .ifCond .ne 9, 3), (21, .aload_n 0, 1), (22, .iconst 1, 1), (23, .invokevirtual 74, 3), (26, .ireturn, 1), (27, .iload_n 3, 1), (28, .ifCond .eq 24, 3), (31, .aload_n 0, 1), (32, .getfield 30, 3), (35, .iload_n 1, 1), (36, .iconst 1, 1), (37, .isub, 1), (38, .invokevirtual 61, 3), (41, .checkcast 172, 3), (44, .getfield 195, 3), (47, .iload_n 2, 1), (48, .iaload, 1), (49, .goto 21, 3), (52, .aload_n 0, 1), (53, .getfield 30, 3), (56, .iload_n 1, 1), (57, .iconst 1, 1), (58, .isub, 1), (59, .invokevirtual 61, 3), (62, .checkcast 172, 3), (65, .getfield 184, 3), (68, .iload_n 2, 1), (69, .iaload, 1), (70, .ireturn, 1)]
theorem dd_X14_codeIn : ∀ q ∈ dt_X14_codeIn, decode cX14_codeIn q.1 = .ok q.2 := by
  first
  | (refine dw_all ?_; decide +kernel)
  | decide +kernel
noncomputable def dt_X14_ofPackage : List (Nat × Instr × Nat) := [(0, .aload_n 0, 1), (1, .iconst 0, 1), (2, .putfield 46, 3), (5, .aload_n 0, 1), (6, .iload_n 1, 1), (7, .invokevirtual 156, 3), (10, .ifCond .eq 27, 3), (13, .iload_n 2, 1), (14, .iconst 0, 1), (15, .aload_n 0, 1), (16, .getfield 27, 3), (19, .iload_n 1, 1), (20, .invokevirtual 61, 3), (23, .checkcast 118, 3), (26, .invokevirtual 210, 3), (29, .iconst 1, 1), (30, .isub, 1), (31, .invokestatic 70, 3), (34, .ifCond .ne 9, 3), (37, .aload_n 0, 1), (38, .iconst 1, 1), (39, .invokevirtual 74, 3), (42, .ireturn, 1), (43, .iload_n 3, 1), (44, .ifCond .eq 21, 3), (47, .aload_n 0, 1), (48, .getfield 27, 3), (51, .iload_n 1, 1), (52, .invokevirtual 61, 3), (55, .checkcast 118, 3), (58, .iload_n 2, 1), (59, .invokevirtual 252, 3), (62, .goto 18, 3), (65, .aload_n 0, 1), (66, .getfield 27, 3), (69, .iload_n 1, 1), (70, .invokevirtual 61, 3), (73, .checkcast 118, 3), (76, .iload_n 2, 1), (77, .invokevirtual 240, 3), (80, .ireturn, 1)]
theorem dd_X14_ofPackage : ∀ q ∈ dt_X14_ofPackage, decode cX14_ofPackage q.1 = .ok q.2 := by
  first
  | (refine dw_all ?_; decide +kernel)
  | decide +kernel
noncomputable def dt_X14_winsNow : List (Nat × Instr × Nat) := [(0, .aload_n 0, 1), (1, .getfield 77, 3), (4, .iconst 3, 1), (5, .if_icmp .ne 12, 3), (8, .aload_n 0, 1), (9, .getfield 36, 3), (12, .iload_n 1, 1), (13, .iaload, 1), (14, .goto 9, 3), (17, .aload_n 2, 1), (18, .getfield 221, 3), (21, .iload_n 1, 1), (22, .iaload, 1), (23, .ireturn, 1)]
theorem dd_X14_winsNow : ∀ q ∈ dt_X14_winsNow, decode cX14_winsNow q.1 = .ok q.2 := by
  first
  | (refine dw_all ?_; decide +kernel)
  | decide +kernel
noncomputable def dt_X14_wins : List (Nat × Instr × Nat) := [(0, .aload_n 0, 1), (1, .iconst 0, 1), (2, .putfield 46, 3), (5, .aload_n 0, 1), (6, .iload_n 1, 1), (7, .invokevirtual 156, 3), (10, .ifCond .eq 19, 3), (13, .aload_n 0, 1), (14, .iload_n 1, 1), (15, .new 218, 3), (18, .dup, 1), (19, .aload_n 0, 1), (20, .invokespecial 220, 3), (23, .invokevirtual 317, 3), (26, .goto 8, 3), (29, .aload_n 0, 1), (30, .iconst 1, 1), (31, .invokevirtual 74, 3), (34, .ireturn, 1)]
theorem dd_X14_wins : ∀ q ∈ dt_X14_wins, decode cX14_wins q.1 = .ok q.2 := by
  first
  | (refine dw_all ?_; decide +kernel)
  | decide +kernel
noncomputable def dt_X14_due : List (Nat × Instr × Nat) := [(0, .aload_n 0, 1), (1, .getfield 77, 3), (4, .iconst 3, 1), (5, .if_icmp .ne 37, 3), (8, .aload_n 0, 1), (9, .getfield 40, 3), (12, .iload_n 1, 1), (13, .iaload, 1), (14, .i2l, 1), (15, .bipush 100, 2), (17, .aload_n 0, 1), (18, .getfield 27, 3), (21, .iload_n 1, 1), (22, .invokevirtual 61, 3), (25, .checkcast 118, 3), (28, .getfield 127, 3), (31, .isub, 1), (32, .i2l, 1), (33, .lmul, 1), (34, .ldc2_w 321, 3), (37, .ldiv, 1), (38, .l2i, 1), (39, .goto 4, 3), (42, .iconst 0, 1), (43, .ireturn, 1)]
theorem dd_X14_due : ∀ q ∈ dt_X14_due, decode cX14_due q.1 = .ok q.2 := by
  first
  | (refine dw_all ?_; decide +kernel)
  | decide +kernel
noncomputable def dt_X14_paid : List (Nat × Instr × Nat) := [(0, .aload_n 0, 1), (1, .getfield 77, 3), (4, .iconst 3, 1), (5, .if_icmp .ne 12, 3), (8, .aload_n 0, 1), (9, .getfield 40, 3), (12, .iload_n 1, 1), (13, .iaload, 1), (14, .goto 4, 3), (17, .iconst 0, 1), (18, .ireturn, 1)]
theorem dd_X14_paid : ∀ q ∈ dt_X14_paid, decode cX14_paid q.1 = .ok q.2 := by
  first
  | (refine dw_all ?_; decide +kernel)
  | decide +kernel
noncomputable def dt_X14_pays : List (Nat × Instr × Nat) := [(0, .aload_n 0, 1), (1, .iconst 0, 1), (2, .putfield 46, 3), (5, .aload_n 0, 1), (6, .iload_n 1, 1), (7, .invokevirtual 156, 3), (10, .ifCond .ne 9, 3), (13, .aload_n 0, 1), (14, .iconst 1, 1), (15, .invokevirtual 74, 3), (18, .ireturn, 1), (19, .iload_n 2, 1), (20, .ifCond .eq 11, 3), (23, .aload_n 0, 1), (24, .iload_n 1, 1), (25, .invokevirtual 323, 3), (28, .goto 8, 3), (31, .aload_n 0, 1), (32, .iload_n 1, 1), (33, .invokevirtual 326, 3), (36, .ireturn, 1)]
theorem dd_X14_pays : ∀ q ∈ dt_X14_pays, decode cX14_pays q.1 = .ok q.2 := by
  first
  | (refine dw_all ?_; decide +kernel)
  | decide +kernel
noncomputable def dt_X14_holderNow : List (Nat × Instr × Nat) := [(0, .aload_n 0, 1), (1, .getfield 77, 3), (4, .iconst 3, 1), (5, .if_icmp .ne 18, 3), (8, .aload_n 0, 1), (9, .iload_n 1, 1), (10, .iload_n 2, 1), (11, .aload_n 0, 1), (12, .getfield 43, 3), (15, .iload_n 1, 1), (16, .iaload, 1), (17, .invokevirtual 243, 3), (20, .goto 4, 3), (23, .iconst (-1), 1), (24, .ireturn, 1)]
theorem dd_X14_holderNow : ∀ q ∈ dt_X14_holderNow, decode cX14_holderNow q.1 = .ok q.2 := by
  first
  | (refine dw_all ?_; decide +kernel)
  | decide +kernel
noncomputable def dt_X14_holder : List (Nat × Instr × Nat) := [(0, .aload_n 0, 1), (1, .iconst 0, 1), (2, .putfield 46, 3), (5, .aload_n 0, 1), (6, .iload_n 1, 1), (7, .invokevirtual 91, 3), (10, .ifCond .eq 36, 3), (13, .iload_n 2, 1), (14, .iconst 0, 1), (15, .aload_n 0, 1), (16, .getfield 23, 3), (19, .iload_n 1, 1), (20, .invokevirtual 61, 3), (23, .checkcast 65, 3), (26, .getfield 81, 3), (29, .iconst 1, 1), (30, .isub, 1), (31, .invokestatic 70, 3), (34, .ifCond .eq 12, 3), (37, .aload_n 0, 1), (38, .iload_n 1, 1), (39, .iload_n 2, 1), (40, .invokevirtual 329, 3), (43, .goto 8, 3), (46, .aload_n 0, 1), (47, .iconst 1, 1), (48, .invokevirtual 74, 3), (51, .ireturn, 1)]
theorem dd_X14_holder : ∀ q ∈ dt_X14_holder, decode cX14_holder q.1 = .ok q.2 := by
  first
  | (refine dw_all ?_; decide +kernel)
  | decide +kernel
noncomputable def dt_X14_chartNow : List (Nat × Instr × Nat) := [(0, .new 332, 3), (3, .dup, 1), (4, .invokespecial 334, 3), (7, .astore_n 2, 1), (8, .iconst 0, 1), (9, .istore_n 3, 1), (10, .iload_n 3, 1), (11, .aload_n 0, 1), (12, .getfield 23, 3), (15, .iload_n 1, 1), (16, .invokevirtual 61, 3), (19, .checkcast 65, 3), (22, .getfield 81, 3), (25, .if_icmp .ge 71, 3), (28, .aload_n 0, 1), (29, .iload_n 1, 1), (30, .iload_n 3, 1), (31, .invokevirtual 329, 3), (34, .istore 4, 2), (36, .aload_n 2, 1), (37, .iload_n 3, 1), (38, .ifCond .le 9, 3), (41, .ldc_w 335, 3), (44, .goto 6, 3), (47, .ldc_w 337, 3), (50, .invokevirtual 339, 3), (53, .iload 4, 2), (55, .iconst (-1), 1), (56, .if_icmp .ne 9, 3), (59, .ldc_w 343, 3), (62, .goto 24, 3), (65, .new 332, 3), (68, .dup, 1), (69, .invokespecial 334, 3), (72, .ldc_w 337, 3), (75, .invokevirtual 339, 3), (78, .iload 4, 2), (80, .invokevirtual 345, 3), (83, .invokevirtual 348, 3), (86, .invokevirtual 339, 3), (89, .pop, 1), (90, .iinc 3 1, 3), (93, .goto (-83), 3), (96, .aload_n 2, 1), (97, .invokevirtual 348, 3), (100, .areturn, 1)]
theorem dd_X14_chartNow : ∀ q ∈ dt_X14_chartNow, decode cX14_chartNow q.1 = .ok q.2 := by
  first
  | (refine dw_all ?_; decide +kernel)
  | decide +kernel
noncomputable def dt_X14_chart : List (Nat × Instr × Nat) := [(0, .aload_n 0, 1), (1, .aload_n 0, 1), (2, .iload_n 1, 1), (3, .invokevirtual 91, 3), (6, .ifCond .eq 7, 3), (9, .iconst 0, 1), (10, .goto 4, 3), (13, .iconst 1, 1), (14, .putfield 46, 3), (17, .aload_n 0, 1), (18, .getfield 46, 3), (21, .ifCond .ne 11, 3), (24, .aload_n 0, 1), (25, .iload_n 1, 1), (26, .invokevirtual 352, 3), (29, .goto 6, 3), (32, .ldc_w 337, 3), (35, .areturn, 1)]
theorem dd_X14_chart : ∀ q ∈ dt_X14_chart, decode cX14_chart q.1 = .ok q.2 := by
  first
  | (refine dw_all ?_; decide +kernel)
  | decide +kernel
noncomputable def dt_X14_signals : List (Nat × Instr × Nat) := [(0, .iconst 0, 1), (1, .istore_n 1, 1), (2, .iconst 0, 1), (3, .istore_n 2, 1), (4, .iload_n 2, 1), (5, .aload_n 0, 1), (6, .getfield 27, 3), (9, .invokevirtual 57, 3), (12, .if_icmp .ge 52, 3), (15, .iconst 1, 1), (16, .istore_n 3, 1), (17, .iload_n 3, 1), (18, .aload_n 0, 1), (19, .getfield 27, 3), (22, .iload_n 2, 1), (23, .invokevirtual 61, 3), (26, .checkcast 118, 3), (29, .invokevirtual 210, 3), (32, .if_icmp .ge 26, 3), (35, .iload_n 1, 1), (36, .aload_n 0, 1), (37, .iload_n 2, 1), (38, .iload_n 3, 1), (39, .invokevirtual 356, 3), (42, .ifCond .eq 7, 3), (45, .iconst 1, 1), (46, .goto 4, 3), (49, .iconst 0, 1), (50, .iadd, 1), (51, .istore_n 1, 1), (52, .iinc 3 1, 3), (55, .goto (-38), 3), (58, .iinc 2 1, 3), (61, .goto (-57), 3), (64, .iload_n 1, 1), (65, .ireturn, 1)]
theorem dd_X14_signals : ∀ q ∈ dt_X14_signals, decode cX14_signals q.1 = .ok q.2 := by
  first
  | (refine dw_all ?_; decide +kernel)
  | decide +kernel
noncomputable def dt_X14_isSignal : List (Nat × Instr × Nat) := [(0, .aload_n 0, 1), (1, .getfield 27, 3), (4, .iload_n 1, 1), (5, .invokevirtual 61, 3), (8, .checkcast 118, 3), (11, .astore_n 3, 1), (12, .aload_n 3, 1), (13, .iload_n 2, 1), (14, .invokevirtual 252, 3), (17, .bipush 10, 2), (19, .irem, 1), (20, .istore 4, 2), (22, .aload_n 0, 1), (23, .iload 4, 2), (25, .invokevirtual 91, 3), (28, .ifCond .eq 23, 3), (31, .aload_n 3, 1), (32, .iload_n 2, 1), (33, .invokevirtual 240, 3), (36, .iload 4, 2), (38, .invokestatic 53, 3), (41, .ifCond .gt 10, 3), (44, .aload_n 3, 1), (45, .getfield 130, 3), (48, .ifCond .ne 5, 3), (51, .iconst 0, 1), (52, .ireturn, 1), (53, .iconst 0, 1), (54, .istore 5, 2), (56, .iload 5, 2), (58, .aload_n 0, 1), (59, .getfield 27, 3), (62, .invokevirtual 57, 3), (65, .if_icmp .ge 77, 3), (68, .aload_n 0, 1), (69, .getfield 27, 3), (72, .iload 5, 2), (74, .invokevirtual 61, 3), (77, .checkcast 118, 3), (80, .astore 6, 2), (82, .iconst 0, 1), (83, .istore 7, 2), (85, .iload 7, 2), (87, .aload 6, 2), (89, .invokevirtual 210, 3), (92, .if_icmp .ge 44, 3), (95, .iload 5, 2), (97, .iload_n 1, 1), (98, .if_icmp .eq 38, 3), (101, .aload 6, 2), (103, .getfield 130, 3), (106, .aload_n 3, 1), (107, .getfield 130, 3), (110, .if_icmp .ne 26, 3), (113, .aload 6, 2), (115, .iload 7, 2), (117, .invokevirtual 240, 3), (120, .iload 4, 2), (122, .invokestatic 53, 3), (125, .ifCond .le 5, 3), (128, .iconst 1, 1), (129, .ireturn, 1), (130, .iinc 7 1, 3), (133, .goto (-48), 3), (136, .iinc 5 1, 3), (139, .goto (-83), 3), (142, .iconst 0, 1), (143, .ireturn, 1)]
theorem dd_X14_isSignal : ∀ q ∈ dt_X14_isSignal, decode cX14_isSignal q.1 = .ok q.2 := by
  first
  | (refine dw_all ?_; decide +kernel)
  | decide +kernel
noncomputable def dt_X14_saleNow : List (Nat × Instr × Nat) := [(0, .iconst 0, 1), (1, .istore_n 3, 1), (2, .iload_n 1, 1), (3, .tableswitch 382 0 15 #[77, 82, 121, 129, 137, 147, 152, 165, 170, 204, 227, 236, 268, 273, 369, 374], 77), (80, .aload_n 0, 1), (81, .getfield 77, 3), (84, .ireturn, 1), (85, .aload_n 0, 1), (86, .getfield 77, 3), (89, .ifCond .ne 7, 3), (92, .iconst 0, 1), (93, .goto 30, 3), (96, .aload_n 0, 1), (97, .getfield 77, 3), (100, .iconst 1, 1), (101, .if_icmp .ne 15, 3), (104, .aload_n 0, 1), (105, .getfield 30, 3), (108, .invokevirtual 57, 3), (111, .iconst 1, 1), (112, .iadd, 1), (113, .goto 10, 3), (116, .aload_n 0, 1), (117, .getfield 30, 3), (120, .invokevirtual 57, 3), (123, .ireturn, 1), (124, .aload_n 0, 1), (125, .getfield 23, 3), (128, .invokevirtual 57, 3), (131, .ireturn, 1), (132, .aload_n 0, 1), (133, .getfield 27, 3), (136, .invokevirtual 57, 3), (139, .ireturn, 1), (140, .aload_n 0, 1), (141, .getfield 33, 3), (144, .invokevirtual 57, 3), (147, .iconst 2, 1), (148, .idiv, 1), (149, .ireturn, 1), (150, .aload_n 0, 1), (151, .getfield 7, 3), (154, .ireturn, 1), (155, .aload_n 0, 1), (156, .getfield 13, 3), (159, .ifCond .eq 7, 3), (162, .iconst 1, 1), (163, .goto 4, 3), (166, .iconst 0, 1), (167, .ireturn, 1), (168, .aload_n 0, 1), (169, .getfield 17, 3), (172, .ireturn, 1), (173, .iconst 0, 1), (174, .istore 4, 2), (176, .iload 4, 2), (178, .aload_n 0, 1), (179, .getfield 27, 3), (182, .invokevirtual 57, 3), (185, .if_icmp .ge 20, 3), (188, .iload_n 3, 1), (189, .aload_n 0, 1), (190, .iload 4, 2), (192, .bipush 10, 2), (194, .invokevirtual 311, 3), (197, .iadd, 1), (198, .istore_n 3, 1), (199, .iinc 4 1, 3), (202, .goto (-26), 3), (205, .iload_n 3, 1), (206, .ireturn, 1), (207, .aload_n 0, 1), (208, .getfield 77, 3), (211, .iconst 3, 1), (212, .if_icmp .ne 10, 3), (215, .aload_n 0, 1), (216, .invokevirtual 249, 3), (219, .goto 10, 3), (222, .aload_n 2, 1), (223, .invokevirtual 359, 3), (226, .invokestatic 112, 3), (229, .ireturn, 1), (230, .aload_n 2, 1), (231, .aload_n 2, 1), (232, .invokevirtual 362, 3), (235, .invokevirtual 365, 3), (238, .ireturn, 1), (239, .iconst 0, 1), (240, .istore 4, 2), (242, .iload 4, 2), (244, .aload_n 0, 1), (245, .getfield 27, 3), (248, .invokevirtual 57, 3), (251, .if_icmp .ge 18, 3), (254, .iload_n 3, 1), (255, .aload_n 0, 1), (256, .iload 4, 2), (258, .invokevirtual 323, 3), (261, .iadd, 1), (262, .istore_n 3, 1), (263, .iinc 4 1, 3), (266, .goto (-24), 3), (269, .iload_n 3, 1), (270, .ireturn, 1), (271, .aload_n 0, 1), (272, .getfield 255, 3), (275, .ireturn, 1), (276, .iconst 0, 1), (277, .istore 4, 2), (279, .iload 4, 2), (281, .aload_n 0, 1), (282, .getfield 23, 3), (285, .invokevirtual 57, 3), (288, .if_icmp .ge 82, 3), (291, .aload_n 0, 1), (292, .getfield 77, 3), (295, .iconst 3, 1), (296, .if_icmp .ne 74, 3), (299, .iconst 0, 1), (300, .istore 5, 2), (302, .iload 5, 2), (304, .iload 4, 2), (306, .if_icmp .ge 58, 3), (309, .aload_n 0, 1), (310, .getfield 23, 3), (313, .iload 4, 2), (315, .invokevirtual 61, 3), (318, .checkcast 65, 3), (321, .getfield 95, 3), (324, .iload 5, 2), (326, .ishr, 1), (327, .iconst 1, 1), (328, .iand, 1), (329, .iconst 1, 1), (330, .if_icmp .ne 28, 3), (333, .iload_n 3, 1), (334, .aload_n 0, 1), (335, .iload 4, 2), (337, .aload_n 0, 1), (338, .getfield 43, 3), (341, .iload 4, 2), (343, .iaload, 1), (344, .iload 5, 2), (346, .aload_n 0, 1), (347, .getfield 43, 3), (350, .iload 5, 2), (352, .iaload, 1), (353, .invokevirtual 236, 3), (356, .iadd, 1), (357, .istore_n 3, 1), (358, .iinc 5 1, 3), (361, .goto (-59), 3), (364, .iinc 4 1, 3), (367, .goto (-88), 3), (370, .iload_n 3, 1), (371, .ireturn, 1), (372, .aload_n 0, 1), (373, .invokevirtual 368, 3), (376, .ireturn, 1), (377, .aload_n 0, 1), (378, .getfield 30, 3), (381, .invokevirtual 57, 3), (384, .ireturn, 1), (385, .aload_n 0, 1), (386, .getfield 371, 3), (389, .ireturn, 1)]
theorem dd_X14_saleNow : ∀ q ∈ dt_X14_saleNow, decode cX14_saleNow q.1 = .ok q.2 := by
  first
  | (refine dw_all ?_; decide +kernel)
  | decide +kernel
noncomputable def dt_X14_sale : List (Nat × Instr × Nat) := [(0, .aload_n 0, 1), (1, .iconst 0, 1), (2, .putfield 46, 3), (5, .iload_n 1, 1), (6, .iconst 0, 1), (7, .bipush 16, 2), (9, .invokestatic 70, 3), (12, .ifCond .eq 19, 3), (15, .aload_n 0, 1), (16, .iload_n 1, 1), (17, .new 218, 3), (20, .dup, 1), (21, .aload_n 0, 1), (22, .invokespecial 220, 3), (25, .invokevirtual 374, 3), (28, .goto 8, 3), (31, .aload_n 0, 1), (32, .iconst 1, 1), (33, .invokevirtual 74, 3), (36, .ireturn, 1)]
theorem dd_X14_sale : ∀ q ∈ dt_X14_sale, decode cX14_sale q.1 = .ok q.2 := by
  first
  | (refine dw_all ?_; decide +kernel)
  | decide +kernel
noncomputable def dt_X14_worth : List (Nat × Instr × Nat) := [(0, .aload_n 0, 1), (1, .iconst 0, 1), (2, .putfield 46, 3), (5, .aload_n 0, 1), (6, .iload_n 1, 1), (7, .invokevirtual 377, 3), (10, .ifCond .eq 18, 3), (13, .new 218, 3), (16, .dup, 1), (17, .aload_n 0, 1), (18, .invokespecial 220, 3), (21, .iload_n 1, 1), (22, .invokevirtual 365, 3), (25, .goto 8, 3), (28, .aload_n 0, 1), (29, .iconst 1, 1), (30, .invokevirtual 74, 3), (33, .ireturn, 1)]
theorem dd_X14_worth : ∀ q ∈ dt_X14_worth, decode cX14_worth q.1 = .ok q.2 := by
  first
  | (refine dw_all ?_; decide +kernel)
  | decide +kernel
noncomputable def dt_X14_wouldPay : List (Nat × Instr × Nat) := [(0, .aload_n 0, 1), (1, .iconst 0, 1), (2, .putfield 46, 3), (5, .aload_n 0, 1), (6, .iload_n 1, 1), (7, .invokevirtual 156, 3), (10, .ifCond .ne 9, 3), (13, .aload_n 0, 1), (14, .iconst 1, 1), (15, .invokevirtual 74, 3), (18, .ireturn, 1), (19, .iload_n 2, 1), (20, .iconst 0, 1), (21, .iconst 2, 1), (22, .invokestatic 70, 3), (25, .ifCond .eq 20, 3), (28, .new 218, 3), (31, .dup, 1), (32, .aload_n 0, 1), (33, .invokespecial 220, 3), (36, .iload_n 2, 1), (37, .invokevirtual 233, 3), (40, .iload_n 1, 1), (41, .iaload, 1), (42, .goto 8, 3), (45, .aload_n 0, 1), (46, .iconst 2, 1), (47, .invokevirtual 74, 3), (50, .ireturn, 1)]
theorem dd_X14_wouldPay : ∀ q ∈ dt_X14_wouldPay, decode cX14_wouldPay q.1 = .ok q.2 := by
  first
  | (refine dw_all ?_; decide +kernel)
  | decide +kernel
noncomputable def dt_X14_objects : List (Nat × Instr × Nat) := [(0, .aload_n 0, 1), (1, .iconst 0, 1), (2, .putfield 46, 3), (5, .aload_n 0, 1), (6, .iload_n 1, 1), (7, .invokevirtual 377, 3), (10, .ifCond .eq 12, 3), (13, .iload_n 2, 1), (14, .iconst 0, 1), (15, .iconst 2, 1), (16, .invokestatic 70, 3), (19, .ifCond .ne 9, 3), (22, .aload_n 0, 1), (23, .iconst 1, 1), (24, .invokevirtual 74, 3), (27, .ireturn, 1), (28, .new 218, 3), (31, .dup, 1), (32, .aload_n 0, 1), (33, .invokespecial 220, 3), (36, .astore_n 3, 1), (37, .iconst 0, 1), (38, .aload_n 3, 1), (39, .iload_n 1, 1), (40, .aload_n 3, 1), (41, .iload_n 2, 1), (42, .invokevirtual 233, 3), (45, .invokevirtual 380, 3), (48, .invokestatic 384, 3), (51, .ireturn, 1)]
theorem dd_X14_objects : ∀ q ∈ dt_X14_objects, decode cX14_objects q.1 = .ok q.2 := by
  first
  | (refine dw_all ?_; decide +kernel)
  | decide +kernel
noncomputable def dt_X14_most : List (Nat × Instr × Nat) := [(0, .aload_n 0, 1), (1, .iconst 0, 1), (2, .putfield 46, 3), (5, .aload_n 0, 1), (6, .iload_n 1, 1), (7, .invokevirtual 156, 3), (10, .ifCond .eq 11, 3), (13, .aload_n 0, 1), (14, .iload_n 2, 1), (15, .invokevirtual 91, 3), (18, .ifCond .ne 9, 3), (21, .aload_n 0, 1), (22, .iconst 1, 1), (23, .invokevirtual 74, 3), (26, .ireturn, 1), (27, .aload_n 0, 1), (28, .getfield 77, 3), (31, .iconst 1, 1), (32, .if_icmp .eq 5, 3), (35, .iconst (-1), 1), (36, .ireturn, 1), (37, .iconst 5, 1), (38, .istore_n 3, 1), (39, .aload_n 0, 1), (40, .iload_n 1, 1), (41, .iload_n 2, 1), (42, .iload_n 3, 1), (43, .invokevirtual 159, 3), (46, .ifCond .ne 9, 3), (49, .iinc 3 (-1), 3), (52, .goto (-13), 3), (55, .iload_n 3, 1), (56, .ireturn, 1)]
theorem dd_X14_most : ∀ q ∈ dt_X14_most, decode cX14_most q.1 = .ok q.2 := by
  first
  | (refine dw_all ?_; decide +kernel)
  | decide +kernel
noncomputable def dt_X14_contradicts : List (Nat × Instr × Nat) := [(0, .aload_n 0, 1), (1, .iconst 0, 1), (2, .putfield 46, 3), (5, .aload_n 0, 1), (6, .iload_n 1, 1), (7, .invokevirtual 156, 3), (10, .ifCond .ne 9, 3), (13, .aload_n 0, 1), (14, .iconst 1, 1), (15, .invokevirtual 74, 3), (18, .ireturn, 1), (19, .aload_n 0, 1), (20, .getfield 77, 3), (23, .iconst 1, 1), (24, .if_icmp .ne 14, 3), (27, .aload_n 0, 1), (28, .getfield 141, 3), (31, .iload_n 1, 1), (32, .invokevirtual 387, 3), (35, .goto 4, 3), (38, .iconst (-1), 1), (39, .ireturn, 1)]
theorem dd_X14_contradicts : ∀ q ∈ dt_X14_contradicts, decode cX14_contradicts q.1 = .ok q.2 := by
  first
  | (refine dw_all ?_; decide +kernel)
  | decide +kernel
noncomputable def dt_X14_runAnew : List (Nat × Instr × Nat) := [(0, .new 136, 3), (3, .dup, 1), (4, .aload_n 0, 1), (5, .invokespecial 138, 3), (8, .astore 5, 2), (10, .iconst 0, 1), (11, .istore 6, 2), (13, .iload 6, 2), (15, .aload_n 0, 1), (16, .getfield 30, 3), (19, .invokevirtual 57, 3), (22, .if_icmp .ge 117, 3), (25, .aload 5, 2), (27, .getfield 196, 3), (30, .ifCond .ne 109, 3), (33, .aload 5, 2), (35, .aload_n 0, 1), (36, .getfield 30, 3), (39, .iload 6, 2), (41, .invokevirtual 61, 3), (44, .checkcast 172, 3), (47, .getfield 184, 3), (50, .invokevirtual 179, 3), (53, .checkcast 180, 3), (56, .putfield 145, 3), (59, .aload 5, 2), (61, .aload_n 0, 1), (62, .getfield 30, 3), (65, .iload 6, 2), (67, .invokevirtual 61, 3), (70, .checkcast 172, 3), (73, .getfield 187, 3), (76, .invokevirtual 185, 3), (79, .checkcast 186, 3), (82, .putfield 165, 3), (85, .iload 6, 2), (87, .iload_n 1, 1), (88, .iconst 1, 1), (89, .isub, 1), (90, .if_icmp .ne 23, 3), (93, .aload 5, 2), (95, .getfield 145, 3), (98, .iload_n 2, 1), (99, .aload 5, 2), (101, .getfield 145, 3), (104, .iload_n 2, 1), (105, .iaload, 1), (106, .iload_n 3, 1), (107, .iload 4, 2), (109, .invokestatic 148, 3), (112, .iastore, 1), (113, .aload 5, 2), (115, .aload_n 0, 1), (116, .getfield 30, 3), (119, .iload 6, 2), (121, .invokevirtual 61, 3), (124, .checkcast 172, 3), (127, .getfield 175, 3), (130, .invokevirtual 188, 3), (133, .iinc 6 1, 3), (136, .goto (-123), 3), (139, .aload 5, 2), (141, .areturn, 1)]
theorem dd_X14_runAnew : ∀ q ∈ dt_X14_runAnew, decode cX14_runAnew q.1 = .ok q.2 := by
  first
  | (refine dw_all ?_; decide +kernel)
  | decide +kernel
noncomputable def dt_X14_anew : List (Nat × Instr × Nat) := [(0, .aload_n 0, 1), (1, .iconst 0, 1), (2, .putfield 46, 3), (5, .aload_n 0, 1), (6, .iload_n 1, 1), (7, .invokevirtual 314, 3), (10, .ifCond .eq 19, 3), (13, .aload_n 0, 1), (14, .iload_n 2, 1), (15, .invokevirtual 156, 3), (18, .ifCond .eq 11, 3), (21, .aload_n 0, 1), (22, .iload_n 3, 1), (23, .invokevirtual 91, 3), (26, .ifCond .ne 9, 3), (29, .aload_n 0, 1), (30, .iconst 1, 1), (31, .invokevirtual 74, 3), (34, .ireturn, 1), (35, .iload 4, 2), (37, .iconst 0, 1), (38, .iconst 5, 1), (39, .invokestatic 70, 3), (42, .ifCond .ne 9, 3), (45, .aload_n 0, 1), (46, .iconst 2, 1), (47, .invokevirtual 74, 3), (50, .ireturn, 1), (51, .iconst 0, 1), (52, .istore 5, 2), (54, .aload_n 0, 1), (55, .iload_n 1, 1), (56, .iload_n 2, 1), (57, .iload_n 3, 1), (58, .iload 4, 2), (60, .invokevirtual 390, 3), (63, .getfield 176, 3), (66, .astore 6, 2), (68, .aload 6, 2), (70, .arraylength, 1), (71, .istore 7, 2), (73, .iconst 0, 1), (74, .istore 8, 2), (76, .iload 8, 2), (78, .iload 7, 2), (80, .if_icmp .ge 23, 3), (83, .aload 6, 2), (85, .iload 8, 2), (87, .iaload, 1), (88, .istore 9, 2), (90, .iload 5, 2), (92, .iload 9, 2), (94, .iadd, 1), (95, .istore 5, 2), (97, .iinc 8 1, 3), (100, .goto (-24), 3), (103, .iload 5, 2), (105, .ireturn, 1)]
theorem dd_X14_anew : ∀ q ∈ dt_X14_anew, decode cX14_anew q.1 = .ok q.2 := by
  first
  | (refine dw_all ?_; decide +kernel)
  | decide +kernel
noncomputable def dt_X14_knock : List (Nat × Instr × Nat) := [(0, .aload_n 0, 1), (1, .iconst 0, 1), (2, .putfield 46, 3), (5, .aload_n 0, 1), (6, .dup, 1), (7, .getfield 371, 3), (10, .iconst 1, 1), (11, .iadd, 1), (12, .putfield 371, 3), (15, .aload_n 0, 1), (16, .getfield 371, 3), (19, .ireturn, 1)]
theorem dd_X14_knock : ∀ q ∈ dt_X14_knock, decode cX14_knock q.1 = .ok q.2 := by
  first
  | (refine dw_all ?_; decide +kernel)
  | decide +kernel
noncomputable def dt_X14_isSoundNow : List (Nat × Instr × Nat) := [(0, .iconst 0, 1), (1, .istore_n 1, 1), (2, .iload_n 1, 1), (3, .aload_n 0, 1), (4, .getfield 27, 3), (7, .invokevirtual 57, 3), (10, .if_icmp .ge 116, 3), (13, .aload_n 0, 1), (14, .iload_n 1, 1), (15, .iconst 1, 1), (16, .invokevirtual 311, 3), (19, .ifCond .ge 5, 3), (22, .iconst 0, 1), (23, .ireturn, 1), (24, .iconst 0, 1), (25, .istore_n 2, 1), (26, .iload_n 2, 1), (27, .aload_n 0, 1), (28, .getfield 23, 3), (31, .invokevirtual 57, 3), (34, .if_icmp .ge 37, 3), (37, .aload_n 0, 1), (38, .iload_n 1, 1), (39, .invokevirtual 302, 3), (42, .iload_n 2, 1), (43, .invokestatic 53, 3), (46, .aload_n 0, 1), (47, .getfield 23, 3), (50, .iload_n 2, 1), (51, .invokevirtual 61, 3), (54, .checkcast 65, 3), (57, .getfield 81, 3), (60, .if_icmp .le 5, 3), (63, .iconst 0, 1), (64, .ireturn, 1), (65, .iinc 2 1, 3), (68, .goto (-42), 3), (71, .aload_n 0, 1), (72, .getfield 77, 3), (75, .iconst 3, 1), (76, .if_icmp .ne 44, 3), (79, .aload_n 0, 1), (80, .getfield 36, 3), (83, .iload_n 1, 1), (84, .iaload, 1), (85, .iconst (-1), 1), (86, .if_icmp .eq 34, 3), (89, .aload_n 0, 1), (90, .getfield 40, 3), (93, .iload_n 1, 1), (94, .iaload, 1), (95, .aload_n 0, 1), (96, .getfield 27, 3), (99, .iload_n 1, 1), (100, .invokevirtual 61, 3), (103, .checkcast 118, 3), (106, .aload_n 0, 1), (107, .getfield 36, 3), (110, .iload_n 1, 1), (111, .iaload, 1), (112, .invokevirtual 252, 3), (115, .if_icmp .le 5, 3), (118, .iconst 0, 1), (119, .ireturn, 1), (120, .iinc 1 1, 3), (123, .goto (-121), 3), (126, .iconst 0, 1), (127, .istore_n 1, 1), (128, .iload_n 1, 1), (129, .aload_n 0, 1), (130, .getfield 23, 3), (133, .invokevirtual 57, 3), (136, .if_icmp .ge 34, 3), (139, .aload_n 0, 1), (140, .iload_n 1, 1), (141, .iconst 3, 1), (142, .invokevirtual 299, 3), (145, .aload_n 0, 1), (146, .getfield 23, 3), (149, .iload_n 1, 1), (150, .invokevirtual 61, 3), (153, .checkcast 65, 3), (156, .getfield 84, 3), (159, .if_icmp .ge 5, 3), (162, .iconst 0, 1), (163, .ireturn, 1), (164, .iinc 1 1, 3), (167, .goto (-39), 3), (170, .aload_n 0, 1), (171, .getfield 77, 3), (174, .iconst 3, 1), (175, .if_icmp .ne 12, 3), (178, .aload_n 0, 1), (179, .invokevirtual 394, 3), (182, .ifCond .ne 5, 3), (185, .iconst 0, 1), (186, .ireturn, 1), (187, .aload_n 0, 1), (188, .getfield 141, 3), (191, .ifnull 10, 3), (194, .aload_n 0, 1), (195, .invokevirtual 397, 3), (198, .ifCond .eq 7, 3), (201, .iconst 1, 1), (202, .goto 4, 3), (205, .iconst 0, 1), (206, .ireturn, 1)]
theorem dd_X14_isSoundNow : ∀ q ∈ dt_X14_isSoundNow, decode cX14_isSoundNow q.1 = .ok q.2 := by
  first
  | (refine dw_all ?_; decide +kernel)
  | decide +kernel
noncomputable def dt_X14_areNamed : List (Nat × Instr × Nat) := [(0, .iconst 0, 1), (1, .istore_n 1, 1), (2, .iload_n 1, 1), (3, .aload_n 0, 1), (4, .getfield 23, 3), (7, .invokevirtual 57, 3), (10, .if_icmp .ge 166, 3), (13, .invokestatic 400, 3), (16, .astore_n 2, 1), (17, .iconst 0, 1), (18, .istore_n 3, 1), (19, .iconst 0, 1), (20, .istore 4, 2), (22, .iload 4, 2), (24, .aload_n 0, 1), (25, .getfield 23, 3), (28, .iload_n 1, 1), (29, .invokevirtual 61, 3), (32, .checkcast 65, 3), (35, .getfield 81, 3), (38, .if_icmp .ge 32, 3), (41, .aload_n 0, 1), (42, .iload_n 1, 1), (43, .iload 4, 2), (45, .invokevirtual 329, 3), (48, .istore 5, 2), (50, .iload 5, 2), (52, .iconst (-1), 1), (53, .if_icmp .eq 11, 3), (56, .aload_n 2, 1), (57, .iload 5, 2), (59, .dup2, 1), (60, .iaload, 1), (61, .iconst 1, 1), (62, .iadd, 1), (63, .iastore, 1), (64, .iinc 4 1, 3), (67, .goto (-45), 3), (70, .iconst 0, 1), (71, .istore 4, 2), (73, .iload 4, 2), (75, .aload_n 0, 1), (76, .getfield 27, 3), (79, .invokevirtual 57, 3), (82, .if_icmp .ge 68, 3), (85, .aload_n 0, 1), (86, .getfield 36, 3), (89, .iload 4, 2), (91, .iaload, 1), (92, .iconst (-1), 1), (93, .if_icmp .ne 7, 3), (96, .iconst 0, 1), (97, .goto 29, 3), (100, .aload_n 0, 1), (101, .getfield 27, 3), (104, .iload 4, 2), (106, .invokevirtual 61, 3), (109, .checkcast 118, 3), (112, .aload_n 0, 1), (113, .getfield 36, 3), (116, .iload 4, 2), (118, .iaload, 1), (119, .invokevirtual 240, 3), (122, .iload_n 1, 1), (123, .invokestatic 53, 3), (126, .istore 5, 2), (128, .iload_n 3, 1), (129, .iload 5, 2), (131, .iadd, 1), (132, .istore_n 3, 1), (133, .aload_n 2, 1), (134, .iload 4, 2), (136, .iaload, 1), (137, .iload 5, 2), (139, .if_icmp .eq 5, 3), (142, .iconst 0, 1), (143, .ireturn, 1), (144, .iinc 4 1, 3), (147, .goto (-74), 3), (150, .iload_n 3, 1), (151, .aload_n 0, 1), (152, .getfield 23, 3), (155, .iload_n 1, 1), (156, .invokevirtual 61, 3), (159, .checkcast 65, 3), (162, .getfield 81, 3), (165, .if_icmp .le 5, 3), (168, .iconst 0, 1), (169, .ireturn, 1), (170, .iinc 1 1, 3), (173, .goto (-171), 3), (176, .iconst 1, 1), (177, .ireturn, 1)]
theorem dd_X14_areNamed : ∀ q ∈ dt_X14_areNamed, decode cX14_areNamed q.1 = .ok q.2 := by
  first
  | (refine dw_all ?_; decide +kernel)
  | decide +kernel
noncomputable def dt_X14_isLogged : List (Nat × Instr × Nat) := [(0, .aload_n 0, 1), (1, .iconst (-1), 1), (2, .iconst 0, 1), (3, .iconst 0, 1), (4, .iconst 0, 1), (5, .invokevirtual 390, 3), (8, .astore_n 1, 1), (9, .iconst 0, 1), (10, .istore_n 2, 1), (11, .iload_n 2, 1), (12, .aload_n 0, 1), (13, .getfield 23, 3), (16, .invokevirtual 57, 3), (19, .if_icmp .ge 29, 3), (22, .aload_n 1, 1), (23, .getfield 176, 3), (26, .iload_n 2, 1), (27, .iaload, 1), (28, .aload_n 0, 1), (29, .getfield 141, 3), (32, .getfield 176, 3), (35, .iload_n 2, 1), (36, .iaload, 1), (37, .if_icmp .eq 5, 3), (40, .iconst 0, 1), (41, .ireturn, 1), (42, .iinc 2 1, 3), (45, .goto (-34), 3), (48, .iconst 0, 1), (49, .istore_n 2, 1), (50, .iload_n 2, 1), (51, .aload_n 0, 1), (52, .getfield 27, 3), (55, .invokevirtual 57, 3), (58, .if_icmp .ge 29, 3), (61, .aload_n 1, 1), (62, .getfield 192, 3), (65, .iload_n 2, 1), (66, .iaload, 1), (67, .aload_n 0, 1), (68, .getfield 141, 3), (71, .getfield 192, 3), (74, .iload_n 2, 1), (75, .iaload, 1), (76, .if_icmp .eq 5, 3), (79, .iconst 0, 1), (80, .ireturn, 1), (81, .iinc 2 1, 3), (84, .goto (-34), 3), (87, .iconst 1, 1), (88, .ireturn, 1)]
theorem dd_X14_isLogged : ∀ q ∈ dt_X14_isLogged, decode cX14_isLogged q.1 = .ok q.2 := by
  first
  | (refine dw_all ?_; decide +kernel)
  | decide +kernel
noncomputable def dt_X14_isSound : List (Nat × Instr × Nat) := [(0, .aload_n 0, 1), (1, .iconst 0, 1), (2, .putfield 46, 3), (5, .aload_n 0, 1), (6, .invokevirtual 404, 3), (9, .ireturn, 1)]
theorem dd_X14_isSound : ∀ q ∈ dt_X14_isSound, decode cX14_isSound q.1 = .ok q.2 := by
  first
  | (refine dw_all ?_; decide +kernel)
  | decide +kernel
noncomputable def dt_X14_add : List (Nat × Instr × Nat) := [(0, .aload_n 0, 1), (1, .aload_n 0, 1), (2, .getfield 407, 3), (5, .ldc2_w 411, 3), (8, .lmul, 1), (9, .lload_n 1, 1), (10, .ladd, 1), (11, .putfield 407, 3), (14, .return_, 1)]
theorem dd_X14_add : ∀ q ∈ dt_X14_add, decode cX14_add q.1 = .ok q.2 := by
  first
  | (refine dw_all ?_; decide +kernel)
  | decide +kernel
noncomputable def dt_X14_digest : List (Nat × Instr × Nat) := [(0, .aload_n 0, 1), (1, .iconst 0, 1), (2, .putfield 46, 3), (5, .new 218, 3), (8, .dup, 1), (9, .aload_n 0, 1), (10, .invokespecial 220, 3), (13, .astore_n 1, 1), (14, .aload_n 0, 1), (15, .ldc2_w 413, 3), (18, .putfield 407, 3), (21, .iconst 0, 1), (22, .istore_n 2, 1), (23, .iload_n 2, 1), (24, .bipush 17, 2), (26, .if_icmp .ge 20, 3), (29, .aload_n 0, 1), (30, .aload_n 0, 1), (31, .iload_n 2, 1), (32, .aload_n 1, 1), (33, .invokevirtual 374, 3), (36, .i2l, 1), (37, .invokevirtual 415, 3), (40, .iinc 2 1, 3), (43, .goto (-20), 3), (46, .iconst 0, 1), (47, .istore_n 2, 1), (48, .iload_n 2, 1), (49, .aload_n 0, 1), (50, .getfield 23, 3), (53, .invokevirtual 57, 3), (56, .if_icmp .ge 84, 3), (59, .iconst 0, 1), (60, .istore_n 3, 1), (61, .iload_n 3, 1), (62, .bipush 9, 2), (64, .if_icmp .ge 20, 3), (67, .aload_n 0, 1), (68, .aload_n 0, 1), (69, .iload_n 2, 1), (70, .iload_n 3, 1), (71, .invokevirtual 299, 3), (74, .i2l, 1), (75, .invokevirtual 415, 3), (78, .iinc 3 1, 3), (81, .goto (-20), 3), (84, .aload_n 0, 1), (85, .aload_n 0, 1), (86, .iload_n 2, 1), (87, .invokevirtual 352, 3), (90, .invokevirtual 418, 3), (93, .i2l, 1), (94, .invokevirtual 415, 3), (97, .iconst 0, 1), (98, .istore_n 3, 1), (99, .iload_n 3, 1), (100, .aload_n 0, 1), (101, .getfield 23, 3), (104, .iload_n 2, 1), (105, .invokevirtual 61, 3), (108, .checkcast 65, 3), (111, .getfield 81, 3), (114, .if_icmp .ge 20, 3), (117, .aload_n 0, 1), (118, .aload_n 0, 1), (119, .iload_n 2, 1), (120, .iload_n 3, 1), (121, .invokevirtual 329, 3), (124, .i2l, 1), (125, .invokevirtual 415, 3), (128, .iinc 3 1, 3), (131, .goto (-32), 3), (134, .iinc 2 1, 3), (137, .goto (-89), 3), (140, .aload_n 1, 1), (141, .iconst 1, 1), (142, .invokevirtual 233, 3), (145, .astore_n 2, 1), (146, .aload_n 1, 1), (147, .iconst 2, 1), (148, .invokevirtual 233, 3), (151, .astore_n 3, 1), (152, .iconst 0, 1), (153, .istore 4, 2), (155, .iload 4, 2), (157, .aload_n 0, 1), (158, .getfield 27, 3), (161, .invokevirtual 57, 3), (164, .if_icmp .ge 163, 3), (167, .iconst 0, 1), (168, .istore 5, 2), (170, .iload 5, 2), (172, .bipush 11, 2), (174, .if_icmp .ge 22, 3), (177, .aload_n 0, 1), (178, .aload_n 0, 1), (179, .iload 4, 2), (181, .iload 5, 2), (183, .invokevirtual 311, 3), (186, .i2l, 1), (187, .invokevirtual 415, 3), (190, .iinc 5 1, 3), (193, .goto (-23), 3), (196, .aload_n 0, 1), (197, .aload_n 0, 1), (198, .iload 4, 2), (200, .aload_n 1, 1), (201, .invokevirtual 317, 3), (204, .i2l, 1), (205, .invokevirtual 415, 3), (208, .aload_n 0, 1), (209, .aload_n 0, 1), (210, .iload 4, 2), (212, .invokevirtual 326, 3), (215, .i2l, 1), (216, .invokevirtual 415, 3), (219, .aload_n 0, 1), (220, .aload_n 0, 1), (221, .iload 4, 2), (223, .invokevirtual 323, 3), (226, .i2l, 1), (227, .invokevirtual 415, 3), (230, .aload_n 0, 1), (231, .aload_n 2, 1), (232, .iload 4, 2), (234, .iaload, 1), (235, .i2l, 1), (236, .invokevirtual 415, 3), (239, .aload_n 0, 1), (240, .aload_n 3, 1), (241, .iload 4, 2), (243, .iaload, 1), (244, .i2l, 1), (245, .invokevirtual 415, 3), (248, .iconst 0, 1), (249, .istore 5, 2), (251, .iload 5, 2), (253, .aload_n 0, 1), (254, .getfield 27, 3), (257, .iload 4, 2), (259, .invokevirtual 61, 3), (262, .checkcast 118, 3), (265, .invokevirtual 210, 3), (268, .if_icmp .ge 53, 3), (271, .aload_n 0, 1), (272, .aload_n 0, 1), (273, .getfield 27, 3), (276, .iload 4, 2), (278, .invokevirtual 61, 3), (281, .checkcast 118, 3), (284, .iload 5, 2), (286, .invokevirtual 252, 3), (289, .i2l, 1), (290, .invokevirtual 415, 3), (293, .aload_n 0, 1), (294, .aload_n 0, 1), (295, .getfield 27, 3), (298, .iload 4, 2), (300, .invokevirtual 61, 3), (303, .checkcast 118, 3), (306, .iload 5, 2), (308, .invokevirtual 240, 3), (311, .i2l, 1), (312, .invokevirtual 415, 3), (315, .iinc 5 1, 3), (318, .goto (-67), 3), (321, .iinc 4 1, 3), (324, .goto (-169), 3), (327, .aload_n 0, 1), (328, .getfield 30, 3), (331, .invokevirtual 133, 3), (334, .ifCond .ne 92, 3), (337, .aload_n 0, 1), (338, .getfield 30, 3), (341, .aload_n 0, 1), (342, .getfield 30, 3), (345, .invokevirtual 57, 3), (348, .iconst 1, 1), (349, .isub, 1), (350, .invokevirtual 61, 3), (353, .checkcast 172, 3), (356, .astore 4, 2), (358, .iconst 0, 1), (359, .istore 5, 2), (361, .iload 5, 2), (363, .aload_n 0, 1), (364, .getfield 23, 3), (367, .invokevirtual 57, 3), (370, .if_icmp .ge 22, 3), (373, .aload_n 0, 1), (374, .aload 4, 2), (376, .getfield 183, 3), (379, .iload 5, 2), (381, .iaload, 1), (382, .i2l, 1), (383, .invokevirtual 415, 3), (386, .iinc 5 1, 3), (389, .goto (-28), 3), (392, .iconst 0, 1), (393, .istore 5, 2), (395, .iload 5, 2), (397, .aload_n 0, 1), (398, .getfield 27, 3), (401, .invokevirtual 57, 3), (404, .if_icmp .ge 22, 3), (407, .aload_n 0, 1), (408, .aload 4, 2), (410, .getfield 184, 3), (413, .iload 5, 2), (415, .iaload, 1), (416, .i2l, 1), (417, .invokevirtual 415, 3), (420, .iinc 5 1, 3), (423, .goto (-28), 3), (426, .aload_n 0, 1), (427, .getfield 33, 3), (430, .invokevirtual 133, 3), (433, .ifCond .ne 23, 3), (436, .aload_n 0, 1), (437, .aload_n 0, 1), (438, .iconst 1, 1), (439, .invokevirtual 287, 3), (442, .i2l, 1), (443, .invokevirtual 415, 3), (446, .aload_n 0, 1), (447, .aload_n 0, 1), (448, .iconst 2, 1), (449, .invokevirtual 287, 3), (452, .i2l, 1), (453, .invokevirtual 415, 3), (456, .aload_n 0, 1), (457, .aload_n 0, 1), (458, .invokevirtual 404, 3), (461, .ifCond .eq 7, 3), (464, .lconst 1, 1), (465, .goto 4, 3), (468, .lconst 0, 1), (469, .invokevirtual 415, 3), (472, .aload_n 0, 1), (473, .getfield 407, 3), (476, .lreturn, 1)]
theorem dd_X14_digest : ∀ q ∈ dt_X14_digest, decode cX14_digest q.1 = .ok q.2 := by
  first
  | (refine dw_all ?_; decide +kernel)
  | decide +kernel
end
section
/-! ===== clones, rows of objects copied, classes' objects ===== -/
section
variable {Y : XY} {M : XM} {l : Launch} {d k n : Nat} {h : XH} {pc : Nat} {ls st : List Value} {ρ : Nat → Nat} {ow : Nat → Option Nat} {H : Heap} {locs : List Loc} {cells slots : Nat} {lsA : Array Slot}
abbrev xx_ad (t : Nat) : String := if t = 100 then "[I" else if t = 101 then "[Z" else "[B"
theorem sw_clone {idx t N r r2 : Nat} {f : Nat → Value} {ad : String} (O : xx_O Y M l d) (ht : t = 100 ∨ t = 101 ∨ t = 102) (had : ad = xx_ad t) (hd : decode M.2.1 pc = .ok (.invokevirtual idx, 3)) (w : Cond.methodLink M.2.2.2.2.1 idx ⟨ad, "clone", "()Ljava/lang/Object;"⟩ ∈ xx_gws)
    (wx : Cond.sameMethod ad "java/lang/Object" "clone" "()Ljava/lang/Object;" ∈ xx_gws ∧ Cond.native ⟨"java/lang/Object", "clone", "()Ljava/lang/Object;"⟩ ∈ xx_gws ∧ Cond.instanceMethod ⟨"java/lang/Object", "clone", "()Ljava/lang/Object;"⟩ ∈ xx_gws ∧ Cond.selects ad ⟨ad, "clone", "()Ljava/lang/Object;"⟩ ⟨"java/lang/Object", "clone", "()Ljava/lang/Object;"⟩ ∈ xx_gws ∧ Cond.castable ad "java/lang/Cloneable" ∈ xx_nws)
    (hc : h r = some (t, N, f)) (hfit : ∀ j, j < N → ∀ ρ : Nat → Nat, fits (xx_aty t) (xx_v ρ (f j)) = true) (hr : h r2 = none) (h1 : 1000 ≤ r2) (hdd : 1 ≤ d) (hcs : (st.map fun v => v.category).sum ≤ 8)
    (kk : SW Y k n (xx_blk h r2 1 (fun _ => (t, N, f))) (pc + 3) ls (.ref r2 :: st)) (hs0 : 1000 ≤ r := by omega) : SW Y (k + 1) (n + N) h pc ls (.ref r :: st) := by
  subst had
  intro ρ ow H locs cells slots lsA r9 T hT X
  obtain ⟨q1, -⟩ := r9.arr O (by omega) (by omega) hc hs0
  have hnm := xx_arrC O ht
  have hw := O.2.2.2.2.2.1
  have hR := O.2.2.2.2.2.2.2.2.2.2.2.2
  obtain ⟨c0, t0', f1, f2, f3⟩ := Cond.castable_spec (O.2.2.2.2.2.2.2.2.1.use (args := #[]) wx.2.2.2.2)
  cases hnm.symm.trans f1
  have hK0 := (O.2.2.2.2.2.2.2.1.2.2 t (by omega) (by omega)).1
  obtain ⟨-, kA, hkA, comp, hkind⟩ := State.isArrayOf_alike X.warmed.alike (hK0 0 (fun _ => .null))
  obtain ⟨-, kS, hkS, compS, hkindS⟩ := hK0 0 (fun _ => .null)
  have hcat : ((st.map (xx_v ρ)).map fun v => v.category).sum = (st.map fun v => v.category).sum := by
    rw [List.map_map]
    exact congrArg List.sum (List.map_congr_left fun v _ => xx_v_cat ρ v)
  obtain ⟨vm', X', st9⟩ := X.cloneArray O.1 O.2.2.2.2.2.2.1 (hw _ w) (hw _ wx.1) (hw _ wx.2.1) (hw _ wx.2.2.1) (hw _ wx.2.2.2.1) (a := ρ r) (cell := arrV (xd_A (xy_D Y) t) N (fun k => xx_v ρ (f k))) (by rw [hT]; exact q1) (fun k h => by cases h) (fun h => by cases h) hnm f2 f3
    (fun i v hv => by
      have hi : i < N := by
        have := (Array.getElem?_eq_some_iff.mp hv).1
        rw [arrV_size] at this
        exact this
      rw [arrV_read _ _ hi] at hv
      cases hv
      have hk' : T.vm.classes[(arrV (xd_A (xy_D Y) t) N (fun k => xx_v ρ (f k))).cls]? = some kA := hkA
      simpa [State.fitsSlot, State.slotType?, hk', hkind] using hfit i hi ρ)
    (g := F0 (xt_m Y.1) pc lsA (.ref (ρ r) :: st.map (xx_v ρ))) rfl (by show lsA.size = _; exact r9.L.1) rfl (by rw [O.2.1]; exact hd) (by exact Nat.le_trans hdd hR.1) (by show 2 * 0 + _ + 14 ≤ _; rw [hcat]; have h9 := hR.2.1; omega) (by have := r9.2.2.2.1; omega) (by rw [arrV_size]; have := r9.2.2.2.2.1; omega) (hloader := Vm.clonesLoader_of_array hkS hkindS)
  have hf : ∀ i, i < 1 → h (r2 + i) = none := fun i hi => by rw [show r2 + i = r2 by omega]; exact hr
  have hρ : ∀ a, (h a).isSome = true → xx_ρn ρ r2 1 H.size a = ρ a := fun a ha => if_neg (xx_blk_some (c := fun _ => (t, N, f)) hf ha)
  have e5 : xx_ρn ρ r2 1 H.size r2 = H.size := by
    unfold xx_ρn
    rw [if_pos ⟨by omega, by omega⟩]
    omega
  have R1 := r9.news (k := k) (n := n) (a := 1) (b := N) (r0 := r2) (N := 1) (c := fun _ => (t, N, f)) (st' := .ref r2 :: st) (H1 := H.push (arrV (xd_A (xy_D Y) t) N (fun k => xx_v ρ (f k)))) (by omega) (by omega) hf h1 (by simp) (fun a ha => by rw [Array.getElem?_push, if_neg (Nat.ne_of_lt ha)]) (fun j hj => by
    obtain rfl : j = 0 := by omega
    refine xx_cell.mk (by omega) ?_
    unfold xx_newc
    rw [if_neg (show ¬ t < 100 by omega), if_pos (show t < 200 by omega)]
    show _[xx_ρn ρ r2 1 H.size r2]? = _
    rw [e5]
    simp only [Array.getElem?_push_size]
    exact congrArg some (xx_arr_eq fun j hj => (xx_v_eq hρ (r9.1.2.2.2.2 r _ j hc hj)).symm)) (fun i j _ hj => xx_in_blk hf (r9.1.2.2.2.2 r _ j hc hj)) (xx_hc (by show (xx_blk h r2 1 _ r2).isSome = true; rw [xx_blk_0 (by omega)]; rfl) (fun v hv => xx_in_blk hf (xx_ht r9.stk v hv)))
  have k1 := kk _ _ _ locs _ _ lsA R1
  rw [show (Value.ref r2 :: st).map (xx_v (xx_ρn ρ r2 1 H.size)) = Value.ref H.size :: st.map (xx_v ρ) by rw [List.map_cons, xx_map_eq hρ (xx_ht r9.stk)]; show Value.ref (xx_ρn ρ r2 1 H.size r2) :: _ = _; rw [e5]] at k1
  rw [arrV_size] at X'
  obtain ⟨t, b1, b2⟩ := k1 ((T.setVm vm').pushCell (arrV (xd_A (xy_D Y) t) N (fun k => xx_v ρ (f k)))) (by rw [← hT]; rfl) X'
  refine ⟨t, st9 t ?_, b2⟩
  rw [hT]
  exact b1
theorem sw_acmp_eqS {a tgt : Nat} {off : Int} (O : xx_O Y M l d) (hd : decode M.2.1 pc = .ok (.if_acmp .eq off, 3)) (ht : (pc : Int) + off = (tgt : Int)) (kt : SW Y k n h tgt ls st) : SW Y k n h pc ls (.ref a :: .ref a :: st) := fun ρ ow H locs cells slots lsA r9 =>
  lv_acmp_eq (rx := some (ρ a)) (ry := some (ρ a)) O.1 O.2.1 hd ht (fun _ => kt ρ ow H locs cells slots lsA (r9.to (xx_ht (xx_ht r9.stk)))) (fun q => absurd rfl q)
theorem sw_acmp_neS {a tgt : Nat} {off : Int} (O : xx_O Y M l d) (hd : decode M.2.1 pc = .ok (.if_acmp .ne off, 3)) (ht : (pc : Int) + off = (tgt : Int)) (kf : SW Y k n h (pc + 3) ls st) : SW Y k n h pc ls (.ref a :: .ref a :: st) := fun ρ ow H locs cells slots lsA r9 =>
  lv_acmp_ne (rx := some (ρ a)) (ry := some (ρ a)) O.1 O.2.1 hd ht (fun q => absurd rfl q) (fun _ => kf ρ ow H locs cells slots lsA (r9.to (xx_ht (xx_ht r9.stk))))
theorem sw_ldcM {idx : Nat} {c : XC} (O : xx_O Y M l d) (hd : decode M.2.1 pc = .ok (.ldc idx, 2)) (w : Cond.classLink M.2.2.2.2.1 idx "[Ljava/lang/Object;" ∈ xx_gws) (hc : h 3 = some c) (kk : SW Y k n h (pc + 2) ls (.ref 3 :: st)) : SW Y k n h pc ls st := by
  intro ρ ow H locs cells slots lsA r9
  have k1 := kk ρ ow H locs cells slots lsA (r9.to (xx_hc (a := .ref 3) (by show (h 3).isSome = true; rw [hc]; rfl) r9.stk))
  rw [show (Value.ref 3 :: st).map (xx_v ρ) = Value.ref (xd_E (xy_D Y) 3) :: st.map (xx_v ρ) by rw [List.map_cons, ← xx_old r9 hc (by omega)]; rfl] at k1
  exact va_ldcM O.1 O.2.1 O.2.2.2.2.2.2.1 (O.2.2.2.2.2.1 _ w) O.2.2.2.2.2.2.2.1.2.1.2.2.2.2.2.1 hd k1
theorem sw_getC {idx N r : Nat} {f : Nat → Value} {c : XC} (O : xx_O Y M l d) (hd : decode M.2.1 pc = .ok (.invokevirtual idx, 3)) (w : Cond.methodLink M.2.2.2.2.1 idx ⟨"java/lang/Object", "getClass", "()Ljava/lang/Class;"⟩ ∈ xx_gws)
    (wx : Cond.declares ⟨"java/lang/Object", "getClass", "()Ljava/lang/Class;"⟩ ∈ xx_nws ∧ Cond.selects "[Ljava/lang/Object;" ⟨"java/lang/Object", "getClass", "()Ljava/lang/Class;"⟩ ⟨"java/lang/Object", "getClass", "()Ljava/lang/Class;"⟩ ∈ xx_gws ∧ Cond.instanceMethod ⟨"java/lang/Object", "getClass", "()Ljava/lang/Class;"⟩ ∈ xx_gws ∧ Cond.native ⟨"java/lang/Object", "getClass", "()Ljava/lang/Class;"⟩ ∈ xx_gws)
    (hr : h r = some (104, N, f)) (hc : h 3 = some c) (hdd : 1 ≤ d) (hcs : (st.map fun v => v.category).sum ≤ 8) (kk : SW Y k n h (pc + 3) ls (.ref 3 :: st)) (hs0 : 1000 ≤ r := by omega) : SW Y k n h pc ls (.ref r :: st) := by
  intro ρ ow H locs cells slots lsA r9
  have hw := O.2.2.2.2.2.1
  have hR := O.2.2.2.2.2.2.2.2.2.2.2.2
  obtain ⟨q1, -⟩ := r9.arr O (by omega) (by omega) hr hs0
  have k1 := kk ρ ow H locs cells slots lsA (r9.to (xx_hc (a := .ref 3) (by show (h 3).isSome = true; rw [hc]; rfl) (xx_ht r9.stk)))
  rw [show (Value.ref 3 :: st).map (xx_v ρ) = Value.ref (xd_E (xy_D Y) 3) :: st.map (xx_v ρ) by rw [List.map_cons, ← xx_old r9 hc (by omega)]; rfl] at k1
  have hRA : va_RA (xt_s Y.1) (xd_A (xy_D Y) 104) (.object "java/lang/Object") := (O.2.2.2.2.2.2.2.1.2.2 104 (by omega) (by omega)).2 (by omega)
  have hfc : (xt_s Y.1).vm.findClass "[Ljava/lang/Object;" = some (xd_A (xy_D Y) 104) := va_nmO hRA rfl
  have hcat : ((st.map (xx_v ρ)).map fun v => v.category).sum = (st.map fun v => v.category).sum := by
    rw [List.map_map]
    exact congrArg List.sum (List.map_congr_left fun v _ => xx_v_cat ρ v)
  exact va_getC O.1 O.2.1 (by exact r9.L.1.symm) O.2.2.2.2.2.2.1 (hw _ w) (O.2.2.2.2.2.2.2.2.1.use wx.1) (hw _ wx.2.1) (hw _ wx.2.2.1) (hw _ wx.2.2.2) O.2.2.2.2.2.2.2.1.2.1.2.2.2.2.2.1 ⟨_, q1, rfl, hfc⟩ (by exact Nat.le_trans hdd hR.1) (by rw [hcat]; have h9 := hR.2.1; omega) hd k1
theorem sw_copyR {idx N0 N1 r0 r1 : Nat} {f g : Nat → Value} {n9 : Int32} (O : xx_O Y M l d) (K : xx_ac M.2.2.2.2.1 idx) (hd : decode M.2.1 pc = .ok (.invokestatic idx, 3)) (hc0 : h r0 = some (104, N0, f)) (hc1 : h r1 = some (104, N1, g)) (h9 : 1000 ≤ r1) (h3 : ¬ n9 < 0) (h4 : n9.toNatClampNeg ≤ N0) (h5 : n9.toNatClampNeg ≤ N1)
    (hel : ∀ j, j < n9.toNatClampNeg → f j = .null ∨ ∃ x, f j = .ref x ∧ xx_obO h x)
    (hdd : 1 ≤ d) (hw : (st.map fun v => v.category).sum + (nativeFrameWords "java/lang/System" "arraycopy" 5 + 11) ≤ 40) {h2' : XH} (he : xx_up h r1 (104, N1, fun j => if j < n9.toNatClampNeg then f j else g j) = h2') (kk : SW Y k n h2' (pc + 3) ls st) (hs0 : 1000 ≤ r0 := by omega) : SW Y k n h pc ls (.int n9 :: .int 0 :: .ref r1 :: .int 0 :: .ref r0 :: st) := by
  subst he
  intro ρ ow H locs cells slots lsA r9
  have nn : ∀ z : Int32, ¬ z < 0 → z.toInt = (z.toNatClampNeg : Int) := by
    intro z hz
    have hz0 : (0 : Int) ≤ z.toInt := by
      have := Int32.not_lt.mp hz
      simpa using Int32.le_iff_toInt_le.mp this
    show z.toInt = ((z.toInt.toNat : Nat) : Int)
    omega
  have hcat : ((st.map (xx_v ρ)).map fun v => v.category).sum = (st.map fun v => v.category).sum := by
    rw [List.map_map]
    exact congrArg List.sum (List.map_congr_left fun v _ => xx_v_cat ρ v)
  obtain ⟨hK0, hRA⟩ := O.2.2.2.2.2.2.2.1.2.2 104 (by omega) (by omega)
  have hRA := hRA (by omega)
  have hRA : va_RA (xt_s Y.1) (xd_A (xy_D Y) 104) (.object "java/lang/Object") := hRA
  obtain ⟨q0, -⟩ := r9.arr O (by omega) (by omega) hc0 hs0
  obtain ⟨q1, -⟩ := r9.arr O (by omega) (by omega) hc1 h9
  have hel2 : ∀ j, j < n9.toNatClampNeg → f j = .null ∨ ∃ x, f j = .ref x ∧ va_Any "java/lang/Object" (xt_s Y.1) H (ρ x) := fun j hj => by
    rcases hel j hj with e | ⟨x, e, hx⟩
    · exact .inl e
    · exact .inr ⟨x, e, xx_any O r9 hx⟩
  generalize hcA : xd_A (xy_D Y) 104 = cA at hK0 q0 q1 hRA
  obtain ⟨-, k0, hk0, cm0, hkk0⟩ := hK0 N0 (fun j => xx_v ρ (f j))
  obtain ⟨-, k1, hk1, cm1, hkk1⟩ := hK0 N1 (fun j => xx_v ρ (g j))
  have hgw := O.2.2.2.2.2.1
  intro T hT X
  obtain ⟨vm', X', step⟩ := X.arraycopy O.1 O.2.2.2.2.2.2.1 (hgw _ K.1) (hgw _ K.2.1) (hgw _ K.2.2.1) (hgw _ K.2.2.2) (src := ρ r0) (dst := ρ r1) (cs := arrV cA N0 (fun j => xx_v ρ (f j))) (cd := arrV cA N1 (fun j => xx_v ρ (g j))) (srcPos := 0) (destPos := 0) (n := n9) (by rw [hT]; exact q0) (by rw [hT]; exact q1)
    (fun _ h => by cases h) (fun _ h => by cases h) (fun h => by cases h) (fun h => by cases h) hk0 hk1 hkk0 hkk1 rfl (by decide) (by decide) h3
    (by rw [nn n9 h3, show (0 : Int32).toInt = 0 from rfl]; rw [arrV_size]; omega)
    (by rw [nn n9 h3, show (0 : Int32).toInt = 0 from rfl]; rw [arrV_size]; omega)
    (fun vm₁ hal i hi => by
      have e : (arrV cA N0 (fun j => xx_v ρ (f j))).slots.getD ((0 : Int32).toNatClampNeg + i) .null = xx_v ρ (f i) := by
        rw [show (0 : Int32).toNatClampNeg + i = i from Nat.zero_add i, Array.getD_eq_getD_getElem?, arrV_read _ _ (by omega)]
        rfl
      rw [e]
      rcases hel2 i hi with e2 | ⟨x, e2, cellV, g1, g2, ⟨kC, hkC⟩, hasg⟩
      · rw [e2]
        exact ⟨rfl, trivial⟩
      · rw [e2]
        obtain ⟨kA, comp, r1, r2, r3, -⟩ := hRA
        cases hk1.symm.trans r1
        cases hkk1.symm.trans r2
        obtain ⟨kE, hkE, -⟩ := Vm.findClass_spec r3
        obtain ⟨kC', hkC', -⟩ := hal.2.2 _ _ hkC
        obtain ⟨kE', hkE', -⟩ := hal.2.2 _ _ hkE
        refine ⟨rfl, cellV, (show T.heap[ρ x]? = some cellV by rw [hT]; exact g1), (fun q h => by rw [h] at g2; cases g2), ⟨kC', hkC'⟩, ?_, ?_⟩
        · exact ⟨kE', hkE'⟩
        · show vm₁.assignable _ _ = true
          rw [hal.assignable]
          exact hasg _ r3)
    (g := F0 (xt_m Y.1) pc lsA (.int n9 :: .int 0 :: .ref (ρ r1) :: .int 0 :: .ref (ρ r0) :: st.map (xx_v ρ))) rfl (by show lsA.size = _; exact r9.L.1) (rest := st.map (xx_v ρ)) rfl (by rw [O.2.1]; exact hd) (by exact Nat.le_trans hdd O.2.2.2.2.2.2.2.2.2.2.2.2.1) (by show 2 * 0 + _ + _ ≤ _; rw [hcat]; have h9 := O.2.2.2.2.2.2.2.2.2.2.2.2.2.1; omega)
  have e1 : copied (arrV cA N0 (fun j => xx_v ρ (f j))) (arrV cA N1 (fun j => xx_v ρ (g j))) 0 0 n9 = arrV cA N1 (fun j => xx_v ρ (if j < n9.toNatClampNeg then f j else g j)) := by
    have h6 := va_copied (fun z => xx_v ρ z) cA cA f g (sp := (0 : Int32).toNatClampNeg) (dp := (0 : Int32).toNatClampNeg) (n := n9.toNatClampNeg) (n0 := N0) (n1 := N1) (by show 0 + _ ≤ _; omega)
    refine h6.trans (xx_arr_eq fun j hj => ?_)
    show xx_v ρ (va_cpy f g 0 0 n9.toNatClampNeg j) = _
    unfold va_cpy
    congr 1
    by_cases q : j < n9.toNatClampNeg
    · rw [if_pos (by omega), if_pos q, Nat.zero_add, Nat.sub_zero]
    · rw [if_neg (by omega), if_neg q]
  rw [e1] at X' step
  have hl : ρ r1 < H.size := (Array.getElem?_eq_some_iff.mp q1).1
  generalize hnew : arrV cA N1 (fun j => xx_v ρ (if j < n9.toNatClampNeg then f j else g j)) = cnew at X' step
  have hheap : ((T.setVm vm').setCell (ρ r1) cnew).heap = H.setIfInBounds (ρ r1) cnew := by rw [← hT]; rfl
  have oq : ∀ q : Nat, q ≠ ρ r1 → (H.setIfInBounds (ρ r1) cnew)[q]? = H[q]? := fun q hq => by simp [Array.getElem?_setIfInBounds, Ne.symm hq]
  have oe : (H.setIfInBounds (ρ r1) cnew)[ρ r1]? = some cnew := by simp [Array.getElem?_setIfInBounds, hl]
  obtain ⟨t, a1, b1⟩ := kk ρ ow _ _ cells slots lsA (r9.putL hc1 h9 (by simp) oq (fun q hq => by
      rcases List.mem_append.mp hq with h | h
      · exact .inl h
      · obtain ⟨z, -, hz⟩ := List.mem_map.mp h
        exact .inr (by rw [← hz])) (by
      refine xx_cell.mk h9 ?_
      unfold xx_newc
      rw [if_neg (by show ¬ 104 < 100; omega), if_pos (by show 104 < 200; omega), oe, ← hnew, ← hcA]) (fun j hj => by
      show xx_in h (if j < n9.toNatClampNeg then f j else g j)
      split
      · rename_i q
        exact r9.1.2.2.2.2 r0 _ j hc0 (show j < N0 by omega)
      · exact r9.1.2.2.2.2 r1 _ j hc1 hj) (xx_ht (xx_ht (xx_ht (xx_ht (xx_ht r9.stk)))))) _ hheap X'
  exact ⟨t, step t a1, b1⟩
end
end
section
/-! ===== fields that are inherited; lists as what is called ===== -/
def xx_fl2 (own : String) (idx : Nat) (ref : String) (T : u_T) (kf : Nat) : Prop :=
  (Cond.fieldLink own idx ref (T kf).2.1 (T kf).2.2.1 ∈ xx_gws ∨ ∃ host, Cond.fieldLinkNest own idx ref (T kf).2.1 (T kf).2.2.1 host ∈ xx_nws) ∧ ((T kf).1 = ref ∨ Cond.sameField ref (T kf).1 (T kf).2.1 (T kf).2.2.1 ∈ xx_gws)
section
variable {Y : XY} {M : XM} {l : Launch} {d k n : Nat} {h : XH} {pc : Nat} {ls st : List Value} {ρ : Nat → Nat} {ow : Nat → Option Nat} {H : Heap} {locs : List Loc} {cells slots : Nat} {lsA : Array Slot}
theorem xx_fl2.found {own ref : String} {idx kf : Nat} {T : u_T} {x : ClassId × Class × Nat × Field} (O : xx_O Y M l d) (F : xx_fl2 own idx ref T kf) (hi : (xt_s Y.1).fieldFound? (T kf).1 (T kf).2.1 (T kf).2.2.1 = some x) : (xt_s Y.1).fieldFound? ref (T kf).2.1 (T kf).2.2.1 = some x := by
  rcases F.2 with e | w
  · rw [← e]; exact hi
  · exact u_same (O.2.2.2.2.2.1 _ w) x hi
theorem sw_get2 {idx ci N r kf : Nat} {f : Nat → Value} {C ref : String} {T : u_T} {ty : Nat → FieldType} (O : xx_O Y M l d) (hd : decode M.2.1 pc = .ok (.getfield idx, 3)) (K : xx_cl ci C T N ty) (F : xx_fl2 M.2.2.2.2.1 idx ref T kf) (hc : h r = some (ci, N, f)) (hk : kf < N)
    {v : Value} (hv : f kf = v) (kk : SW Y k n h (pc + 3) ls (v :: st)) (hlo : r < 1000 → ci = 0 → kf < 2 := by first | exact fun _ q => absurd q (by decide) | exact fun _ _ => (by decide) | omega) : SW Y k n h pc ls (.ref r :: st) := by
  subst hv
  intro ρ ow H locs cells slots lsA r9
  obtain ⟨⟨cell, q1, q2, q3, q4⟩, hS, hfc, kC, hkC, hkind⟩ := r9.obj O K hc
  obtain ⟨cf, kF, fi, fd, hi, hsl⟩ := hS kf hk
  have hst := (u_facts hfc hkC (u_lays O.2.2.2.2.2.1 K.2.2.1 hk) hi).1
  have hv : cell.slots[fd.slot]? = some (xx_v ρ (f kf)) := by rw [hsl]; exact q4 kf hk hlo
  have kk' := kk ρ ow H locs cells slots lsA (r9.to (xx_hc (r9.1.2.2.2.2 r _ kf hc hk) (xx_ht r9.stk)))
  have hi := F.found O hi
  rcases F.1 with w | ⟨host, w⟩
  · exact W.getf O.1 O.2.1 O.2.2.2.2.2.2.1 (O.2.2.2.2.2.1 _ w) hi hst q1 q3.2.1 hv rfl rfl hd kk'
  · exact va_Wgetf O.1 O.2.1 O.2.2.2.2.2.2.1 (va_Nw.use rfl (O.2.2.2.2.2.2.2.2.1.1 _ w)) hi hst q1 q3.2.1 hv rfl rfl hd kk'
theorem sw_put2 {idx ci N r kf : Nat} {f : Nat → Value} {v : Value} {C ref : String} {T : u_T} {ty : Nat → FieldType} (O : xx_O Y M l d) (hd : decode M.2.1 pc = .ok (.putfield idx, 3)) (K : xx_cl ci C T N ty) (F : xx_fl2 M.2.2.2.2.1 idx ref T kf) (hc : h r = some (ci, N, f)) (hk : kf < N) (h1 : 1000 ≤ r) (hfin : (T kf).2.2.2 = false) (hok : xx_ok (ty kf) v)
    {h2 : XH} (he : xx_up h r (ci, N, updV f kf v) = h2) (kk : SW Y k n h2 (pc + 3) ls st) : SW Y k n h pc ls (v :: .ref r :: st) := by
  subst he
  intro ρ ow H locs cells slots lsA r9
  obtain ⟨⟨cell, q1, q2, ⟨-, -, q3⟩, q4⟩, hS, hfc, kC, hkC, hkind⟩ := r9.obj O K hc
  have q3 := q3 h1
  have q4 := fun k hk => q4 k hk (fun q => absurd h1 (Nat.not_le.mpr q))
  have hKK := O.2.2.2.2.2.2.2.1
  have hcl : (xd_cl (xy_D Y))[ci]? = some (C, T, N) := by rw [hKK.1]; exact K.2.1
  have hap := va_apart (own := M.2.2.2.2.1) O.2.2.2.2.2.1 K.2.2.1 ty K.2.2.2.1 K.2.2.2.2 hKK.2.1.1 hcl
  obtain ⟨cf, kF, fi, fd, hi, hsl⟩ := hS kf hk
  have hlay := O.2.2.2.2.2.1 _ (K.2.2.1 _ (u_in_lay hk))
  unfold u_lay at hlay
  rw [if_neg (by rw [hfin]; decide)] at hlay
  have hst := (u_facts hfc hkC (u_lays O.2.2.2.2.2.1 K.2.2.1 hk) hi).1
  have h6 := u_store hfc hkC hkind hlay hi (K.2.2.2.1 kf hk) (hok ρ).1 (hok ρ).2
  have hlt : fd.slot < cell.slots.size := by rw [hsl]; exact k2_hasslot (q4 kf hk)
  have go : ∀ H' : Heap, H'[ρ r]? = some (cell.setSlot fd.slot (xx_v ρ v)) → H'.size = H.size → (∀ q, q ≠ ρ r → H'[q]? = H[q]?) → xx_W Y H' (locs ++ [⟨ρ r, fd.slot⟩]) cells slots (F0 (xt_m Y.1) (pc + 3) lsA (st.map (xx_v ρ))) := by
    intro H' e1 e2 e3
    refine kk ρ ow H' _ cells slots lsA (r9.put hc h1 e2 e3 (xx_put_cell hcl K.1 hk h1 hap q2 q3 q4 hsl e1) (fun j hj => ?_) (xx_ht (xx_ht r9.stk)))
    show xx_in h (updV f kf v j)
    unfold updV
    split
    · exact xx_h0 r9.stk
    · exact r9.1.2.2.2.2 r _ j hc hj
  have hi := F.found O hi
  rcases F.1 with w | ⟨host, w⟩
  · exact W.putK O.1 O.2.1 (f := fd) ⟨O.2.2.2.2.2.2.1, O.2.2.2.2.2.1 _ w, ⟨_, _, _, hi⟩, hst⟩ (by rw [q2]; exact h6) q1 q3 hlt rfl rfl hd go
  · exact va_WputK O.1 O.2.1 (f := fd) O.2.2.2.2.2.2.1 (va_Nw.use rfl (O.2.2.2.2.2.2.2.2.1.1 _ w)) hi hst (by rw [q2]; exact h6) q1 q3 hlt rfl rfl hd go
/-- a list is an object of its class -/
theorem xx_R.lrec {ls' st' : List Value} {ci N r n9 : Nat} {f : Nat → Value} {C : String} {T : u_T} {ty : Nat → FieldType} (r9 : xx_R Y k n h ls' st' ρ ow H locs cells slots lsA) (O : xx_O Y M l d) (K : xx_cl ci C T N ty) (hc : h r = some (200 + ci, n9, f)) :
    ∃ ea, t_OB (ρ r) ((xd_G (xy_D Y)).1 ci) 3 ((xd_G (xy_D Y)).2 ci) H (vp_V [.int (nI n9), .ref ea, .int (nI n9)]) ∧ u_Kn (xt_s Y.1) C T N ((xd_G (xy_D Y)).1 ci) ((xd_G (xy_D Y)).2 ci) := by
  have h1 := (r9.1.2.2.2.1 r _ hc).2
  have hci := K.1
  have hnew : 1000 ≤ r := Nat.not_lt.mp fun q => by
    have h2 := h1.1 q
    unfold xx_oldc at h2
    rw [if_neg (by show ¬ 200 + ci < 100; omega), if_neg (by show ¬ 200 + ci < 200; omega)] at h2
    exact h2 (by show 200 + ci < 300; omega)
  have h1 := h1.2 hnew
  unfold xx_newc at h1
  rw [if_neg (by show ¬ 200 + ci < 100; omega), if_neg (by show ¬ 200 + ci < 200; omega)] at h1
  obtain ⟨q, ea, cap, e1, e2, e3, -⟩ := h1 (by show 200 + ci < 300; omega)
  have hK := O.2.2.2.2.2.2.2.1
  have e4 : (xd_cl (xy_D Y))[ci]? = some (C, T, N) := by rw [hK.1]; exact K.2.1
  rw [show 200 + ci - 200 = ci by omega] at e3
  exact ⟨ea, e3, hK.2.1.1.1 ci _ e4⟩
theorem sw_getL {idx ci r n9 kf : Nat} {f : Nat → Value} {C ref : String} {T : u_T} {ty : Nat → FieldType} (O : xx_O Y M l d) (hd : decode M.2.1 pc = .ok (.getfield idx, 3)) (K : xx_cl ci C T 3 ty) (F : xx_fl2 M.2.2.2.2.1 idx ref T kf) (hc : h r = some (200 + ci, n9, f)) (hk : kf = 0 ∨ kf = 2)
    (kk : SW Y k n h (pc + 3) ls (.int (nI n9) :: st)) : SW Y k n h pc ls (.ref r :: st) := by
  intro ρ ow H locs cells slots lsA r9
  have hk3 : kf < 3 := by omega
  obtain ⟨ea, ⟨cell, q1, q2, q3, q4⟩, hS, hfc, kC, hkC, hkind⟩ := r9.lrec O K hc
  obtain ⟨cf, kF, fi, fd, hi, hsl⟩ := hS kf hk3
  have hst := (u_facts hfc hkC (u_lays O.2.2.2.2.2.1 K.2.2.1 hk3) hi).1
  have hv : cell.slots[fd.slot]? = some (.int (nI n9)) := by rw [hsl, q4 kf hk3]; rcases hk with rfl | rfl <;> rfl
  have kk' := kk ρ ow H locs cells slots lsA (r9.to (xx_hc (a := .int (nI n9)) trivial (xx_ht r9.stk)))
  have hi := F.found O hi
  rcases F.1 with w | ⟨host, w⟩
  · exact W.getf O.1 O.2.1 O.2.2.2.2.2.2.1 (O.2.2.2.2.2.1 _ w) hi hst q1 (by rw [q3]; exact fun h => by cases h) hv rfl rfl hd kk'
  · exact va_Wgetf O.1 O.2.1 O.2.2.2.2.2.2.1 (va_Nw.use rfl (O.2.2.2.2.2.2.2.2.1.1 _ w)) hi hst q1 (by rw [q3]; exact fun h => by cases h) hv rfl rfl hd kk'
theorem sw_callVL {M' : XM} {d' k' n' idx ci N b n9 : Nat} {f : Nat → Value} {C : String} {T : u_T} {ty : Nat → FieldType} {as stk : List Value} {v : Option Value} {h2 : XH} (O : xx_O Y M l d) (hM : XEx l M' d' k' n' (.ref b :: as) h v h2) (E : xx_ce M') (hl : xx_ml M.2.2.2.2.1 idx M'.1) (hsel : Cond.instanceMethod M'.1 ∈ xx_gws ∧ Cond.selects M'.1.cls M'.1 M'.1 ∈ xx_gws)
    (K : xx_cl ci C T N ty) (hC : C = M'.1.cls) (hb : h b = some (200 + ci, n9, f)) (hd : decode M.2.1 pc = .ok (.invokevirtual idx, 3)) (hdd : d' + 1 ≤ d) (hn : as.length = M'.2.2.2.2.2) (hs : stk = as.reverse ++ .ref b :: st) (hc : (st.map fun v => v.category).sum ≤ 8)
    {st2 : List Value} (h2s : v.toList ++ st = st2) (kk : SW Y k n h2 (pc + 3) ls st2) : SW Y (k + k') (n + n') h pc ls stk := by
  subst hs
  intro ρ ow H locs cells slots lsA r9
  obtain ⟨ea, ⟨cell, q1, q2, q3, q4⟩, hS, hfc, -⟩ := r9.lrec O K hb
  have hst : ∀ v ∈ st, xx_in h v := fun v hv => r9.stk v (List.mem_append_right _ (List.mem_cons_of_mem _ hv))
  have has : ∀ v ∈ (Value.ref b :: as), xx_in h v := fun v hv => by
    rcases List.mem_cons.mp hv with rfl | hv
    · exact r9.stk _ (List.mem_append_right _ List.mem_cons_self)
    · exact r9.stk v (List.mem_append_left _ (List.mem_reverse.mpr hv))
  have S : CallFix (xt_p Y.1) (xt_m Y.1) (xt_c Y.1) M.2.1 (xt_c Y.1).maxLocals (xt_s Y.1) (xt_a Y.1) xx_gws M.2.2.2.2.1 := ⟨O.1, O.2.1, rfl, O.2.2.2.2.2.2.1, O.2.2.2.2.2.1⟩
  have hM' := hM (xy_D Y) ρ ow
  rw [← O.2.2.2.2.2.2.2.2.2.2.2.1] at hM'
  have hp : PreV (xt_s Y.1) H M'.1.cls (ρ b) (xx_Pc (xy_D Y) ρ ow h (.ref b :: as)) (as.map (xx_v ρ)) := ⟨xx_blind, ⟨cell, q1, by rw [q3]; rfl, by rw [q2, ← hC]; exact hfc⟩, fun U hU hW => ⟨rfl, xx_K.moved hW.alike O.2.2.2.2.2.2.2.1, xx_N.warm hW O.2.2.2.2.2.2.2.2.1, by rw [hU]; exact r9.1, has⟩⟩
  have hw := O.2.2.2.2.2.1
  refine xx_run (Q' := fun o g => o = .inl v ∧ g = h2) O r9 hst (a := (Value.ref (ρ b) :: as.map (xx_v ρ)).toArray) ?_ (fun v' h' q _ => by obtain ⟨e1, rfl⟩ := q; cases e1; rw [h2s]; exact kk) (fun E h' q => by obtain ⟨e1, -⟩ := q; cases e1)
  rcases hl with hl | ⟨host, hl⟩
  · exact vx_runV S hM' ⟨xx_callB O E hdd hl, hw _ hsel.1, hw _ hsel.2⟩ hp rfl (by rw [List.length_map]; exact hn) r9.L.1 xx_stk (lv_room (by rw [xx_cats]; exact hc)) hd (by have := r9.2.2.2.1; have := r9.2.2.2.2.1; omega)
  · exact vx_runVN S hM' ⟨xx_callN O E hdd hl, hw _ hsel.1, hw _ hsel.2⟩ hp rfl (by rw [List.length_map]; exact hn) r9.L.1 xx_stk (lv_room (by rw [xx_cats]; exact hc)) hd (by have := r9.2.2.2.1; have := r9.2.2.2.2.1; omega)
end
end
section
/-! ===== fields of the JDK, inherited ones too ===== -/
theorem ct_J2_20 : Cond.constant RJ2 20 (1073741823 : Int32) ∈ xx_gws := (gv_J _ (List.mem_of_getElem? (i := 24) rfl))
theorem f2_J5_15 : xx_fl2 RJ5 15 "java/lang/AbstractStringBuilder" TJ4 0 := ⟨Or.inl (gv_J _ (List.mem_of_getElem? (i := 25) rfl)), Or.inl rfl⟩
theorem f2_J5_22 : xx_fl2 RJ5 22 "java/lang/AbstractStringBuilder" TJ4 1 := ⟨Or.inl (gv_J _ (List.mem_of_getElem? (i := 26) rfl)), Or.inl rfl⟩
theorem f2_J5_73 : xx_fl2 RJ5 73 "java/lang/AbstractStringBuilder" TJ4 2 := ⟨Or.inl (gv_J _ (List.mem_of_getElem? (i := 27) rfl)), Or.inl rfl⟩
theorem f2_J0_1048 : xx_fl2 RJ0 1048 "java/lang/AbstractStringBuilder" TJ4 2 := ⟨Or.inl (gv_J _ (List.mem_of_getElem? (i := 28) rfl)), Or.inl rfl⟩
theorem f2_J5_79 : xx_fl2 RJ5 79 "java/lang/AbstractStringBuilder" TJ4 3 := ⟨Or.inl (gv_J _ (List.mem_of_getElem? (i := 29) rfl)), Or.inl rfl⟩
theorem ct_J8_200 : Cond.constant RJ8 200 (2147483639 : Int32) ∈ xx_gws := (gv_J _ (List.mem_of_getElem? (i := 43) rfl))
theorem ct_J5_39 : Cond.constant RJ5 39 (2147483647 : Int32) ∈ xx_gws := (gv_J _ (List.mem_of_getElem? (i := 45) rfl))
theorem f2_Jx35411_28 : xx_fl2 RJx35411 28 "java/util/ArrayList" TJx4a65c 2 := ⟨Or.inr ⟨"java/util/ArrayList", xx_nl_ok _ (List.mem_of_getElem? (i := 7) rfl)⟩, Or.inl rfl⟩
theorem f2_Jxc12de_7 : xx_fl2 RJxc12de 7 "java/util/AbstractList" TJx4a65c 0 := ⟨Or.inl (gv_J _ (List.mem_of_getElem? (i := 146) rfl)), Or.inl rfl⟩
theorem f2_Jx35411_17 : xx_fl2 RJx35411 17 "java/util/ArrayList" TJx4a65c 0 := ⟨Or.inl (gv_J _ (List.mem_of_getElem? (i := 147) rfl)), Or.inr (gv_J _ (List.mem_of_getElem? (i := 148) rfl))⟩
theorem f2_Jx4a65c_63 : xx_fl2 RJx4a65c 63 "java/util/ArrayList" TJx4a65c 0 := ⟨Or.inl (gv_J _ (List.mem_of_getElem? (i := 149) rfl)), Or.inr (gv_J _ (List.mem_of_getElem? (i := 148) rfl))⟩
theorem gcw_sel : Cond.selects "[Ljava/lang/Object;" ⟨"java/lang/Object", "getClass", "()Ljava/lang/Class;"⟩ ⟨"java/lang/Object", "getClass", "()Ljava/lang/Class;"⟩ ∈ xx_gws := (gv_J _ (List.mem_of_getElem? (i := 209) rfl))
theorem gcw_ins : Cond.instanceMethod ⟨"java/lang/Object", "getClass", "()Ljava/lang/Class;"⟩ ∈ xx_gws := (gv_J _ (List.mem_of_getElem? (i := 157) rfl))
theorem gcw_nat : Cond.native ⟨"java/lang/Object", "getClass", "()Ljava/lang/Class;"⟩ ∈ xx_gws := (gv_J _ (List.mem_of_getElem? (i := 158) rfl))
theorem gcw_dec : Cond.declares ⟨"java/lang/Object", "getClass", "()Ljava/lang/Class;"⟩ ∈ xx_nws := xx_dcl_ok _ (List.mem_of_getElem? (i := 4) rfl)
end
