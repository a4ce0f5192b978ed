/-! ===== code, read ===== -/
def kco_68_0 : List (Nat × Instr × Nat) := [(0, .aload_n 0, 1), (1, .aload_n 0, 1), (2, .getfield 30, 3), (5, .invokevirtual 71, 3), (8, .aload_n 0, 1), (9, .aload_n 0, 1), (10, .getfield 30, 3), (13, .invokevirtual 74, 3), (16, .aload_n 0, 1), (17, .iload_n 1, 1), (18, .invokevirtual 37, 3), (21, .aload_n 0, 1), (22, .iconst (1), 1), (23, .invokevirtual 37, 3), (26, .aload_n 0, 1), (27, .aload_n 2, 1), (28, .invokevirtual 71, 3), (31, .aload_n 0, 1)]
theorem kco_68_t0 : kco_68_0.all (fun q => decide (decode prog_5_method_9_code q.1 = .ok q.2)) = true := by decide +kernel
def kco_68_1 : List (Nat × Instr × Nat) := [(32, .aload_n 0, 1), (33, .getfield 30, 3), (36, .invokevirtual 74, 3), (39, .aload_n 0, 1), (40, .aload_n 2, 1), (41, .bipush (32), 2), (43, .invokevirtual 67, 3), (46, .aload_n 0, 1), (47, .iload_n 1, 1), (48, .invokevirtual 37, 3), (51, .aload_n 0, 1), (52, .iconst (2), 1), (53, .invokevirtual 37, 3), (56, .aload_n 0, 1), (57, .aload_n 3, 1), (58, .invokevirtual 71, 3), (61, .return_, 1)]
theorem kco_68_t1 : kco_68_1.all (fun q => decide (decode prog_5_method_9_code q.1 = .ok q.2)) = true := by decide +kernel
def kco_68 : List (List (Nat × Instr × Nat)) := [kco_68_0, kco_68_1]
theorem kco_68_ok : ∀ pc i n, ck_cdAt kco_68 pc = some (i, n) → decode prog_5_method_9_code pc = .ok (i, n) := ck_cd_ok (List.forall_mem_cons.mpr ⟨kco_68_t0, (List.forall_mem_cons.mpr ⟨kco_68_t1, (fun _ h => by cases h)⟩)⟩)
def kco_69_0 : List (Nat × Instr × Nat) := [(0, .aload_n 0, 1), (1, .getfield 21, 3), (4, .iconst (0), 1), (5, .iaload, 1), (6, .istore_n 1, 1), (7, .aload_n 0, 1), (8, .getfield 21, 3), (11, .iconst (1), 1), (12, .iaload, 1), (13, .istore_n 2, 1), (14, .aload_n 0, 1), (15, .getfield 21, 3), (18, .iconst (2), 1), (19, .iaload, 1), (20, .istore_n 3, 1), (21, .aload_n 0, 1), (22, .getfield 21, 3), (25, .iconst (3), 1), (26, .iaload, 1), (27, .istore 4, 2), (29, .aload_n 0, 1), (30, .getfield 21, 3)]
theorem kco_69_t0 : kco_69_0.all (fun q => decide (decode prog_5_method_12_code q.1 = .ok q.2)) = true := by decide +kernel
def kco_69_1 : List (Nat × Instr × Nat) := [(33, .iconst (4), 1), (34, .iaload, 1), (35, .istore 5, 2), (37, .aload_n 0, 1), (38, .getfield 21, 3), (41, .iconst (5), 1), (42, .iaload, 1), (43, .istore 6, 2), (45, .aload_n 0, 1), (46, .getfield 21, 3), (49, .bipush (6), 2), (51, .iaload, 1), (52, .istore 7, 2), (54, .aload_n 0, 1), (55, .getfield 21, 3), (58, .bipush (7), 2), (60, .iaload, 1), (61, .istore 8, 2), (63, .iconst (0), 1)]
theorem kco_69_t1 : kco_69_1.all (fun q => decide (decode prog_5_method_12_code q.1 = .ok q.2)) = true := by decide +kernel
def kco_69_2 : List (Nat × Instr × Nat) := [(64, .istore 9, 2), (66, .iload 9, 2), (68, .bipush (64), 2), (70, .if_icmp .ge (152), 3), (73, .iload 8, 2), (75, .iload 5, 2), (77, .bipush (6), 2), (79, .iushr, 1), (80, .iload 5, 2), (82, .bipush (26), 2), (84, .ishl, 1), (85, .ior, 1), (86, .iload 5, 2), (88, .bipush (11), 2), (90, .iushr, 1), (91, .iload 5, 2), (93, .bipush (21), 2), (95, .ishl, 1)]
theorem kco_69_t2 : kco_69_2.all (fun q => decide (decode prog_5_method_12_code q.1 = .ok q.2)) = true := by decide +kernel
def kco_69_3 : List (Nat × Instr × Nat) := [(96, .ior, 1), (97, .ixor, 1), (98, .iload 5, 2), (100, .bipush (25), 2), (102, .iushr, 1), (103, .iload 5, 2), (105, .bipush (7), 2), (107, .ishl, 1), (108, .ior, 1), (109, .ixor, 1), (110, .iadd, 1), (111, .iload 5, 2), (113, .iload 6, 2), (115, .iand, 1), (116, .iload 5, 2), (118, .iconst (-1), 1), (119, .ixor, 1), (120, .iload 7, 2), (122, .iand, 1), (123, .ixor, 1), (124, .iadd, 1), (125, .getstatic 80, 3)]
theorem kco_69_t3 : kco_69_3.all (fun q => decide (decode prog_5_method_12_code q.1 = .ok q.2)) = true := by decide +kernel
def kco_69_4 : List (Nat × Instr × Nat) := [(128, .iload 9, 2), (130, .iaload, 1), (131, .iadd, 1), (132, .aload_n 0, 1), (133, .getfield 18, 3), (136, .iload 9, 2), (138, .iaload, 1), (139, .iadd, 1), (140, .istore 10, 2), (142, .iload_n 1, 1), (143, .iconst (2), 1), (144, .iushr, 1), (145, .iload_n 1, 1), (146, .bipush (30), 2), (148, .ishl, 1), (149, .ior, 1), (150, .iload_n 1, 1), (151, .bipush (13), 2), (153, .iushr, 1), (154, .iload_n 1, 1), (155, .bipush (19), 2), (157, .ishl, 1), (158, .ior, 1), (159, .ixor, 1)]
theorem kco_69_t4 : kco_69_4.all (fun q => decide (decode prog_5_method_12_code q.1 = .ok q.2)) = true := by decide +kernel
def kco_69_5 : List (Nat × Instr × Nat) := [(160, .iload_n 1, 1), (161, .bipush (22), 2), (163, .iushr, 1), (164, .iload_n 1, 1), (165, .bipush (10), 2), (167, .ishl, 1), (168, .ior, 1), (169, .ixor, 1), (170, .iload_n 1, 1), (171, .iload_n 2, 1), (172, .iand, 1), (173, .iload_n 1, 1), (174, .iload_n 3, 1), (175, .iand, 1), (176, .ixor, 1), (177, .iload_n 2, 1), (178, .iload_n 3, 1), (179, .iand, 1), (180, .ixor, 1), (181, .iadd, 1), (182, .istore 11, 2), (184, .iload 7, 2), (186, .istore 8, 2), (188, .iload 6, 2), (190, .istore 7, 2)]
theorem kco_69_t5 : kco_69_5.all (fun q => decide (decode prog_5_method_12_code q.1 = .ok q.2)) = true := by decide +kernel
def kco_69_6 : List (Nat × Instr × Nat) := [(192, .iload 5, 2), (194, .istore 6, 2), (196, .iload 4, 2), (198, .iload 10, 2), (200, .iadd, 1), (201, .istore 5, 2), (203, .iload_n 3, 1), (204, .istore 4, 2), (206, .iload_n 2, 1), (207, .istore_n 3, 1), (208, .iload_n 1, 1), (209, .istore_n 2, 1), (210, .iload 10, 2), (212, .iload 11, 2), (214, .iadd, 1), (215, .istore_n 1, 1), (216, .iinc 9 (1), 3), (219, .goto (-153), 3), (222, .aload_n 0, 1), (223, .getfield 21, 3)]
theorem kco_69_t6 : kco_69_6.all (fun q => decide (decode prog_5_method_12_code q.1 = .ok q.2)) = true := by decide +kernel
def kco_69_7 : List (Nat × Instr × Nat) := [(226, .iconst (0), 1), (227, .dup2, 1), (228, .iaload, 1), (229, .iload_n 1, 1), (230, .iadd, 1), (231, .iastore, 1), (232, .aload_n 0, 1), (233, .getfield 21, 3), (236, .iconst (1), 1), (237, .dup2, 1), (238, .iaload, 1), (239, .iload_n 2, 1), (240, .iadd, 1), (241, .iastore, 1), (242, .aload_n 0, 1), (243, .getfield 21, 3), (246, .iconst (2), 1), (247, .dup2, 1), (248, .iaload, 1), (249, .iload_n 3, 1), (250, .iadd, 1), (251, .iastore, 1), (252, .aload_n 0, 1), (253, .getfield 21, 3)]
theorem kco_69_t7 : kco_69_7.all (fun q => decide (decode prog_5_method_12_code q.1 = .ok q.2)) = true := by decide +kernel
def kco_69_8 : List (Nat × Instr × Nat) := [(256, .iconst (3), 1), (257, .dup2, 1), (258, .iaload, 1), (259, .iload 4, 2), (261, .iadd, 1), (262, .iastore, 1), (263, .aload_n 0, 1), (264, .getfield 21, 3), (267, .iconst (4), 1), (268, .dup2, 1), (269, .iaload, 1), (270, .iload 5, 2), (272, .iadd, 1), (273, .iastore, 1), (274, .aload_n 0, 1), (275, .getfield 21, 3), (278, .iconst (5), 1), (279, .dup2, 1), (280, .iaload, 1), (281, .iload 6, 2), (283, .iadd, 1), (284, .iastore, 1), (285, .aload_n 0, 1), (286, .getfield 21, 3)]
theorem kco_69_t8 : kco_69_8.all (fun q => decide (decode prog_5_method_12_code q.1 = .ok q.2)) = true := by decide +kernel
def kco_69_9 : List (Nat × Instr × Nat) := [(289, .bipush (6), 2), (291, .dup2, 1), (292, .iaload, 1), (293, .iload 7, 2), (295, .iadd, 1), (296, .iastore, 1), (297, .aload_n 0, 1), (298, .getfield 21, 3), (301, .bipush (7), 2), (303, .dup2, 1), (304, .iaload, 1), (305, .iload 8, 2), (307, .iadd, 1), (308, .iastore, 1), (309, .return_, 1)]
theorem kco_69_t9 : kco_69_9.all (fun q => decide (decode prog_5_method_12_code q.1 = .ok q.2)) = true := by decide +kernel
def kco_69 : List (List (Nat × Instr × Nat)) := [kco_69_0, kco_69_1, kco_69_2, kco_69_3, kco_69_4, kco_69_5, kco_69_6, kco_69_7, kco_69_8, kco_69_9]
theorem kco_69_ok : ∀ pc i n, ck_cdAt kco_69 pc = some (i, n) → decode prog_5_method_12_code pc = .ok (i, n) := ck_cd_ok (List.forall_mem_cons.mpr ⟨kco_69_t0, (List.forall_mem_cons.mpr ⟨kco_69_t1, (List.forall_mem_cons.mpr ⟨kco_69_t2, (List.forall_mem_cons.mpr ⟨kco_69_t3, (List.forall_mem_cons.mpr ⟨kco_69_t4, (List.forall_mem_cons.mpr ⟨kco_69_t5, (List.forall_mem_cons.mpr ⟨kco_69_t6, (List.forall_mem_cons.mpr ⟨kco_69_t7, (List.forall_mem_cons.mpr ⟨kco_69_t8, (List.forall_mem_cons.mpr ⟨kco_69_t9, (fun _ h => by cases h)⟩)⟩)⟩)⟩)⟩)⟩)⟩)⟩)⟩)⟩)
def kco_70_0 : List (Nat × Instr × Nat) := [(0, .aload_n 0, 1), (1, .iconst (0), 1), (2, .putfield 33, 3), (5, .return_, 1)]
theorem kco_70_t0 : kco_70_0.all (fun q => decide (decode prog_5_method_2_code q.1 = .ok q.2)) = true := by decide +kernel
def kco_70 : List (List (Nat × Instr × Nat)) := [kco_70_0]
theorem kco_70_ok : ∀ pc i n, ck_cdAt kco_70 pc = some (i, n) → decode prog_5_method_2_code pc = .ok (i, n) := ck_cd_ok (List.forall_mem_cons.mpr ⟨kco_70_t0, (fun _ h => by cases h)⟩)
def kco_71_0 : List (Nat × Instr × Nat) := [(0, .aload_n 1, 1), (1, .aload_n 0, 1), (2, .getfield 24, 3), (5, .invokestatic 56, 3), (8, .aload_n 0, 1), (9, .bipush (54), 2), (11, .invokevirtual 60, 3), (14, .return_, 1)]
theorem kco_71_t0 : kco_71_0.all (fun q => decide (decode prog_5_method_7_code q.1 = .ok q.2)) = true := by decide +kernel
def kco_71 : List (List (Nat × Instr × Nat)) := [kco_71_0]
theorem kco_71_ok : ∀ pc i n, ck_cdAt kco_71 pc = some (i, n) → decode prog_5_method_7_code pc = .ok (i, n) := ck_cd_ok (List.forall_mem_cons.mpr ⟨kco_71_t0, (fun _ h => by cases h)⟩)
def kco_72_0 : List (Nat × Instr × Nat) := [(0, .aload_n 0, 1), (1, .invokevirtual 77, 3), (4, .iconst (0), 1), (5, .istore_n 2, 1), (6, .iload_n 2, 1), (7, .bipush (32), 2), (9, .if_icmp .ge (21), 3), (12, .aload_n 0, 1), (13, .aload_n 0, 1), (14, .getfield 24, 3), (17, .iload_n 2, 1), (18, .iaload, 1), (19, .iload_n 1, 1), (20, .ixor, 1), (21, .invokevirtual 37, 3), (24, .iinc 2 (1), 3), (27, .goto (-21), 3), (30, .bipush (32), 2)]
theorem kco_72_t0 : kco_72_0.all (fun q => decide (decode prog_5_method_10_code q.1 = .ok q.2)) = true := by decide +kernel
def kco_72_1 : List (Nat × Instr × Nat) := [(32, .istore_n 2, 1), (33, .iload_n 2, 1), (34, .bipush (64), 2), (36, .if_icmp .ge (14), 3), (39, .aload_n 0, 1), (40, .iload_n 1, 1), (41, .invokevirtual 37, 3), (44, .iinc 2 (1), 3), (47, .goto (-14), 3), (50, .return_, 1)]
theorem kco_72_t1 : kco_72_1.all (fun q => decide (decode prog_5_method_10_code q.1 = .ok q.2)) = true := by decide +kernel
def kco_72 : List (List (Nat × Instr × Nat)) := [kco_72_0, kco_72_1]
theorem kco_72_ok : ∀ pc i n, ck_cdAt kco_72 pc = some (i, n) → decode prog_5_method_10_code pc = .ok (i, n) := ck_cd_ok (List.forall_mem_cons.mpr ⟨kco_72_t0, (List.forall_mem_cons.mpr ⟨kco_72_t1, (fun _ h => by cases h)⟩)⟩)
def kco_73_0 : List (Nat × Instr × Nat) := [(0, .aload_n 0, 1), (1, .invokespecial 3, 3), (4, .aload_n 0, 1), (5, .bipush (6), 2), (7, .bipush (32), 2), (9, .multianewarray 9 2, 4), (13, .putfield 11, 3), (16, .aload_n 0, 1), (17, .bipush (6), 2), (19, .bipush (32), 2), (21, .multianewarray 9 2, 4), (25, .putfield 16, 3), (28, .aload_n 0, 1), (29, .bipush (6), 2), (31, .newarray .int, 2)]
theorem kco_73_t0 : kco_73_0.all (fun q => decide (decode prog_6_method_1_code q.1 = .ok q.2)) = true := by decide +kernel
def kco_73_1 : List (Nat × Instr × Nat) := [(33, .putfield 19, 3), (36, .return_, 1)]
theorem kco_73_t1 : kco_73_1.all (fun q => decide (decode prog_6_method_1_code q.1 = .ok q.2)) = true := by decide +kernel
def kco_73 : List (List (Nat × Instr × Nat)) := [kco_73_0, kco_73_1]
theorem kco_73_ok : ∀ pc i n, ck_cdAt kco_73 pc = some (i, n) → decode prog_6_method_1_code pc = .ok (i, n) := ck_cd_ok (List.forall_mem_cons.mpr ⟨kco_73_t0, (List.forall_mem_cons.mpr ⟨kco_73_t1, (fun _ h => by cases h)⟩)⟩)
def kco_74_0 : List (Nat × Instr × Nat) := [(0, .aload_n 0, 1), (1, .iconst (0), 1), (2, .putfield 23, 3), (5, .iconst (0), 1), (6, .istore_n 2, 1), (7, .iload_n 2, 1), (8, .aload_n 1, 1), (9, .getfield 23, 3), (12, .if_icmp .ge (31), 3), (15, .aload_n 0, 1), (16, .aload_n 1, 1), (17, .getfield 11, 3), (20, .iload_n 2, 1), (21, .aaload, 1), (22, .aload_n 1, 1), (23, .getfield 19, 3), (26, .iload_n 2, 1), (27, .iaload, 1), (28, .aload_n 1, 1), (29, .getfield 16, 3)]
theorem kco_74_t0 : kco_74_0.all (fun q => decide (decode prog_6_method_2_code q.1 = .ok q.2)) = true := by decide +kernel
def kco_74_1 : List (Nat × Instr × Nat) := [(32, .iload_n 2, 1), (33, .aaload, 1), (34, .invokevirtual 27, 3), (37, .iinc 2 (1), 3), (40, .goto (-33), 3), (43, .return_, 1)]
theorem kco_74_t1 : kco_74_1.all (fun q => decide (decode prog_6_method_2_code q.1 = .ok q.2)) = true := by decide +kernel
def kco_74 : List (List (Nat × Instr × Nat)) := [kco_74_0, kco_74_1]
theorem kco_74_ok : ∀ pc i n, ck_cdAt kco_74 pc = some (i, n) → decode prog_6_method_2_code pc = .ok (i, n) := ck_cd_ok (List.forall_mem_cons.mpr ⟨kco_74_t0, (List.forall_mem_cons.mpr ⟨kco_74_t1, (fun _ h => by cases h)⟩)⟩)
def kco_75_0 : List (Nat × Instr × Nat) := [(0, .iconst (0), 1), (1, .istore_n 2, 1), (2, .iload_n 2, 1), (3, .aload_n 0, 1), (4, .getfield 23, 3), (7, .if_icmp .ge (37), 3), (10, .aload_n 0, 1), (11, .getfield 19, 3), (14, .iload_n 2, 1), (15, .iaload, 1), (16, .aload_n 1, 1), (17, .invokevirtual 35, 3), (20, .if_icmp .ne (18), 3), (23, .aload_n 1, 1), (24, .aload_n 0, 1), (25, .getfield 11, 3), (28, .iload_n 2, 1), (29, .aaload, 1), (30, .invokevirtual 41, 3)]
theorem kco_75_t0 : kco_75_0.all (fun q => decide (decode prog_6_method_4_code q.1 = .ok q.2)) = true := by decide +kernel
def kco_75_1 : List (Nat × Instr × Nat) := [(33, .ifCond .eq (5), 3), (36, .iload_n 2, 1), (37, .ireturn, 1), (38, .iinc 2 (1), 3), (41, .goto (-39), 3), (44, .iconst (-1), 1), (45, .ireturn, 1)]
theorem kco_75_t1 : kco_75_1.all (fun q => decide (decode prog_6_method_4_code q.1 = .ok q.2)) = true := by decide +kernel
def kco_75 : List (List (Nat × Instr × Nat)) := [kco_75_0, kco_75_1]
theorem kco_75_ok : ∀ pc i n, ck_cdAt kco_75 pc = some (i, n) → decode prog_6_method_4_code pc = .ok (i, n) := ck_cd_ok (List.forall_mem_cons.mpr ⟨kco_75_t0, (List.forall_mem_cons.mpr ⟨kco_75_t1, (fun _ h => by cases h)⟩)⟩)
def kco_76_0 : List (Nat × Instr × Nat) := [(0, .aload_n 0, 1), (1, .getfield 23, 3), (4, .bipush (6), 2), (6, .if_icmp .ge (49), 3), (9, .aload_n 1, 1), (10, .aload_n 0, 1), (11, .getfield 11, 3), (14, .aload_n 0, 1), (15, .getfield 23, 3), (18, .aaload, 1), (19, .invokestatic 31, 3), (22, .aload_n 3, 1), (23, .aload_n 0, 1), (24, .getfield 16, 3), (27, .aload_n 0, 1), (28, .getfield 23, 3), (31, .aaload, 1)]
theorem kco_76_t0 : kco_76_0.all (fun q => decide (decode prog_6_method_3_code q.1 = .ok q.2)) = true := by decide +kernel
def kco_76_1 : List (Nat × Instr × Nat) := [(32, .invokestatic 31, 3), (35, .aload_n 0, 1), (36, .getfield 19, 3), (39, .aload_n 0, 1), (40, .getfield 23, 3), (43, .iload_n 2, 1), (44, .iastore, 1), (45, .aload_n 0, 1), (46, .dup, 1), (47, .getfield 23, 3), (50, .iconst (1), 1), (51, .iadd, 1), (52, .putfield 23, 3), (55, .return_, 1)]
theorem kco_76_t1 : kco_76_1.all (fun q => decide (decode prog_6_method_3_code q.1 = .ok q.2)) = true := by decide +kernel
def kco_76 : List (List (Nat × Instr × Nat)) := [kco_76_0, kco_76_1]
theorem kco_76_ok : ∀ pc i n, ck_cdAt kco_76 pc = some (i, n) → decode prog_6_method_3_code pc = .ok (i, n) := ck_cd_ok (List.forall_mem_cons.mpr ⟨kco_76_t0, (List.forall_mem_cons.mpr ⟨kco_76_t1, (fun _ h => by cases h)⟩)⟩)
def kco_77_0 : List (Nat × Instr × Nat) := [(0, .iload_n 1, 1), (1, .ifCond .lt (11), 3), (4, .iload_n 1, 1), (5, .aload_n 0, 1), (6, .getfield 23, 3), (9, .if_icmp .lt (4), 3), (12, .return_, 1), (13, .aload_n 0, 1), (14, .getfield 16, 3), (17, .iload_n 1, 1), (18, .aaload, 1), (19, .aload_n 2, 1), (20, .invokestatic 31, 3), (23, .aload_n 0, 1), (24, .dup, 1), (25, .getfield 23, 3), (28, .iconst (1), 1), (29, .isub, 1), (30, .putfield 23, 3)]
theorem kco_77_t0 : kco_77_0.all (fun q => decide (decode prog_6_method_5_code q.1 = .ok q.2)) = true := by decide +kernel
def kco_77_1 : List (Nat × Instr × Nat) := [(33, .iload_n 1, 1), (34, .istore_n 3, 1), (35, .iload_n 3, 1), (36, .aload_n 0, 1), (37, .getfield 23, 3), (40, .if_icmp .ge (57), 3), (43, .aload_n 0, 1), (44, .getfield 11, 3), (47, .iload_n 3, 1), (48, .iconst (1), 1), (49, .iadd, 1), (50, .aaload, 1), (51, .aload_n 0, 1), (52, .getfield 11, 3), (55, .iload_n 3, 1), (56, .aaload, 1), (57, .invokestatic 31, 3), (60, .aload_n 0, 1), (61, .getfield 16, 3)]
theorem kco_77_t1 : kco_77_1.all (fun q => decide (decode prog_6_method_5_code q.1 = .ok q.2)) = true := by decide +kernel
def kco_77_2 : List (Nat × Instr × Nat) := [(64, .iload_n 3, 1), (65, .iconst (1), 1), (66, .iadd, 1), (67, .aaload, 1), (68, .aload_n 0, 1), (69, .getfield 16, 3), (72, .iload_n 3, 1), (73, .aaload, 1), (74, .invokestatic 31, 3), (77, .aload_n 0, 1), (78, .getfield 19, 3), (81, .iload_n 3, 1), (82, .aload_n 0, 1), (83, .getfield 19, 3), (86, .iload_n 3, 1), (87, .iconst (1), 1), (88, .iadd, 1), (89, .iaload, 1), (90, .iastore, 1), (91, .iinc 3 (1), 3), (94, .goto (-59), 3)]
theorem kco_77_t2 : kco_77_2.all (fun q => decide (decode prog_6_method_5_code q.1 = .ok q.2)) = true := by decide +kernel
def kco_77_3 : List (Nat × Instr × Nat) := [(97, .return_, 1)]
theorem kco_77_t3 : kco_77_3.all (fun q => decide (decode prog_6_method_5_code q.1 = .ok q.2)) = true := by decide +kernel
def kco_77 : List (List (Nat × Instr × Nat)) := [kco_77_0, kco_77_1, kco_77_2, kco_77_3]
theorem kco_77_ok : ∀ pc i n, ck_cdAt kco_77 pc = some (i, n) → decode prog_6_method_5_code pc = .ok (i, n) := ck_cd_ok (List.forall_mem_cons.mpr ⟨kco_77_t0, (List.forall_mem_cons.mpr ⟨kco_77_t1, (List.forall_mem_cons.mpr ⟨kco_77_t2, (List.forall_mem_cons.mpr ⟨kco_77_t3, (fun _ h => by cases h)⟩)⟩)⟩)⟩)
def kco_78_0 : List (Nat × Instr × Nat) := [(0, .aload_n 0, 1), (1, .invokespecial 3, 3), (4, .aload_n 0, 1), (5, .bipush (84), 2), (7, .newarray .int, 2), (9, .putfield 11, 3), (12, .return_, 1)]
theorem kco_78_t0 : kco_78_0.all (fun q => decide (decode prog_7_method_1_code q.1 = .ok q.2)) = true := by decide +kernel
def kco_78 : List (List (Nat × Instr × Nat)) := [kco_78_0]
theorem kco_78_ok : ∀ pc i n, ck_cdAt kco_78 pc = some (i, n) → decode prog_7_method_1_code pc = .ok (i, n) := ck_cd_ok (List.forall_mem_cons.mpr ⟨kco_78_t0, (fun _ h => by cases h)⟩)
def kco_79_0 : List (Nat × Instr × Nat) := [(0, .aload_n 0, 1), (1, .getfield 11, 3), (4, .bipush (32), 2), (6, .iaload, 1), (7, .ireturn, 1)]
theorem kco_79_t0 : kco_79_0.all (fun q => decide (decode prog_7_method_3_code q.1 = .ok q.2)) = true := by decide +kernel
def kco_79 : List (List (Nat × Instr × Nat)) := [kco_79_0]
theorem kco_79_ok : ∀ pc i n, ck_cdAt kco_79 pc = some (i, n) → decode prog_7_method_3_code pc = .ok (i, n) := ck_cd_ok (List.forall_mem_cons.mpr ⟨kco_79_t0, (fun _ h => by cases h)⟩)
def kco_80_0 : List (Nat × Instr × Nat) := [(0, .aload_n 0, 1), (1, .getfield 11, 3), (4, .bipush (50), 2), (6, .iaload, 1), (7, .ireturn, 1)]
theorem kco_80_t0 : kco_80_0.all (fun q => decide (decode prog_7_method_5_code q.1 = .ok q.2)) = true := by decide +kernel
def kco_80 : List (List (Nat × Instr × Nat)) := [kco_80_0]
theorem kco_80_ok : ∀ pc i n, ck_cdAt kco_80 pc = some (i, n) → decode prog_7_method_5_code pc = .ok (i, n) := ck_cd_ok (List.forall_mem_cons.mpr ⟨kco_80_t0, (fun _ h => by cases h)⟩)
def kco_81_0 : List (Nat × Instr × Nat) := [(0, .aload_n 1, 1), (1, .getfield 11, 3), (4, .iconst (0), 1), (5, .aload_n 0, 1), (6, .getfield 11, 3), (9, .iconst (0), 1), (10, .bipush (84), 2), (12, .invokestatic 15, 3), (15, .aload_n 0, 1), (16, .aload_n 1, 1), (17, .getfield 21, 3), (20, .putfield 21, 3), (23, .return_, 1)]
theorem kco_81_t0 : kco_81_0.all (fun q => decide (decode prog_7_method_2_code q.1 = .ok q.2)) = true := by decide +kernel
def kco_81 : List (List (Nat × Instr × Nat)) := [kco_81_0]
theorem kco_81_ok : ∀ pc i n, ck_cdAt kco_81 pc = some (i, n) → decode prog_7_method_2_code pc = .ok (i, n) := ck_cd_ok (List.forall_mem_cons.mpr ⟨kco_81_t0, (fun _ h => by cases h)⟩)
def kco_82_0 : List (Nat × Instr × Nat) := [(0, .aload_n 0, 1), (1, .getfield 11, 3), (4, .iconst (0), 1), (5, .aload_n 1, 1), (6, .bipush (32), 2), (8, .invokestatic 25, 3), (11, .ireturn, 1)]
theorem kco_82_t0 : kco_82_0.all (fun q => decide (decode prog_7_method_7_code q.1 = .ok q.2)) = true := by decide +kernel
def kco_82 : List (List (Nat × Instr × Nat)) := [kco_82_0]
theorem kco_82_ok : ∀ pc i n, ck_cdAt kco_82 pc = some (i, n) → decode prog_7_method_7_code pc = .ok (i, n) := ck_cd_ok (List.forall_mem_cons.mpr ⟨kco_82_t0, (fun _ h => by cases h)⟩)
def kco_83_0 : List (Nat × Instr × Nat) := [(0, .aload_n 0, 1), (1, .getfield 11, 3), (4, .bipush (33), 2), (6, .iaload, 1), (7, .ireturn, 1)]
theorem kco_83_t0 : kco_83_0.all (fun q => decide (decode prog_7_method_4_code q.1 = .ok q.2)) = true := by decide +kernel
def kco_83 : List (List (Nat × Instr × Nat)) := [kco_83_0]
theorem kco_83_ok : ∀ pc i n, ck_cdAt kco_83 pc = some (i, n) → decode prog_7_method_4_code pc = .ok (i, n) := ck_cd_ok (List.forall_mem_cons.mpr ⟨kco_83_t0, (fun _ h => by cases h)⟩)
def kco_84_0 : List (Nat × Instr × Nat) := [(0, .aload_n 0, 1), (1, .getfield 11, 3), (4, .bipush (51), 2), (6, .iaload, 1), (7, .ireturn, 1)]
theorem kco_84_t0 : kco_84_0.all (fun q => decide (decode prog_7_method_6_code q.1 = .ok q.2)) = true := by decide +kernel
def kco_84 : List (List (Nat × Instr × Nat)) := [kco_84_0]
theorem kco_84_ok : ∀ pc i n, ck_cdAt kco_84 pc = some (i, n) → decode prog_7_method_6_code pc = .ok (i, n) := ck_cd_ok (List.forall_mem_cons.mpr ⟨kco_84_t0, (fun _ h => by cases h)⟩)
def kco_85_0 : List (Nat × Instr × Nat) := [(0, .aload_n 0, 1), (1, .invokespecial 3, 3), (4, .aload_n 0, 1), (5, .new 9, 3), (8, .dup, 1), (9, .invokespecial 11, 3), (12, .putfield 12, 3), (15, .aload_n 0, 1), (16, .new 9, 3), (19, .dup, 1), (20, .invokespecial 11, 3), (23, .putfield 18, 3), (26, .aload_n 0, 1), (27, .bipush (8), 2), (29, .anewarray 9, 3)]
theorem kco_85_t0 : kco_85_0.all (fun q => decide (decode prog_8_method_1_code q.1 = .ok q.2)) = true := by decide +kernel
def kco_85_1 : List (Nat × Instr × Nat) := [(32, .putfield 21, 3), (35, .aload_n 0, 1), (36, .bipush (8), 2), (38, .newarray .int, 2), (40, .putfield 25, 3), (43, .iconst (0), 1), (44, .istore_n 1, 1), (45, .iload_n 1, 1), (46, .bipush (8), 2), (48, .if_icmp .ge (22), 3), (51, .aload_n 0, 1), (52, .getfield 21, 3), (55, .iload_n 1, 1), (56, .new 9, 3), (59, .dup, 1), (60, .invokespecial 11, 3), (63, .aastore, 1)]
theorem kco_85_t1 : kco_85_1.all (fun q => decide (decode prog_8_method_1_code q.1 = .ok q.2)) = true := by decide +kernel
def kco_85_2 : List (Nat × Instr × Nat) := [(64, .iinc 1 (1), 3), (67, .goto (-22), 3), (70, .return_, 1)]
theorem kco_85_t2 : kco_85_2.all (fun q => decide (decode prog_8_method_1_code q.1 = .ok q.2)) = true := by decide +kernel
def kco_85 : List (List (Nat × Instr × Nat)) := [kco_85_0, kco_85_1, kco_85_2]
theorem kco_85_ok : ∀ pc i n, ck_cdAt kco_85 pc = some (i, n) → decode prog_8_method_1_code pc = .ok (i, n) := ck_cd_ok (List.forall_mem_cons.mpr ⟨kco_85_t0, (List.forall_mem_cons.mpr ⟨kco_85_t1, (List.forall_mem_cons.mpr ⟨kco_85_t2, (fun _ h => by cases h)⟩)⟩)⟩)
def kco_86_0 : List (Nat × Instr × Nat) := [(0, .iload_n 1, 1), (1, .aload_n 0, 1), (2, .getfield 29, 3), (5, .if_icmp .ge (17), 3), (8, .aload_n 0, 1), (9, .getfield 25, 3), (12, .iload_n 1, 1), (13, .iaload, 1), (14, .iconst (3), 1), (15, .if_icmp .eq (7), 3), (18, .iconst (1), 1), (19, .goto (4), 3), (22, .iconst (0), 1), (23, .ireturn, 1)]
theorem kco_86_t0 : kco_86_0.all (fun q => decide (decode prog_8_method_5_code q.1 = .ok q.2)) = true := by decide +kernel
def kco_86 : List (List (Nat × Instr × Nat)) := [kco_86_0]
theorem kco_86_ok : ∀ pc i n, ck_cdAt kco_86 pc = some (i, n) → decode prog_8_method_5_code pc = .ok (i, n) := ck_cd_ok (List.forall_mem_cons.mpr ⟨kco_86_t0, (fun _ h => by cases h)⟩)
def kco_87_0 : List (Nat × Instr × Nat) := [(0, .aload_n 0, 1), (1, .getfield 29, 3), (4, .bipush (8), 2), (6, .if_icmp .ge (23), 3), (9, .aload_n 0, 1), (10, .getfield 25, 3), (13, .aload_n 0, 1), (14, .getfield 29, 3), (17, .iconst (1), 1), (18, .iastore, 1), (19, .aload_n 0, 1), (20, .dup, 1), (21, .getfield 29, 3), (24, .iconst (1), 1), (25, .iadd, 1), (26, .putfield 29, 3), (29, .aload_n 0, 1), (30, .getfield 29, 3)]
theorem kco_87_t0 : kco_87_0.all (fun q => decide (decode prog_8_method_2_code q.1 = .ok q.2)) = true := by decide +kernel
def kco_87_1 : List (Nat × Instr × Nat) := [(33, .iconst (1), 1), (34, .isub, 1), (35, .ireturn, 1)]
theorem kco_87_t1 : kco_87_1.all (fun q => decide (decode prog_8_method_2_code q.1 = .ok q.2)) = true := by decide +kernel
def kco_87 : List (List (Nat × Instr × Nat)) := [kco_87_0, kco_87_1]
theorem kco_87_ok : ∀ pc i n, ck_cdAt kco_87 pc = some (i, n) → decode prog_8_method_2_code pc = .ok (i, n) := ck_cd_ok (List.forall_mem_cons.mpr ⟨kco_87_t0, (List.forall_mem_cons.mpr ⟨kco_87_t1, (fun _ h => by cases h)⟩)⟩)
def kco_88_0 : List (Nat × Instr × Nat) := [(0, .iconst (0), 1), (1, .istore_n 1, 1), (2, .iconst (0), 1), (3, .istore_n 2, 1), (4, .iload_n 2, 1), (5, .aload_n 0, 1), (6, .getfield 29, 3), (9, .if_icmp .ge (22), 3), (12, .aload_n 0, 1), (13, .getfield 25, 3), (16, .iload_n 2, 1), (17, .iaload, 1), (18, .iconst (1), 1), (19, .if_icmp .ne (6), 3), (22, .iinc 1 (1), 3), (25, .iinc 2 (1), 3), (28, .goto (-24), 3), (31, .iload_n 1, 1)]
theorem kco_88_t0 : kco_88_0.all (fun q => decide (decode prog_8_method_3_code q.1 = .ok q.2)) = true := by decide +kernel
def kco_88_1 : List (Nat × Instr × Nat) := [(32, .ireturn, 1)]
theorem kco_88_t1 : kco_88_1.all (fun q => decide (decode prog_8_method_3_code q.1 = .ok q.2)) = true := by decide +kernel
def kco_88 : List (List (Nat × Instr × Nat)) := [kco_88_0, kco_88_1]
theorem kco_88_ok : ∀ pc i n, ck_cdAt kco_88 pc = some (i, n) → decode prog_8_method_3_code pc = .ok (i, n) := ck_cd_ok (List.forall_mem_cons.mpr ⟨kco_88_t0, (List.forall_mem_cons.mpr ⟨kco_88_t1, (fun _ h => by cases h)⟩)⟩)
