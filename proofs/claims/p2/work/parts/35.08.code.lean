/-! ===== code, read ===== -/
def kco_76_0 : List (Nat × Instr × Nat) := [(0, .aload_n 0, 1), (1, .iload_n 1, 1), (2, .bipush (54), 2), (4, .invokevirtual 205, 3), (7, .iconst (0), 1), (8, .istore_n 3, 1), (9, .iload_n 3, 1), (10, .aload_n 0, 1), (11, .getfield 199, 3), (14, .if_icmp .ge (24), 3), (17, .aload_n 0, 1), (18, .getfield 13, 3), (21, .bipush (64), 2), (23, .iload_n 3, 1), (24, .iadd, 1), (25, .aload_n 0, 1), (26, .getfield 16, 3), (29, .iload_n 3, 1), (30, .iaload, 1), (31, .iastore, 1)]
theorem kco_76_t0 : kco_76_0.all (fun q => decide (decode prog_13_method_13_code q.1 = .ok q.2)) = true := by decide +kernel
def kco_76_1 : List (Nat × Instr × Nat) := [(32, .iinc 3 (1), 3), (35, .goto (-26), 3), (38, .aload_n 0, 1), (39, .bipush (64), 2), (41, .aload_n 0, 1), (42, .getfield 199, 3), (45, .iadd, 1), (46, .sipush (160), 3), (49, .invokevirtual 209, 3), (52, .aload_n 0, 1), (53, .iload_n 1, 1), (54, .bipush (92), 2), (56, .invokevirtual 205, 3), (59, .iconst (0), 1), (60, .istore_n 3, 1), (61, .iload_n 3, 1), (62, .bipush (32), 2)]
theorem kco_76_t1 : kco_76_1.all (fun q => decide (decode prog_13_method_13_code q.1 = .ok q.2)) = true := by decide +kernel
def kco_76_2 : List (Nat × Instr × Nat) := [(64, .if_icmp .ge (28), 3), (67, .aload_n 0, 1), (68, .getfield 13, 3), (71, .bipush (64), 2), (73, .iload_n 3, 1), (74, .iadd, 1), (75, .aload_n 0, 1), (76, .getfield 7, 3), (79, .sipush (160), 3), (82, .iload_n 3, 1), (83, .iadd, 1), (84, .iaload, 1), (85, .iastore, 1), (86, .iinc 3 (1), 3), (89, .goto (-28), 3), (92, .aload_n 0, 1), (93, .bipush (96), 2), (95, .iload_n 2, 1)]
theorem kco_76_t2 : kco_76_2.all (fun q => decide (decode prog_13_method_13_code q.1 = .ok q.2)) = true := by decide +kernel
def kco_76_3 : List (Nat × Instr × Nat) := [(96, .invokevirtual 209, 3), (99, .return_, 1)]
theorem kco_76_t3 : kco_76_3.all (fun q => decide (decode prog_13_method_13_code q.1 = .ok q.2)) = true := by decide +kernel
def kco_76 : List (List (Nat × Instr × Nat)) := [kco_76_0, kco_76_1, kco_76_2, kco_76_3]
theorem kco_76_ok : ∀ pc i n, ck_cdAt kco_76 pc = some (i, n) → decode prog_13_method_13_code pc = .ok (i, n) := ck_cd_ok (List.forall_mem_cons.mpr ⟨kco_76_t0, (List.forall_mem_cons.mpr ⟨kco_76_t1, (List.forall_mem_cons.mpr ⟨kco_76_t2, (List.forall_mem_cons.mpr ⟨kco_76_t3, (fun _ h => by cases h)⟩)⟩)⟩)⟩)
def kco_77_0 : List (Nat × Instr × Nat) := [(0, .aload_n 0, 1), (1, .iload_n 1, 1), (2, .iconst (4), 1), (3, .invokestatic 276, 3), (6, .ifCond .eq (23), 3), (9, .iload_n 2, 1), (10, .iconst (4), 1), (11, .invokestatic 276, 3), (14, .ifCond .eq (15), 3), (17, .iload_n 3, 1), (18, .iconst (4), 1), (19, .invokestatic 276, 3), (22, .ifCond .eq (7), 3), (25, .iconst (0), 1), (26, .goto (4), 3), (29, .iconst (1), 1), (30, .invokevirtual 280, 3)]
theorem kco_77_t0 : kco_77_0.all (fun q => decide (decode prog_13_method_35_code q.1 = .ok q.2)) = true := by decide +kernel
def kco_77_1 : List (Nat × Instr × Nat) := [(33, .ifCond .ne (37), 3), (36, .aload_n 0, 1), (37, .invokevirtual 215, 3), (40, .aload_n 0, 1), (41, .bipush (32), 2), (43, .iload_n 2, 1), (44, .imul, 1), (45, .invokevirtual 218, 3), (48, .aload_n 0, 1), (49, .bipush (32), 2), (51, .iload_n 1, 1), (52, .imul, 1), (53, .sipush (224), 3), (56, .invokevirtual 212, 3), (59, .aload_n 0, 1), (60, .sipush (224), 3), (63, .bipush (32), 2)]
theorem kco_77_t1 : kco_77_1.all (fun q => decide (decode prog_13_method_35_code q.1 = .ok q.2)) = true := by decide +kernel
def kco_77_2 : List (Nat × Instr × Nat) := [(65, .iload_n 3, 1), (66, .imul, 1), (67, .invokevirtual 288, 3), (70, .return_, 1)]
theorem kco_77_t2 : kco_77_2.all (fun q => decide (decode prog_13_method_35_code q.1 = .ok q.2)) = true := by decide +kernel
def kco_77 : List (List (Nat × Instr × Nat)) := [kco_77_0, kco_77_1, kco_77_2]
theorem kco_77_ok : ∀ pc i n, ck_cdAt kco_77 pc = some (i, n) → decode prog_13_method_35_code pc = .ok (i, n) := ck_cd_ok (List.forall_mem_cons.mpr ⟨kco_77_t0, (List.forall_mem_cons.mpr ⟨kco_77_t1, (List.forall_mem_cons.mpr ⟨kco_77_t2, (fun _ h => by cases h)⟩)⟩)⟩)
def kco_78_0 : List (Nat × Instr × Nat) := [(0, .iload_n 1, 1), (1, .sipush (129), 3), (4, .invokestatic 60, 3), (7, .iload_n 2, 1), (8, .iconst (4), 1), (9, .invokestatic 60, 3), (12, .aload_n 0, 1), (13, .getfield 42, 3), (16, .getfield 82, 3), (19, .invokevirtual 99, 3), (22, .iconst (0), 1), (23, .istore_n 3, 1), (24, .iload_n 3, 1), (25, .iload_n 1, 1), (26, .if_icmp .ge (33), 3), (29, .aload_n 0, 1), (30, .getfield 42, 3)]
theorem kco_78_t0 : kco_78_0.all (fun q => decide (decode prog_1_method_6_code q.1 = .ok q.2)) = true := by decide +kernel
def kco_78_1 : List (Nat × Instr × Nat) := [(33, .getfield 82, 3), (36, .aload_n 0, 1), (37, .getfield 11, 3), (40, .iload_n 3, 1), (41, .bipush (32), 2), (43, .idiv, 1), (44, .aaload, 1), (45, .iload_n 3, 1), (46, .bipush (32), 2), (48, .irem, 1), (49, .iaload, 1), (50, .invokevirtual 102, 3), (53, .iinc 3 (1), 3), (56, .goto (-32), 3), (59, .aload_n 0, 1), (60, .getfield 42, 3), (63, .getfield 82, 3)]
theorem kco_78_t1 : kco_78_1.all (fun q => decide (decode prog_1_method_6_code q.1 = .ok q.2)) = true := by decide +kernel
def kco_78_2 : List (Nat × Instr × Nat) := [(66, .aload_n 0, 1), (67, .getfield 11, 3), (70, .iload_n 2, 1), (71, .aaload, 1), (72, .invokevirtual 106, 3), (75, .return_, 1)]
theorem kco_78_t2 : kco_78_2.all (fun q => decide (decode prog_1_method_6_code q.1 = .ok q.2)) = true := by decide +kernel
def kco_78 : List (List (Nat × Instr × Nat)) := [kco_78_0, kco_78_1, kco_78_2]
theorem kco_78_ok : ∀ pc i n, ck_cdAt kco_78 pc = some (i, n) → decode prog_1_method_6_code pc = .ok (i, n) := ck_cd_ok (List.forall_mem_cons.mpr ⟨kco_78_t0, (List.forall_mem_cons.mpr ⟨kco_78_t1, (List.forall_mem_cons.mpr ⟨kco_78_t2, (fun _ h => by cases h)⟩)⟩)⟩)
def kco_79_0 : List (Nat × Instr × Nat) := [(0, .aload_n 0, 1), (1, .iload_n 1, 1), (2, .iload_n 2, 1), (3, .invokevirtual 26, 3), (6, .goto (6), 3), (9, .astore_n 3, 1), (10, .iconst (1), 1), (11, .ireturn, 1), (12, .iconst (0), 1), (13, .ireturn, 1)]
theorem kco_79_t0 : kco_79_0.all (fun q => decide (decode method_7_code q.1 = .ok q.2)) = true := by decide +kernel
def kco_79 : List (List (Nat × Instr × Nat)) := [kco_79_0]
theorem kco_79_ok : ∀ pc i n, ck_cdAt kco_79 pc = some (i, n) → decode method_7_code pc = .ok (i, n) := ck_cd_ok (List.forall_mem_cons.mpr ⟨kco_79_t0, (fun _ h => by cases h)⟩)
def kco_80_0 : List (Nat × Instr × Nat) := [(0, .aload_n 0, 1), (1, .iload_n 1, 1), (2, .sipush (129), 3), (5, .invokestatic 276, 3), (8, .ifCond .eq (15), 3), (11, .iload_n 2, 1), (12, .iconst (4), 1), (13, .invokestatic 276, 3), (16, .ifCond .eq (7), 3), (19, .iconst (0), 1), (20, .goto (4), 3), (23, .iconst (1), 1), (24, .invokevirtual 280, 3), (27, .ifCond .ne (37), 3), (30, .iconst (0), 1), (31, .istore_n 3, 1)]
theorem kco_80_t0 : kco_80_0.all (fun q => decide (decode prog_13_method_36_code q.1 = .ok q.2)) = true := by decide +kernel
def kco_80_1 : List (Nat × Instr × Nat) := [(32, .iload_n 3, 1), (33, .iload_n 1, 1), (34, .if_icmp .ge (21), 3), (37, .aload_n 0, 1), (38, .getfield 13, 3), (41, .iload_n 3, 1), (42, .aload_n 0, 1), (43, .getfield 7, 3), (46, .iload_n 3, 1), (47, .iaload, 1), (48, .iastore, 1), (49, .iinc 3 (1), 3), (52, .goto (-20), 3), (55, .aload_n 0, 1), (56, .iload_n 1, 1), (57, .bipush (32), 2), (59, .iload_n 2, 1), (60, .imul, 1), (61, .invokevirtual 209, 3)]
theorem kco_80_t1 : kco_80_1.all (fun q => decide (decode prog_13_method_36_code q.1 = .ok q.2)) = true := by decide +kernel
def kco_80_2 : List (Nat × Instr × Nat) := [(64, .return_, 1)]
theorem kco_80_t2 : kco_80_2.all (fun q => decide (decode prog_13_method_36_code q.1 = .ok q.2)) = true := by decide +kernel
def kco_80 : List (List (Nat × Instr × Nat)) := [kco_80_0, kco_80_1, kco_80_2]
theorem kco_80_ok : ∀ pc i n, ck_cdAt kco_80 pc = some (i, n) → decode prog_13_method_36_code pc = .ok (i, n) := ck_cd_ok (List.forall_mem_cons.mpr ⟨kco_80_t0, (List.forall_mem_cons.mpr ⟨kco_80_t1, (List.forall_mem_cons.mpr ⟨kco_80_t2, (fun _ h => by cases h)⟩)⟩)⟩)
def kco_81_0 : List (Nat × Instr × Nat) := [(0, .iload_n 0, 1), (1, .iload_n 1, 1), (2, .if_icmp .lt (14), 3), (5, .new 277, 3), (8, .dup, 1), (9, .ldc_w 279, 3), (12, .invokespecial 281, 3), (15, .athrow, 1), (16, .return_, 1)]
theorem kco_81_t0 : kco_81_0.all (fun q => decide (decode prog_1_method_24_code q.1 = .ok q.2)) = true := by decide +kernel
def kco_81 : List (List (Nat × Instr × Nat)) := [kco_81_0]
theorem kco_81_ok : ∀ pc i n, ck_cdAt kco_81 pc = some (i, n) → decode prog_1_method_24_code pc = .ok (i, n) := ck_cd_ok (List.forall_mem_cons.mpr ⟨kco_81_t0, (fun _ h => by cases h)⟩)
def kco_82_0 : List (Nat × Instr × Nat) := [(0, .aload_n 0, 1), (1, .getfield 29, 3), (4, .bipush (8), 2), (6, .if_icmp .ge (23), 3), (9, .aload_n 0, 1), (10, .getfield 25, 3), (13, .aload_n 0, 1), (14, .getfield 29, 3), (17, .iconst (1), 1), (18, .iastore, 1), (19, .aload_n 0, 1), (20, .dup, 1), (21, .getfield 29, 3), (24, .iconst (1), 1), (25, .iadd, 1), (26, .putfield 29, 3), (29, .aload_n 0, 1), (30, .getfield 29, 3)]
theorem kco_82_t0 : kco_82_0.all (fun q => decide (decode prog_8_method_2_code q.1 = .ok q.2)) = true := by decide +kernel
def kco_82_1 : List (Nat × Instr × Nat) := [(33, .iconst (1), 1), (34, .isub, 1), (35, .ireturn, 1)]
theorem kco_82_t1 : kco_82_1.all (fun q => decide (decode prog_8_method_2_code q.1 = .ok q.2)) = true := by decide +kernel
def kco_82 : List (List (Nat × Instr × Nat)) := [kco_82_0, kco_82_1]
theorem kco_82_ok : ∀ pc i n, ck_cdAt kco_82 pc = some (i, n) → decode prog_8_method_2_code pc = .ok (i, n) := ck_cd_ok (List.forall_mem_cons.mpr ⟨kco_82_t0, (List.forall_mem_cons.mpr ⟨kco_82_t1, (fun _ h => by cases h)⟩)⟩)
def kco_83_0 : List (Nat × Instr × Nat) := [(0, .iload_n 1, 1), (1, .iconst (4), 1), (2, .invokestatic 60, 3), (5, .aload_n 0, 1), (6, .getfield 16, 3), (9, .iload_n 1, 1), (10, .aaload, 1), (11, .astore_n 2, 1), (12, .aload_n 2, 1), (13, .getfield 109, 3), (16, .bipush (8), 2), (18, .invokestatic 112, 3), (21, .aload_n 0, 1), (22, .aload_n 2, 1), (23, .getfield 115, 3), (26, .aload_n 2, 1), (27, .getfield 109, 3), (30, .aaload, 1), (31, .invokevirtual 119, 3)]
theorem kco_83_t0 : kco_83_0.all (fun q => decide (decode prog_1_method_7_code q.1 = .ok q.2)) = true := by decide +kernel
def kco_83_1 : List (Nat × Instr × Nat) := [(34, .aload_n 2, 1), (35, .invokevirtual 123, 3), (38, .ireturn, 1)]
theorem kco_83_t1 : kco_83_1.all (fun q => decide (decode prog_1_method_7_code q.1 = .ok q.2)) = true := by decide +kernel
def kco_83 : List (List (Nat × Instr × Nat)) := [kco_83_0, kco_83_1]
theorem kco_83_ok : ∀ pc i n, ck_cdAt kco_83 pc = some (i, n) → decode prog_1_method_7_code pc = .ok (i, n) := ck_cd_ok (List.forall_mem_cons.mpr ⟨kco_83_t0, (List.forall_mem_cons.mpr ⟨kco_83_t1, (fun _ h => by cases h)⟩)⟩)
def kco_84_0 : List (Nat × Instr × Nat) := [(0, .aload_n 2, 1), (1, .iconst (0), 1), (2, .aload_n 0, 1), (3, .iload_n 1, 1), (4, .invokevirtual 30, 3), (7, .i2l, 1), (8, .lastore, 1), (9, .goto (9), 3), (12, .astore_n 3, 1), (13, .iconst (1), 1), (14, .ireturn, 1), (15, .astore_n 3, 1), (16, .iconst (2), 1), (17, .ireturn, 1), (18, .iconst (0), 1), (19, .ireturn, 1)]
theorem kco_84_t0 : kco_84_0.all (fun q => decide (decode method_8_code q.1 = .ok q.2)) = true := by decide +kernel
def kco_84 : List (List (Nat × Instr × Nat)) := [kco_84_0]
theorem kco_84_ok : ∀ pc i n, ck_cdAt kco_84 pc = some (i, n) → decode method_8_code pc = .ok (i, n) := ck_cd_ok (List.forall_mem_cons.mpr ⟨kco_84_t0, (fun _ h => by cases h)⟩)
def kco_85_0 : List (Nat × Instr × Nat) := [(0, .aload_n 0, 1), (1, .iload_n 1, 1), (2, .iconst (4), 1), (3, .invokestatic 276, 3), (6, .ifCond .ne (7), 3), (9, .iconst (1), 1), (10, .goto (19), 3), (13, .aload_n 0, 1), (14, .getfield 46, 3), (17, .iload_n 1, 1), (18, .iaload, 1), (19, .bipush (8), 2), (21, .if_icmp .ne (7), 3), (24, .iconst (2), 1), (25, .goto (4), 3), (28, .iconst (0), 1), (29, .invokevirtual 280, 3)]
theorem kco_85_t0 : kco_85_0.all (fun q => decide (decode prog_13_method_37_code q.1 = .ok q.2)) = true := by decide +kernel
def kco_85_1 : List (Nat × Instr × Nat) := [(32, .ifCond .eq (5), 3), (35, .iconst (0), 1), (36, .ireturn, 1), (37, .bipush (8), 2), (39, .iload_n 1, 1), (40, .imul, 1), (41, .aload_n 0, 1), (42, .getfield 46, 3), (45, .iload_n 1, 1), (46, .iaload, 1), (47, .iadd, 1), (48, .istore_n 2, 1), (49, .aload_n 0, 1), (50, .getfield 49, 3), (53, .iload_n 2, 1), (54, .aload_n 0, 1), (55, .getfield 38, 3), (58, .iastore, 1), (59, .aload_n 0, 1), (60, .getfield 52, 3), (63, .iload_n 2, 1)]
theorem kco_85_t1 : kco_85_1.all (fun q => decide (decode prog_13_method_37_code q.1 = .ok q.2)) = true := by decide +kernel
def kco_85_2 : List (Nat × Instr × Nat) := [(64, .iconst (1), 1), (65, .bastore, 1), (66, .aload_n 0, 1), (67, .getfield 55, 3), (70, .iload_n 2, 1), (71, .iconst (1), 1), (72, .bastore, 1), (73, .aload_n 0, 1), (74, .dup, 1), (75, .getfield 38, 3), (78, .iconst (1), 1), (79, .iadd, 1), (80, .putfield 38, 3), (83, .aload_n 0, 1), (84, .getfield 46, 3), (87, .iload_n 1, 1), (88, .dup2, 1), (89, .iaload, 1), (90, .iconst (1), 1), (91, .iadd, 1), (92, .iastore, 1), (93, .aload_n 0, 1), (94, .getfield 46, 3)]
theorem kco_85_t2 : kco_85_2.all (fun q => decide (decode prog_13_method_37_code q.1 = .ok q.2)) = true := by decide +kernel
def kco_85_3 : List (Nat × Instr × Nat) := [(97, .iload_n 1, 1), (98, .iaload, 1), (99, .iconst (1), 1), (100, .isub, 1), (101, .ireturn, 1)]
theorem kco_85_t3 : kco_85_3.all (fun q => decide (decode prog_13_method_37_code q.1 = .ok q.2)) = true := by decide +kernel
def kco_85 : List (List (Nat × Instr × Nat)) := [kco_85_0, kco_85_1, kco_85_2, kco_85_3]
theorem kco_85_ok : ∀ pc i n, ck_cdAt kco_85 pc = some (i, n) → decode prog_13_method_37_code pc = .ok (i, n) := ck_cd_ok (List.forall_mem_cons.mpr ⟨kco_85_t0, (List.forall_mem_cons.mpr ⟨kco_85_t1, (List.forall_mem_cons.mpr ⟨kco_85_t2, (List.forall_mem_cons.mpr ⟨kco_85_t3, (fun _ h => by cases h)⟩)⟩)⟩)⟩)
def kco_86_0 : List (Nat × Instr × Nat) := [(0, .iconst (0), 1), (1, .istore_n 1, 1), (2, .iconst (0), 1), (3, .istore_n 2, 1), (4, .iload_n 2, 1), (5, .aload_n 0, 1), (6, .getfield 29, 3), (9, .if_icmp .ge (22), 3), (12, .aload_n 0, 1), (13, .getfield 25, 3), (16, .iload_n 2, 1), (17, .iaload, 1), (18, .iconst (1), 1), (19, .if_icmp .ne (6), 3), (22, .iinc 1 (1), 3), (25, .iinc 2 (1), 3), (28, .goto (-24), 3), (31, .iload_n 1, 1)]
theorem kco_86_t0 : kco_86_0.all (fun q => decide (decode prog_8_method_3_code q.1 = .ok q.2)) = true := by decide +kernel
def kco_86_1 : List (Nat × Instr × Nat) := [(32, .ireturn, 1)]
theorem kco_86_t1 : kco_86_1.all (fun q => decide (decode prog_8_method_3_code q.1 = .ok q.2)) = true := by decide +kernel
def kco_86 : List (List (Nat × Instr × Nat)) := [kco_86_0, kco_86_1]
theorem kco_86_ok : ∀ pc i n, ck_cdAt kco_86 pc = some (i, n) → decode prog_8_method_3_code pc = .ok (i, n) := ck_cd_ok (List.forall_mem_cons.mpr ⟨kco_86_t0, (List.forall_mem_cons.mpr ⟨kco_86_t1, (fun _ h => by cases h)⟩)⟩)
def kco_87_0 : List (Nat × Instr × Nat) := [(0, .iload_n 1, 1), (1, .iconst (4), 1), (2, .invokestatic 60, 3), (5, .aload_n 0, 1), (6, .getfield 16, 3), (9, .iload_n 1, 1), (10, .aaload, 1), (11, .invokevirtual 127, 3), (14, .ireturn, 1)]
theorem kco_87_t0 : kco_87_0.all (fun q => decide (decode prog_1_method_8_code q.1 = .ok q.2)) = true := by decide +kernel
def kco_87 : List (List (Nat × Instr × Nat)) := [kco_87_0]
theorem kco_87_ok : ∀ pc i n, ck_cdAt kco_87 pc = some (i, n) → decode prog_1_method_8_code pc = .ok (i, n) := ck_cd_ok (List.forall_mem_cons.mpr ⟨kco_87_t0, (fun _ h => by cases h)⟩)
def kco_88_0 : List (Nat × Instr × Nat) := [(0, .aload_n 2, 1), (1, .iconst (0), 1), (2, .aload_n 0, 1), (3, .iload_n 1, 1), (4, .invokevirtual 36, 3), (7, .i2l, 1), (8, .lastore, 1), (9, .goto (6), 3), (12, .astore_n 3, 1), (13, .iconst (1), 1), (14, .ireturn, 1), (15, .iconst (0), 1), (16, .ireturn, 1)]
theorem kco_88_t0 : kco_88_0.all (fun q => decide (decode method_9_code q.1 = .ok q.2)) = true := by decide +kernel
def kco_88 : List (List (Nat × Instr × Nat)) := [kco_88_0]
theorem kco_88_ok : ∀ pc i n, ck_cdAt kco_88 pc = some (i, n) → decode method_9_code pc = .ok (i, n) := ck_cd_ok (List.forall_mem_cons.mpr ⟨kco_88_t0, (fun _ h => by cases h)⟩)
def kco_89_0 : List (Nat × Instr × Nat) := [(0, .aload_n 0, 1), (1, .iload_n 1, 1), (2, .iconst (4), 1), (3, .invokestatic 276, 3), (6, .ifCond .eq (7), 3), (9, .iconst (0), 1), (10, .goto (4), 3), (13, .iconst (1), 1), (14, .invokevirtual 280, 3), (17, .ifCond .eq (5), 3), (20, .iconst (0), 1), (21, .ireturn, 1), (22, .iconst (0), 1), (23, .istore_n 2, 1), (24, .iconst (0), 1), (25, .istore_n 3, 1), (26, .iload_n 3, 1), (27, .bipush (8), 2), (29, .if_icmp .ge (31), 3)]
theorem kco_89_t0 : kco_89_0.all (fun q => decide (decode prog_13_method_38_code q.1 = .ok q.2)) = true := by decide +kernel
def kco_89_1 : List (Nat × Instr × Nat) := [(32, .aload_n 0, 1), (33, .getfield 52, 3), (36, .bipush (8), 2), (38, .iload_n 1, 1), (39, .imul, 1), (40, .iload_n 3, 1), (41, .iadd, 1), (42, .baload, 1), (43, .ifCond .eq (9), 3), (46, .iload_n 2, 1), (47, .iconst (1), 1), (48, .iadd, 1), (49, .goto (4), 3), (52, .iload_n 2, 1), (53, .istore_n 2, 1), (54, .iinc 3 (1), 3), (57, .goto (-31), 3), (60, .iload_n 2, 1), (61, .ireturn, 1)]
theorem kco_89_t1 : kco_89_1.all (fun q => decide (decode prog_13_method_38_code q.1 = .ok q.2)) = true := by decide +kernel
def kco_89 : List (List (Nat × Instr × Nat)) := [kco_89_0, kco_89_1]
theorem kco_89_ok : ∀ pc i n, ck_cdAt kco_89 pc = some (i, n) → decode prog_13_method_38_code pc = .ok (i, n) := ck_cd_ok (List.forall_mem_cons.mpr ⟨kco_89_t0, (List.forall_mem_cons.mpr ⟨kco_89_t1, (fun _ h => by cases h)⟩)⟩)
def kco_90_0 : List (Nat × Instr × Nat) := [(0, .iconst (0), 1), (1, .istore_n 1, 1), (2, .iload_n 1, 1), (3, .aload_n 0, 1), (4, .getfield 29, 3), (7, .if_icmp .ge (28), 3), (10, .aload_n 0, 1), (11, .getfield 25, 3), (14, .iload_n 1, 1), (15, .iaload, 1), (16, .iconst (1), 1), (17, .if_icmp .ne (12), 3), (20, .aload_n 0, 1), (21, .getfield 25, 3), (24, .iload_n 1, 1), (25, .iconst (2), 1), (26, .iastore, 1), (27, .iload_n 1, 1), (28, .ireturn, 1), (29, .iinc 1 (1), 3)]
theorem kco_90_t0 : kco_90_0.all (fun q => decide (decode prog_8_method_4_code q.1 = .ok q.2)) = true := by decide +kernel
def kco_90_1 : List (Nat × Instr × Nat) := [(32, .goto (-30), 3), (35, .sipush (255), 3), (38, .ireturn, 1)]
theorem kco_90_t1 : kco_90_1.all (fun q => decide (decode prog_8_method_4_code q.1 = .ok q.2)) = true := by decide +kernel
def kco_90 : List (List (Nat × Instr × Nat)) := [kco_90_0, kco_90_1]
theorem kco_90_ok : ∀ pc i n, ck_cdAt kco_90 pc = some (i, n) → decode prog_8_method_4_code pc = .ok (i, n) := ck_cd_ok (List.forall_mem_cons.mpr ⟨kco_90_t0, (List.forall_mem_cons.mpr ⟨kco_90_t1, (fun _ h => by cases h)⟩)⟩)
def kco_91_0 : List (Nat × Instr × Nat) := [(0, .aload_n 0, 1), (1, .iconst (0), 1), (2, .putfield 15, 3), (5, .aload_n 0, 1), (6, .iconst (0), 1), (7, .putfield 19, 3), (10, .return_, 1)]
theorem kco_91_t0 : kco_91_0.all (fun q => decide (decode prog_2_method_2_code q.1 = .ok q.2)) = true := by decide +kernel
def kco_91 : List (List (Nat × Instr × Nat)) := [kco_91_0]
theorem kco_91_ok : ∀ pc i n, ck_cdAt kco_91 pc = some (i, n) → decode prog_2_method_2_code pc = .ok (i, n) := ck_cd_ok (List.forall_mem_cons.mpr ⟨kco_91_t0, (fun _ h => by cases h)⟩)
def kco_92_0 : List (Nat × Instr × Nat) := [(0, .aload_n 0, 1), (1, .iload_n 1, 1), (2, .putfield 50, 3), (5, .aload_n 0, 1), (6, .iload_n 2, 1), (7, .putfield 54, 3), (10, .aload_n 0, 1), (11, .getfield 31, 3), (14, .invokevirtual 57, 3), (17, .aload_n 0, 1), (18, .getfield 35, 3), (21, .invokevirtual 57, 3), (24, .aload_n 0, 1), (25, .iconst (0), 1), (26, .putfield 60, 3), (29, .aload_n 0, 1), (30, .getfield 41, 3)]
theorem kco_92_t0 : kco_92_0.all (fun q => decide (decode prog_4_method_2_code q.1 = .ok q.2)) = true := by decide +kernel
def kco_92_1 : List (Nat × Instr × Nat) := [(33, .iconst (0), 1), (34, .putfield 63, 3), (37, .aload_n 0, 1), (38, .iconst (0), 1), (39, .putfield 66, 3), (42, .aload_n 0, 1), (43, .iconst (0), 1), (44, .putfield 70, 3), (47, .aload_n 0, 1), (48, .lconst (0), 1), (49, .putfield 73, 3), (52, .return_, 1)]
theorem kco_92_t1 : kco_92_1.all (fun q => decide (decode prog_4_method_2_code q.1 = .ok q.2)) = true := by decide +kernel
def kco_92 : List (List (Nat × Instr × Nat)) := [kco_92_0, kco_92_1]
theorem kco_92_ok : ∀ pc i n, ck_cdAt kco_92 pc = some (i, n) → decode prog_4_method_2_code pc = .ok (i, n) := ck_cd_ok (List.forall_mem_cons.mpr ⟨kco_92_t0, (List.forall_mem_cons.mpr ⟨kco_92_t1, (fun _ h => by cases h)⟩)⟩)
def kco_93_0 : List (Nat × Instr × Nat) := [(0, .aload_n 0, 1), (1, .getfield 31, 3), (4, .ifCond .ne (24), 3), (7, .aload_n 1, 1), (8, .aload_n 0, 1), (9, .getfield 9, 3), (12, .aload_n 1, 1), (13, .getfield 39, 3), (16, .aload_n 0, 1), (17, .getfield 15, 3), (20, .invokevirtual 44, 3), (23, .aload_n 0, 1), (24, .iconst (1), 1), (25, .putfield 31, 3), (28, .aload_n 0, 1), (29, .getfield 15, 3)]
theorem kco_93_t0 : kco_93_0.all (fun q => decide (decode prog_10_method_4_code q.1 = .ok q.2)) = true := by decide +kernel
def kco_93_1 : List (Nat × Instr × Nat) := [(32, .areturn, 1)]
theorem kco_93_t1 : kco_93_1.all (fun q => decide (decode prog_10_method_4_code q.1 = .ok q.2)) = true := by decide +kernel
def kco_93 : List (List (Nat × Instr × Nat)) := [kco_93_0, kco_93_1]
theorem kco_93_ok : ∀ pc i n, ck_cdAt kco_93 pc = some (i, n) → decode prog_10_method_4_code pc = .ok (i, n) := ck_cd_ok (List.forall_mem_cons.mpr ⟨kco_93_t0, (List.forall_mem_cons.mpr ⟨kco_93_t1, (fun _ h => by cases h)⟩)⟩)
def kco_94_0 : List (Nat × Instr × Nat) := [(0, .aload_n 0, 1), (1, .getfield 16, 3), (4, .iload_n 1, 1), (5, .aaload, 1), (6, .getfield 282, 3), (9, .aload_n 0, 1), (10, .getfield 42, 3), (13, .getfield 72, 3), (16, .invokevirtual 156, 3), (19, .astore_n 3, 1), (20, .aload_n 0, 1), (21, .getfield 16, 3), (24, .iload_n 2, 1), (25, .aaload, 1), (26, .getfield 282, 3), (29, .aload_n 0, 1), (30, .getfield 42, 3)]
theorem kco_94_t0 : kco_94_0.all (fun q => decide (decode prog_1_method_27_code q.1 = .ok q.2)) = true := by decide +kernel
def kco_94_1 : List (Nat × Instr × Nat) := [(33, .getfield 72, 3), (36, .invokevirtual 156, 3), (39, .astore 4, 2), (41, .aload_n 3, 1), (42, .iconst (0), 1), (43, .aload_n 0, 1), (44, .getfield 47, 3), (47, .getfield 292, 3), (50, .iconst (0), 1), (51, .bipush (32), 2), (53, .invokestatic 295, 3), (56, .aload 4, 2), (58, .iconst (0), 1), (59, .aload_n 0, 1), (60, .getfield 47, 3), (63, .getfield 292, 3)]
theorem kco_94_t1 : kco_94_1.all (fun q => decide (decode prog_1_method_27_code q.1 = .ok q.2)) = true := by decide +kernel
def kco_94_2 : List (Nat × Instr × Nat) := [(66, .bipush (32), 2), (68, .bipush (32), 2), (70, .invokestatic 295, 3), (73, .return_, 1)]
theorem kco_94_t2 : kco_94_2.all (fun q => decide (decode prog_1_method_27_code q.1 = .ok q.2)) = true := by decide +kernel
def kco_94 : List (List (Nat × Instr × Nat)) := [kco_94_0, kco_94_1, kco_94_2]
theorem kco_94_ok : ∀ pc i n, ck_cdAt kco_94 pc = some (i, n) → decode prog_1_method_27_code pc = .ok (i, n) := ck_cd_ok (List.forall_mem_cons.mpr ⟨kco_94_t0, (List.forall_mem_cons.mpr ⟨kco_94_t1, (List.forall_mem_cons.mpr ⟨kco_94_t2, (fun _ h => by cases h)⟩)⟩)⟩)
def kco_95_0 : List (Nat × Instr × Nat) := [(0, .aload_n 0, 1), (1, .getfield 12, 3), (4, .aload_n 0, 1), (5, .getfield 12, 3), (8, .getfield 45, 3), (11, .invokevirtual 48, 3), (14, .iconst (0), 1), (15, .istore_n 1, 1), (16, .iload_n 1, 1), (17, .bipush (32), 2), (19, .if_icmp .ge (19), 3), (22, .aload_n 0, 1), (23, .getfield 12, 3), (26, .sipush (255), 3), (29, .invokevirtual 52, 3)]
theorem kco_95_t0 : kco_95_0.all (fun q => decide (decode prog_11_method_2_code q.1 = .ok q.2)) = true := by decide +kernel
def kco_95_1 : List (Nat × Instr × Nat) := [(32, .iinc 1 (1), 3), (35, .goto (-19), 3), (38, .return_, 1)]
theorem kco_95_t1 : kco_95_1.all (fun q => decide (decode prog_11_method_2_code q.1 = .ok q.2)) = true := by decide +kernel
def kco_95 : List (List (Nat × Instr × Nat)) := [kco_95_0, kco_95_1]
theorem kco_95_ok : ∀ pc i n, ck_cdAt kco_95 pc = some (i, n) → decode prog_11_method_2_code pc = .ok (i, n) := ck_cd_ok (List.forall_mem_cons.mpr ⟨kco_95_t0, (List.forall_mem_cons.mpr ⟨kco_95_t1, (fun _ h => by cases h)⟩)⟩)
def kco_96_0 : List (Nat × Instr × Nat) := [(0, .aload_n 0, 1), (1, .getfield 21, 3), (4, .aload_n 1, 1), (5, .aload_n 2, 1), (6, .aload_n 0, 1), (7, .getfield 39, 3), (10, .invokevirtual 56, 3), (13, .aload_n 0, 1), (14, .getfield 12, 3), (17, .aload_n 0, 1), (18, .getfield 39, 3), (21, .bipush (32), 2), (23, .invokevirtual 60, 3), (26, .return_, 1)]
theorem kco_96_t0 : kco_96_0.all (fun q => decide (decode prog_11_method_3_code q.1 = .ok q.2)) = true := by decide +kernel
def kco_96 : List (List (Nat × Instr × Nat)) := [kco_96_0]
theorem kco_96_ok : ∀ pc i n, ck_cdAt kco_96 pc = some (i, n) → decode prog_11_method_3_code pc = .ok (i, n) := ck_cd_ok (List.forall_mem_cons.mpr ⟨kco_96_t0, (fun _ h => by cases h)⟩)
def kco_97_0 : List (Nat × Instr × Nat) := [(0, .aload_n 0, 1), (1, .aload_n 0, 1), (2, .getfield 30, 3), (5, .invokevirtual 71, 3), (8, .aload_n 0, 1), (9, .aload_n 0, 1), (10, .getfield 30, 3), (13, .invokevirtual 74, 3), (16, .aload_n 0, 1), (17, .iload_n 1, 1), (18, .invokevirtual 37, 3), (21, .aload_n 0, 1), (22, .iconst (1), 1), (23, .invokevirtual 37, 3), (26, .aload_n 0, 1), (27, .aload_n 2, 1), (28, .invokevirtual 71, 3), (31, .aload_n 0, 1)]
theorem kco_97_t0 : kco_97_0.all (fun q => decide (decode prog_5_method_9_code q.1 = .ok q.2)) = true := by decide +kernel
def kco_97_1 : List (Nat × Instr × Nat) := [(32, .aload_n 0, 1), (33, .getfield 30, 3), (36, .invokevirtual 74, 3), (39, .aload_n 0, 1), (40, .aload_n 2, 1), (41, .bipush (32), 2), (43, .invokevirtual 67, 3), (46, .aload_n 0, 1), (47, .iload_n 1, 1), (48, .invokevirtual 37, 3), (51, .aload_n 0, 1), (52, .iconst (2), 1), (53, .invokevirtual 37, 3), (56, .aload_n 0, 1), (57, .aload_n 3, 1), (58, .invokevirtual 71, 3), (61, .return_, 1)]
theorem kco_97_t1 : kco_97_1.all (fun q => decide (decode prog_5_method_9_code q.1 = .ok q.2)) = true := by decide +kernel
def kco_97 : List (List (Nat × Instr × Nat)) := [kco_97_0, kco_97_1]
theorem kco_97_ok : ∀ pc i n, ck_cdAt kco_97 pc = some (i, n) → decode prog_5_method_9_code pc = .ok (i, n) := ck_cd_ok (List.forall_mem_cons.mpr ⟨kco_97_t0, (List.forall_mem_cons.mpr ⟨kco_97_t1, (fun _ h => by cases h)⟩)⟩)
def kco_98_0 : List (Nat × Instr × Nat) := [(0, .aload_n 0, 1), (1, .getfield 12, 3), (4, .bipush (88), 2), (6, .aload_n 1, 1), (7, .aload_n 0, 1), (8, .getfield 42, 3), (11, .invokevirtual 64, 3), (14, .return_, 1)]
theorem kco_98_t0 : kco_98_0.all (fun q => decide (decode prog_11_method_4_code q.1 = .ok q.2)) = true := by decide +kernel
def kco_98 : List (List (Nat × Instr × Nat)) := [kco_98_0]
theorem kco_98_ok : ∀ pc i n, ck_cdAt kco_98 pc = some (i, n) → decode prog_11_method_4_code pc = .ok (i, n) := ck_cd_ok (List.forall_mem_cons.mpr ⟨kco_98_t0, (fun _ h => by cases h)⟩)
