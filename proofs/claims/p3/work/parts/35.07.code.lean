/-! ===== code, read ===== -/
def kco_89_0 : List (Nat × Instr × Nat) := [(0, .iconst (0), 1), (1, .istore_n 1, 1), (2, .iload_n 1, 1), (3, .aload_n 0, 1), (4, .getfield 29, 3), (7, .if_icmp .ge (28), 3), (10, .aload_n 0, 1), (11, .getfield 25, 3), (14, .iload_n 1, 1), (15, .iaload, 1), (16, .iconst (1), 1), (17, .if_icmp .ne (12), 3), (20, .aload_n 0, 1), (21, .getfield 25, 3), (24, .iload_n 1, 1), (25, .iconst (2), 1), (26, .iastore, 1), (27, .iload_n 1, 1), (28, .ireturn, 1), (29, .iinc 1 (1), 3)]
theorem kco_89_t0 : kco_89_0.all (fun q => decide (decode prog_8_method_4_code q.1 = .ok q.2)) = true := by decide +kernel
def kco_89_1 : List (Nat × Instr × Nat) := [(32, .goto (-30), 3), (35, .sipush (255), 3), (38, .ireturn, 1)]
theorem kco_89_t1 : kco_89_1.all (fun q => decide (decode prog_8_method_4_code q.1 = .ok q.2)) = true := by decide +kernel
def kco_89 : List (List (Nat × Instr × Nat)) := [kco_89_0, kco_89_1]
theorem kco_89_ok : ∀ pc i n, ck_cdAt kco_89 pc = some (i, n) → decode prog_8_method_4_code pc = .ok (i, n) := ck_cd_ok (List.forall_mem_cons.mpr ⟨kco_89_t0, (List.forall_mem_cons.mpr ⟨kco_89_t1, (fun _ h => by cases h)⟩)⟩)
def kco_90_0 : List (Nat × Instr × Nat) := [(0, .iload_n 1, 1), (1, .aload_n 0, 1), (2, .getfield 29, 3), (5, .if_icmp .ge (10), 3), (8, .aload_n 0, 1), (9, .getfield 25, 3), (12, .iload_n 1, 1), (13, .iconst (3), 1), (14, .iastore, 1), (15, .return_, 1)]
theorem kco_90_t0 : kco_90_0.all (fun q => decide (decode prog_8_method_6_code q.1 = .ok q.2)) = true := by decide +kernel
def kco_90 : List (List (Nat × Instr × Nat)) := [kco_90_0]
theorem kco_90_ok : ∀ pc i n, ck_cdAt kco_90 pc = some (i, n) → decode prog_8_method_6_code pc = .ok (i, n) := ck_cd_ok (List.forall_mem_cons.mpr ⟨kco_90_t0, (fun _ h => by cases h)⟩)
def kco_91_0 : List (Nat × Instr × Nat) := [(0, .aload_n 0, 1), (1, .invokespecial 3, 3), (4, .aload_n 0, 1), (5, .bipush (32), 2), (7, .newarray .int, 2), (9, .putfield 9, 3), (12, .aload_n 0, 1), (13, .bipush (32), 2), (15, .newarray .int, 2), (17, .putfield 15, 3), (20, .aload_n 0, 1), (21, .bipush (32), 2), (23, .newarray .int, 2), (25, .putfield 18, 3), (28, .aload_n 0, 1), (29, .bipush (32), 2), (31, .newarray .int, 2)]
theorem kco_91_t0 : kco_91_0.all (fun q => decide (decode prog_9_method_1_code q.1 = .ok q.2)) = true := by decide +kernel
def kco_91_1 : List (Nat × Instr × Nat) := [(33, .putfield 21, 3), (36, .return_, 1)]
theorem kco_91_t1 : kco_91_1.all (fun q => decide (decode prog_9_method_1_code q.1 = .ok q.2)) = true := by decide +kernel
def kco_91 : List (List (Nat × Instr × Nat)) := [kco_91_0, kco_91_1]
theorem kco_91_ok : ∀ pc i n, ck_cdAt kco_91 pc = some (i, n) → decode prog_9_method_1_code pc = .ok (i, n) := ck_cd_ok (List.forall_mem_cons.mpr ⟨kco_91_t0, (List.forall_mem_cons.mpr ⟨kco_91_t1, (fun _ h => by cases h)⟩)⟩)
def kco_92_0 : List (Nat × Instr × Nat) := [(0, .bipush (34), 2), (2, .istore_n 2, 1), (3, .iload_n 2, 1), (4, .bipush (42), 2), (6, .if_icmp .ge (27), 3), (9, .aload_n 1, 1), (10, .getfield 41, 3), (13, .iload_n 2, 1), (14, .dup2, 1), (15, .iaload, 1), (16, .aload_n 0, 1), (17, .getfield 18, 3), (20, .iload_n 2, 1), (21, .bipush (34), 2), (23, .isub, 1), (24, .iaload, 1), (25, .ixor, 1), (26, .iastore, 1), (27, .iinc 2 (1), 3), (30, .goto (-27), 3)]
theorem kco_92_t0 : kco_92_0.all (fun q => decide (decode prog_9_method_4_code q.1 = .ok q.2)) = true := by decide +kernel
def kco_92_1 : List (Nat × Instr × Nat) := [(33, .return_, 1)]
theorem kco_92_t1 : kco_92_1.all (fun q => decide (decode prog_9_method_4_code q.1 = .ok q.2)) = true := by decide +kernel
def kco_92 : List (List (Nat × Instr × Nat)) := [kco_92_0, kco_92_1]
theorem kco_92_ok : ∀ pc i n, ck_cdAt kco_92 pc = some (i, n) → decode prog_9_method_4_code pc = .ok (i, n) := ck_cd_ok (List.forall_mem_cons.mpr ⟨kco_92_t0, (List.forall_mem_cons.mpr ⟨kco_92_t1, (fun _ h => by cases h)⟩)⟩)
def kco_93_0 : List (Nat × Instr × Nat) := [(0, .aload_n 1, 1), (1, .getfield 41, 3), (4, .bipush (42), 2), (6, .aload_n 0, 1), (7, .getfield 21, 3), (10, .bipush (8), 2), (12, .invokestatic 55, 3), (15, .ireturn, 1)]
theorem kco_93_t0 : kco_93_0.all (fun q => decide (decode prog_9_method_6_code q.1 = .ok q.2)) = true := by decide +kernel
def kco_93 : List (List (Nat × Instr × Nat)) := [kco_93_0]
theorem kco_93_ok : ∀ pc i n, ck_cdAt kco_93 pc = some (i, n) → decode prog_9_method_6_code pc = .ok (i, n) := ck_cd_ok (List.forall_mem_cons.mpr ⟨kco_93_t0, (fun _ h => by cases h)⟩)
def kco_94_0 : List (Nat × Instr × Nat) := [(0, .aload_n 0, 1), (1, .getfield 21, 3), (4, .iconst (0), 1), (5, .aload_n 1, 1), (6, .getfield 41, 3), (9, .bipush (42), 2), (11, .bipush (8), 2), (13, .invokestatic 49, 3), (16, .return_, 1)]
theorem kco_94_t0 : kco_94_0.all (fun q => decide (decode prog_9_method_5_code q.1 = .ok q.2)) = true := by decide +kernel
def kco_94 : List (List (Nat × Instr × Nat)) := [kco_94_0]
theorem kco_94_ok : ∀ pc i n, ck_cdAt kco_94 pc = some (i, n) → decode prog_9_method_5_code pc = .ok (i, n) := ck_cd_ok (List.forall_mem_cons.mpr ⟨kco_94_t0, (fun _ h => by cases h)⟩)
def kco_95_0 : List (Nat × Instr × Nat) := [(0, .aload_n 3, 1), (1, .aload_n 3, 1), (2, .getfield 24, 3), (5, .invokevirtual 29, 3), (8, .aload_n 3, 1), (9, .aload_n 1, 1), (10, .bipush (32), 2), (12, .invokevirtual 33, 3), (15, .aload_n 3, 1), (16, .bipush (77), 2), (18, .aload_n 0, 1), (19, .getfield 9, 3), (22, .aload_n 0, 1), (23, .getfield 15, 3), (26, .invokevirtual 37, 3), (29, .aload_n 3, 1), (30, .aload_n 0, 1), (31, .getfield 9, 3)]
theorem kco_95_t0 : kco_95_0.all (fun q => decide (decode prog_9_method_2_code q.1 = .ok q.2)) = true := by decide +kernel
def kco_95_1 : List (Nat × Instr × Nat) := [(34, .invokevirtual 29, 3), (37, .aload_n 3, 1), (38, .aload_n 2, 1), (39, .getfield 41, 3), (42, .bipush (34), 2), (44, .invokevirtual 33, 3), (47, .aload_n 3, 1), (48, .aload_n 0, 1), (49, .getfield 18, 3), (52, .invokevirtual 46, 3), (55, .return_, 1)]
theorem kco_95_t1 : kco_95_1.all (fun q => decide (decode prog_9_method_2_code q.1 = .ok q.2)) = true := by decide +kernel
def kco_95 : List (List (Nat × Instr × Nat)) := [kco_95_0, kco_95_1]
theorem kco_95_ok : ∀ pc i n, ck_cdAt kco_95 pc = some (i, n) → decode prog_9_method_2_code pc = .ok (i, n) := ck_cd_ok (List.forall_mem_cons.mpr ⟨kco_95_t0, (List.forall_mem_cons.mpr ⟨kco_95_t1, (fun _ h => by cases h)⟩)⟩)
def kco_96_0 : List (Nat × Instr × Nat) := [(0, .aload_n 3, 1), (1, .aload_n 0, 1), (2, .getfield 15, 3), (5, .invokevirtual 29, 3), (8, .aload_n 3, 1), (9, .aload_n 1, 1), (10, .bipush (64), 2), (12, .invokevirtual 33, 3), (15, .aload_n 3, 1), (16, .aload_n 2, 1), (17, .getfield 41, 3), (20, .bipush (42), 2), (22, .invokevirtual 33, 3), (25, .aload_n 3, 1), (26, .aload_n 0, 1), (27, .getfield 21, 3), (30, .invokevirtual 46, 3)]
theorem kco_96_t0 : kco_96_0.all (fun q => decide (decode prog_9_method_3_code q.1 = .ok q.2)) = true := by decide +kernel
def kco_96_1 : List (Nat × Instr × Nat) := [(33, .return_, 1)]
theorem kco_96_t1 : kco_96_1.all (fun q => decide (decode prog_9_method_3_code q.1 = .ok q.2)) = true := by decide +kernel
def kco_96 : List (List (Nat × Instr × Nat)) := [kco_96_0, kco_96_1]
theorem kco_96_ok : ∀ pc i n, ck_cdAt kco_96 pc = some (i, n) → decode prog_9_method_3_code pc = .ok (i, n) := ck_cd_ok (List.forall_mem_cons.mpr ⟨kco_96_t0, (List.forall_mem_cons.mpr ⟨kco_96_t1, (fun _ h => by cases h)⟩)⟩)
def kco_97_0 : List (Nat × Instr × Nat) := [(0, .aload_n 1, 1), (1, .getfield 41, 3), (4, .bipush (34), 2), (6, .invokestatic 59, 3), (9, .aload_n 0, 1), (10, .getfield 18, 3), (13, .iconst (0), 1), (14, .invokestatic 59, 3), (17, .lxor, 1), (18, .lreturn, 1)]
theorem kco_97_t0 : kco_97_0.all (fun q => decide (decode prog_9_method_7_code q.1 = .ok q.2)) = true := by decide +kernel
def kco_97 : List (List (Nat × Instr × Nat)) := [kco_97_0]
theorem kco_97_ok : ∀ pc i n, ck_cdAt kco_97 pc = some (i, n) → decode prog_9_method_7_code pc = .ok (i, n) := ck_cd_ok (List.forall_mem_cons.mpr ⟨kco_97_t0, (fun _ h => by cases h)⟩)
def kco_98_0 : List (Nat × Instr × Nat) := [(0, .aload_n 0, 1), (1, .invokespecial 3, 3), (4, .aload_n 0, 1), (5, .bipush (32), 2), (7, .newarray .int, 2), (9, .putfield 9, 3), (12, .aload_n 0, 1), (13, .bipush (32), 2), (15, .newarray .int, 2), (17, .putfield 15, 3), (20, .return_, 1)]
theorem kco_98_t0 : kco_98_0.all (fun q => decide (decode prog_10_method_1_code q.1 = .ok q.2)) = true := by decide +kernel
def kco_98 : List (List (Nat × Instr × Nat)) := [kco_98_0]
theorem kco_98_ok : ∀ pc i n, ck_cdAt kco_98 pc = some (i, n) → decode prog_10_method_1_code pc = .ok (i, n) := ck_cd_ok (List.forall_mem_cons.mpr ⟨kco_98_t0, (fun _ h => by cases h)⟩)
def kco_99_0 : List (Nat × Instr × Nat) := [(0, .aload_n 1, 1), (1, .getfield 9, 3), (4, .aload_n 0, 1), (5, .getfield 9, 3), (8, .invokestatic 35, 3), (11, .aload_n 1, 1), (12, .getfield 15, 3), (15, .aload_n 0, 1), (16, .getfield 15, 3), (19, .invokestatic 35, 3), (22, .aload_n 0, 1), (23, .aload_n 1, 1), (24, .getfield 31, 3), (27, .putfield 31, 3), (30, .return_, 1)]
theorem kco_99_t0 : kco_99_0.all (fun q => decide (decode prog_10_method_3_code q.1 = .ok q.2)) = true := by decide +kernel
def kco_99 : List (List (Nat × Instr × Nat)) := [kco_99_0]
theorem kco_99_ok : ∀ pc i n, ck_cdAt kco_99 pc = some (i, n) → decode prog_10_method_3_code pc = .ok (i, n) := ck_cd_ok (List.forall_mem_cons.mpr ⟨kco_99_t0, (fun _ h => by cases h)⟩)
def kco_100_0 : List (Nat × Instr × Nat) := [(0, .aload_n 3, 1), (1, .invokevirtual 18, 3), (4, .aload_n 3, 1), (5, .iload_n 1, 1), (6, .invokevirtual 23, 3), (9, .aload_n 3, 1), (10, .iload_n 2, 1), (11, .invokevirtual 23, 3), (14, .aload_n 3, 1), (15, .aload_n 0, 1), (16, .getfield 9, 3), (19, .invokevirtual 27, 3), (22, .aload_n 0, 1), (23, .iconst (0), 1), (24, .putfield 31, 3), (27, .return_, 1)]
theorem kco_100_t0 : kco_100_0.all (fun q => decide (decode prog_10_method_2_code q.1 = .ok q.2)) = true := by decide +kernel
def kco_100 : List (List (Nat × Instr × Nat)) := [kco_100_0]
theorem kco_100_ok : ∀ pc i n, ck_cdAt kco_100 pc = some (i, n) → decode prog_10_method_2_code pc = .ok (i, n) := ck_cd_ok (List.forall_mem_cons.mpr ⟨kco_100_t0, (fun _ h => by cases h)⟩)
def kco_101_0 : List (Nat × Instr × Nat) := [(0, .aload_n 0, 1), (1, .getfield 31, 3), (4, .ifCond .ne (24), 3), (7, .aload_n 1, 1), (8, .aload_n 0, 1), (9, .getfield 9, 3), (12, .aload_n 1, 1), (13, .getfield 39, 3), (16, .aload_n 0, 1), (17, .getfield 15, 3), (20, .invokevirtual 44, 3), (23, .aload_n 0, 1), (24, .iconst (1), 1), (25, .putfield 31, 3), (28, .aload_n 0, 1), (29, .getfield 15, 3)]
theorem kco_101_t0 : kco_101_0.all (fun q => decide (decode prog_10_method_4_code q.1 = .ok q.2)) = true := by decide +kernel
def kco_101_1 : List (Nat × Instr × Nat) := [(32, .areturn, 1)]
theorem kco_101_t1 : kco_101_1.all (fun q => decide (decode prog_10_method_4_code q.1 = .ok q.2)) = true := by decide +kernel
def kco_101 : List (List (Nat × Instr × Nat)) := [kco_101_0, kco_101_1]
theorem kco_101_ok : ∀ pc i n, ck_cdAt kco_101 pc = some (i, n) → decode prog_10_method_4_code pc = .ok (i, n) := ck_cd_ok (List.forall_mem_cons.mpr ⟨kco_101_t0, (List.forall_mem_cons.mpr ⟨kco_101_t1, (fun _ h => by cases h)⟩)⟩)
def kco_102_0 : List (Nat × Instr × Nat) := [(0, .aload_n 0, 1), (1, .invokespecial 3, 3), (4, .aload_n 0, 1), (5, .new 9, 3), (8, .dup, 1), (9, .invokespecial 11, 3), (12, .putfield 12, 3), (15, .aload_n 0, 1), (16, .new 18, 3), (19, .dup, 1), (20, .invokespecial 20, 3), (23, .putfield 21, 3), (26, .aload_n 0, 1), (27, .new 25, 3), (30, .dup, 1), (31, .invokespecial 27, 3)]
theorem kco_102_t0 : kco_102_0.all (fun q => decide (decode prog_11_method_1_code q.1 = .ok q.2)) = true := by decide +kernel
def kco_102_1 : List (Nat × Instr × Nat) := [(34, .putfield 28, 3), (37, .aload_n 0, 1), (38, .bipush (32), 2), (40, .newarray .int, 2), (42, .putfield 32, 3), (45, .aload_n 0, 1), (46, .bipush (32), 2), (48, .newarray .int, 2), (50, .putfield 36, 3), (53, .aload_n 0, 1), (54, .bipush (32), 2), (56, .newarray .int, 2), (58, .putfield 39, 3), (61, .aload_n 0, 1), (62, .bipush (32), 2)]
theorem kco_102_t1 : kco_102_1.all (fun q => decide (decode prog_11_method_1_code q.1 = .ok q.2)) = true := by decide +kernel
def kco_102_2 : List (Nat × Instr × Nat) := [(64, .newarray .int, 2), (66, .putfield 42, 3), (69, .return_, 1)]
theorem kco_102_t2 : kco_102_2.all (fun q => decide (decode prog_11_method_1_code q.1 = .ok q.2)) = true := by decide +kernel
def kco_102 : List (List (Nat × Instr × Nat)) := [kco_102_0, kco_102_1, kco_102_2]
theorem kco_102_ok : ∀ pc i n, ck_cdAt kco_102 pc = some (i, n) → decode prog_11_method_1_code pc = .ok (i, n) := ck_cd_ok (List.forall_mem_cons.mpr ⟨kco_102_t0, (List.forall_mem_cons.mpr ⟨kco_102_t1, (List.forall_mem_cons.mpr ⟨kco_102_t2, (fun _ h => by cases h)⟩)⟩)⟩)
def kco_103_0 : List (Nat × Instr × Nat) := [(0, .aload_n 0, 1), (1, .getfield 21, 3), (4, .aload_n 1, 1), (5, .aload_n 2, 1), (6, .aload_n 0, 1), (7, .getfield 39, 3), (10, .invokevirtual 56, 3), (13, .aload_n 0, 1), (14, .getfield 12, 3), (17, .aload_n 0, 1), (18, .getfield 39, 3), (21, .bipush (32), 2), (23, .invokevirtual 60, 3), (26, .return_, 1)]
theorem kco_103_t0 : kco_103_0.all (fun q => decide (decode prog_11_method_3_code q.1 = .ok q.2)) = true := by decide +kernel
def kco_103 : List (List (Nat × Instr × Nat)) := [kco_103_0]
theorem kco_103_ok : ∀ pc i n, ck_cdAt kco_103 pc = some (i, n) → decode prog_11_method_3_code pc = .ok (i, n) := ck_cd_ok (List.forall_mem_cons.mpr ⟨kco_103_t0, (fun _ h => by cases h)⟩)
def kco_104_0 : List (Nat × Instr × Nat) := [(0, .aload_n 0, 1), (1, .getfield 12, 3), (4, .bipush (88), 2), (6, .aload_n 1, 1), (7, .aload_n 0, 1), (8, .getfield 42, 3), (11, .invokevirtual 64, 3), (14, .return_, 1)]
theorem kco_104_t0 : kco_104_0.all (fun q => decide (decode prog_11_method_4_code q.1 = .ok q.2)) = true := by decide +kernel
def kco_104 : List (List (Nat × Instr × Nat)) := [kco_104_0]
theorem kco_104_ok : ∀ pc i n, ck_cdAt kco_104 pc = some (i, n) → decode prog_11_method_4_code pc = .ok (i, n) := ck_cd_ok (List.forall_mem_cons.mpr ⟨kco_104_t0, (fun _ h => by cases h)⟩)
def kco_105_0 : List (Nat × Instr × Nat) := [(0, .aload_n 0, 1), (1, .getfield 12, 3), (4, .aload_n 0, 1), (5, .getfield 12, 3), (8, .getfield 45, 3), (11, .invokevirtual 48, 3), (14, .iconst (0), 1), (15, .istore_n 1, 1), (16, .iload_n 1, 1), (17, .bipush (32), 2), (19, .if_icmp .ge (19), 3), (22, .aload_n 0, 1), (23, .getfield 12, 3), (26, .sipush (255), 3), (29, .invokevirtual 52, 3)]
theorem kco_105_t0 : kco_105_0.all (fun q => decide (decode prog_11_method_2_code q.1 = .ok q.2)) = true := by decide +kernel
def kco_105_1 : List (Nat × Instr × Nat) := [(32, .iinc 1 (1), 3), (35, .goto (-19), 3), (38, .return_, 1)]
theorem kco_105_t1 : kco_105_1.all (fun q => decide (decode prog_11_method_2_code q.1 = .ok q.2)) = true := by decide +kernel
def kco_105 : List (List (Nat × Instr × Nat)) := [kco_105_0, kco_105_1]
theorem kco_105_ok : ∀ pc i n, ck_cdAt kco_105 pc = some (i, n) → decode prog_11_method_2_code pc = .ok (i, n) := ck_cd_ok (List.forall_mem_cons.mpr ⟨kco_105_t0, (List.forall_mem_cons.mpr ⟨kco_105_t1, (fun _ h => by cases h)⟩)⟩)
def kco_106_0 : List (Nat × Instr × Nat) := [(0, .aload_n 0, 1), (1, .iload_n 1, 1), (2, .iload_n 2, 1), (3, .iload_n 3, 1), (4, .invokevirtual 19, 3), (7, .goto (7), 3), (10, .astore 4, 2), (12, .iconst (1), 1), (13, .ireturn, 1), (14, .iconst (0), 1), (15, .ireturn, 1)]
theorem kco_106_t0 : kco_106_0.all (fun q => decide (decode method_5_code q.1 = .ok q.2)) = true := by decide +kernel
def kco_106 : List (List (Nat × Instr × Nat)) := [kco_106_0]
theorem kco_106_ok : ∀ pc i n, ck_cdAt kco_106 pc = some (i, n) → decode method_5_code pc = .ok (i, n) := ck_cd_ok (List.forall_mem_cons.mpr ⟨kco_106_t0, (fun _ h => by cases h)⟩)
def kco_107_0 : List (Nat × Instr × Nat) := [(0, .aload_n 3, 1), (1, .iconst (0), 1), (2, .aload_n 0, 1), (3, .iload_n 1, 1), (4, .iload_n 2, 1), (5, .invokevirtual 53, 3), (8, .i2l, 1), (9, .lastore, 1), (10, .goto (11), 3), (13, .astore 4, 2), (15, .iconst (1), 1), (16, .ireturn, 1), (17, .astore 4, 2), (19, .iconst (2), 1), (20, .ireturn, 1), (21, .iconst (0), 1), (22, .ireturn, 1)]
theorem kco_107_t0 : kco_107_0.all (fun q => decide (decode method_13_code q.1 = .ok q.2)) = true := by decide +kernel
def kco_107 : List (List (Nat × Instr × Nat)) := [kco_107_0]
theorem kco_107_ok : ∀ pc i n, ck_cdAt kco_107 pc = some (i, n) → decode method_13_code pc = .ok (i, n) := ck_cd_ok (List.forall_mem_cons.mpr ⟨kco_107_t0, (fun _ h => by cases h)⟩)
def kco_108_0 : List (Nat × Instr × Nat) := [(0, .aload_n 3, 1), (1, .iconst (0), 1), (2, .aload_n 0, 1), (3, .iload_n 1, 1), (4, .iload_n 2, 1), (5, .invokevirtual 39, 3), (8, .i2l, 1), (9, .lastore, 1), (10, .goto (15), 3), (13, .astore 4, 2), (15, .iconst (1), 1), (16, .ireturn, 1), (17, .astore 4, 2), (19, .iconst (2), 1), (20, .ireturn, 1), (21, .astore 4, 2), (23, .iconst (3), 1), (24, .ireturn, 1), (25, .iconst (0), 1), (26, .ireturn, 1)]
theorem kco_108_t0 : kco_108_0.all (fun q => decide (decode method_10_code q.1 = .ok q.2)) = true := by decide +kernel
def kco_108 : List (List (Nat × Instr × Nat)) := [kco_108_0]
theorem kco_108_ok : ∀ pc i n, ck_cdAt kco_108 pc = some (i, n) → decode method_10_code pc = .ok (i, n) := ck_cd_ok (List.forall_mem_cons.mpr ⟨kco_108_t0, (fun _ h => by cases h)⟩)
def kco_109_0 : List (Nat × Instr × Nat) := [(0, .iload_n 1, 1), (1, .aload_n 0, 1), (2, .arraylength, 1), (3, .if_icmp .ge (9), 3), (6, .aload_n 0, 1), (7, .iload_n 1, 1), (8, .iaload, 1), (9, .goto (4), 3), (12, .iconst (0), 1), (13, .ireturn, 1)]
theorem kco_109_t0 : kco_109_0.all (fun q => decide (decode method_2_code q.1 = .ok q.2)) = true := by decide +kernel
def kco_109 : List (List (Nat × Instr × Nat)) := [kco_109_0]
theorem kco_109_ok : ∀ pc i n, ck_cdAt kco_109 pc = some (i, n) → decode method_2_code pc = .ok (i, n) := ck_cd_ok (List.forall_mem_cons.mpr ⟨kco_109_t0, (fun _ h => by cases h)⟩)
def kco_110_0 : List (Nat × Instr × Nat) := [(0, .aload_n 3, 1), (1, .iconst (0), 1), (2, .aload_n 0, 1), (3, .iload_n 1, 1), (4, .iload_n 2, 1), (5, .invokevirtual 73, 3), (8, .i2l, 1), (9, .lastore, 1), (10, .goto (7), 3), (13, .astore 4, 2), (15, .iconst (1), 1), (16, .ireturn, 1), (17, .iconst (0), 1), (18, .ireturn, 1)]
theorem kco_110_t0 : kco_110_0.all (fun q => decide (decode method_19_code q.1 = .ok q.2)) = true := by decide +kernel
def kco_110 : List (List (Nat × Instr × Nat)) := [kco_110_0]
theorem kco_110_ok : ∀ pc i n, ck_cdAt kco_110 pc = some (i, n) → decode method_19_code pc = .ok (i, n) := ck_cd_ok (List.forall_mem_cons.mpr ⟨kco_110_t0, (fun _ h => by cases h)⟩)
def kco_111_0 : List (Nat × Instr × Nat) := [(0, .aload_n 0, 1), (1, .iload_n 1, 1), (2, .iload_n 2, 1), (3, .invokevirtual 26, 3), (6, .goto (6), 3), (9, .astore_n 3, 1), (10, .iconst (1), 1), (11, .ireturn, 1), (12, .iconst (0), 1), (13, .ireturn, 1)]
theorem kco_111_t0 : kco_111_0.all (fun q => decide (decode method_7_code q.1 = .ok q.2)) = true := by decide +kernel
def kco_111 : List (List (Nat × Instr × Nat)) := [kco_111_0]
theorem kco_111_ok : ∀ pc i n, ck_cdAt kco_111 pc = some (i, n) → decode method_7_code pc = .ok (i, n) := ck_cd_ok (List.forall_mem_cons.mpr ⟨kco_111_t0, (fun _ h => by cases h)⟩)
def kco_112_0 : List (Nat × Instr × Nat) := [(0, .aload 4, 2), (2, .iconst (0), 1), (3, .aload_n 0, 1), (4, .iload_n 1, 1), (5, .iload_n 2, 1), (6, .iload_n 3, 1), (7, .invokevirtual 49, 3), (10, .i2l, 1), (11, .lastore, 1), (12, .goto (15), 3), (15, .astore 5, 2), (17, .iconst (1), 1), (18, .ireturn, 1), (19, .astore 5, 2), (21, .iconst (2), 1), (22, .ireturn, 1), (23, .astore 5, 2), (25, .iconst (3), 1), (26, .ireturn, 1), (27, .iconst (0), 1), (28, .ireturn, 1)]
theorem kco_112_t0 : kco_112_0.all (fun q => decide (decode method_12_code q.1 = .ok q.2)) = true := by decide +kernel
def kco_112 : List (List (Nat × Instr × Nat)) := [kco_112_0]
theorem kco_112_ok : ∀ pc i n, ck_cdAt kco_112 pc = some (i, n) → decode method_12_code pc = .ok (i, n) := ck_cd_ok (List.forall_mem_cons.mpr ⟨kco_112_t0, (fun _ h => by cases h)⟩)
def kco_113_0 : List (Nat × Instr × Nat) := [(0, .aload_n 3, 1), (1, .iconst (0), 1), (2, .aload_n 0, 1), (3, .iload_n 1, 1), (4, .iload_n 2, 1), (5, .invokevirtual 15, 3), (8, .lastore, 1), (9, .goto (7), 3), (12, .astore 4, 2), (14, .iconst (1), 1), (15, .ireturn, 1), (16, .iconst (0), 1), (17, .ireturn, 1)]
theorem kco_113_t0 : kco_113_0.all (fun q => decide (decode method_4_code q.1 = .ok q.2)) = true := by decide +kernel
def kco_113 : List (List (Nat × Instr × Nat)) := [kco_113_0]
theorem kco_113_ok : ∀ pc i n, ck_cdAt kco_113 pc = some (i, n) → decode method_4_code pc = .ok (i, n) := ck_cd_ok (List.forall_mem_cons.mpr ⟨kco_113_t0, (fun _ h => by cases h)⟩)
def kco_114_0 : List (Nat × Instr × Nat) := [(0, .aload_n 3, 1), (1, .iconst (0), 1), (2, .aload_n 0, 1), (3, .iload_n 1, 1), (4, .iload_n 2, 1), (5, .invokevirtual 76, 3), (8, .ifCond .eq (7), 3), (11, .lconst (1), 1), (12, .goto (4), 3), (15, .lconst (0), 1), (16, .lastore, 1), (17, .goto (7), 3), (20, .astore 4, 2), (22, .iconst (1), 1), (23, .ireturn, 1), (24, .iconst (0), 1), (25, .ireturn, 1)]
theorem kco_114_t0 : kco_114_0.all (fun q => decide (decode method_20_code q.1 = .ok q.2)) = true := by decide +kernel
def kco_114 : List (List (Nat × Instr × Nat)) := [kco_114_0]
theorem kco_114_ok : ∀ pc i n, ck_cdAt kco_114 pc = some (i, n) → decode method_20_code pc = .ok (i, n) := ck_cd_ok (List.forall_mem_cons.mpr ⟨kco_114_t0, (fun _ h => by cases h)⟩)
def kco_115_0 : List (Nat × Instr × Nat) := [(0, .aload_n 2, 1), (1, .iconst (0), 1), (2, .aload_n 0, 1), (3, .iload_n 1, 1), (4, .invokevirtual 67, 3), (7, .i2l, 1), (8, .lastore, 1), (9, .goto (6), 3), (12, .astore_n 3, 1), (13, .iconst (1), 1), (14, .ireturn, 1), (15, .iconst (0), 1), (16, .ireturn, 1)]
theorem kco_115_t0 : kco_115_0.all (fun q => decide (decode method_17_code q.1 = .ok q.2)) = true := by decide +kernel
def kco_115 : List (List (Nat × Instr × Nat)) := [kco_115_0]
theorem kco_115_ok : ∀ pc i n, ck_cdAt kco_115 pc = some (i, n) → decode method_17_code pc = .ok (i, n) := ck_cd_ok (List.forall_mem_cons.mpr ⟨kco_115_t0, (fun _ h => by cases h)⟩)
def kco_116_0 : List (Nat × Instr × Nat) := [(0, .aload_n 0, 1), (1, .iload_n 1, 1), (2, .iload_n 2, 1), (3, .iload_n 3, 1), (4, .invokevirtual 23, 3), (7, .goto (7), 3), (10, .astore 4, 2), (12, .iconst (1), 1), (13, .ireturn, 1), (14, .iconst (0), 1), (15, .ireturn, 1)]
theorem kco_116_t0 : kco_116_0.all (fun q => decide (decode method_6_code q.1 = .ok q.2)) = true := by decide +kernel
def kco_116 : List (List (Nat × Instr × Nat)) := [kco_116_0]
theorem kco_116_ok : ∀ pc i n, ck_cdAt kco_116 pc = some (i, n) → decode method_6_code pc = .ok (i, n) := ck_cd_ok (List.forall_mem_cons.mpr ⟨kco_116_t0, (fun _ h => by cases h)⟩)
def kco_117_0 : List (Nat × Instr × Nat) := [(0, .aload_n 2, 1), (1, .iconst (0), 1), (2, .aload_n 0, 1), (3, .iload_n 1, 1), (4, .invokevirtual 36, 3), (7, .i2l, 1), (8, .lastore, 1), (9, .goto (6), 3), (12, .astore_n 3, 1), (13, .iconst (1), 1), (14, .ireturn, 1), (15, .iconst (0), 1), (16, .ireturn, 1)]
theorem kco_117_t0 : kco_117_0.all (fun q => decide (decode method_9_code q.1 = .ok q.2)) = true := by decide +kernel
def kco_117 : List (List (Nat × Instr × Nat)) := [kco_117_0]
theorem kco_117_ok : ∀ pc i n, ck_cdAt kco_117 pc = some (i, n) → decode method_9_code pc = .ok (i, n) := ck_cd_ok (List.forall_mem_cons.mpr ⟨kco_117_t0, (fun _ h => by cases h)⟩)
def kco_118_0 : List (Nat × Instr × Nat) := [(0, .aload_n 3, 1), (1, .iconst (0), 1), (2, .aload_n 0, 1), (3, .iload_n 1, 1), (4, .iload_n 2, 1), (5, .invokevirtual 56, 3), (8, .i2l, 1), (9, .lastore, 1), (10, .goto (7), 3), (13, .astore 4, 2), (15, .iconst (1), 1), (16, .ireturn, 1), (17, .iconst (0), 1), (18, .ireturn, 1)]
theorem kco_118_t0 : kco_118_0.all (fun q => decide (decode method_14_code q.1 = .ok q.2)) = true := by decide +kernel
def kco_118 : List (List (Nat × Instr × Nat)) := [kco_118_0]
theorem kco_118_ok : ∀ pc i n, ck_cdAt kco_118 pc = some (i, n) → decode method_14_code pc = .ok (i, n) := ck_cd_ok (List.forall_mem_cons.mpr ⟨kco_118_t0, (fun _ h => by cases h)⟩)
def kco_119_0 : List (Nat × Instr × Nat) := [(0, .aload_n 3, 1), (1, .iconst (0), 1), (2, .aload_n 0, 1), (3, .iload_n 1, 1), (4, .iload_n 2, 1), (5, .invokevirtual 63, 3), (8, .i2l, 1), (9, .lastore, 1), (10, .goto (7), 3), (13, .astore 4, 2), (15, .iconst (1), 1), (16, .ireturn, 1), (17, .iconst (0), 1), (18, .ireturn, 1)]
theorem kco_119_t0 : kco_119_0.all (fun q => decide (decode method_16_code q.1 = .ok q.2)) = true := by decide +kernel
def kco_119 : List (List (Nat × Instr × Nat)) := [kco_119_0]
theorem kco_119_ok : ∀ pc i n, ck_cdAt kco_119 pc = some (i, n) → decode method_16_code pc = .ok (i, n) := ck_cd_ok (List.forall_mem_cons.mpr ⟨kco_119_t0, (fun _ h => by cases h)⟩)
def kco_120_0 : List (Nat × Instr × Nat) := [(0, .aload_n 0, 1), (1, .iload_n 1, 1), (2, .iload_n 2, 1), (3, .lload_n 3, 1), (4, .invokevirtual 7, 3), (7, .goto (7), 3), (10, .astore 5, 2), (12, .iconst (1), 1), (13, .ireturn, 1), (14, .iconst (0), 1), (15, .ireturn, 1)]
theorem kco_120_t0 : kco_120_0.all (fun q => decide (decode method_3_code q.1 = .ok q.2)) = true := by decide +kernel
def kco_120 : List (List (Nat × Instr × Nat)) := [kco_120_0]
theorem kco_120_ok : ∀ pc i n, ck_cdAt kco_120 pc = some (i, n) → decode method_3_code pc = .ok (i, n) := ck_cd_ok (List.forall_mem_cons.mpr ⟨kco_120_t0, (fun _ h => by cases h)⟩)
def kco_121_0 : List (Nat × Instr × Nat) := [(0, .aload 4, 2), (2, .iconst (0), 1), (3, .aload_n 0, 1), (4, .iload_n 1, 1), (5, .lload_n 2, 1), (6, .invokevirtual 45, 3), (9, .i2l, 1), (10, .lastore, 1), (11, .goto (11), 3), (14, .astore 5, 2), (16, .iconst (1), 1), (17, .ireturn, 1), (18, .astore 5, 2), (20, .iconst (2), 1), (21, .ireturn, 1), (22, .iconst (0), 1), (23, .ireturn, 1)]
theorem kco_121_t0 : kco_121_0.all (fun q => decide (decode method_11_code q.1 = .ok q.2)) = true := by decide +kernel
def kco_121 : List (List (Nat × Instr × Nat)) := [kco_121_0]
theorem kco_121_ok : ∀ pc i n, ck_cdAt kco_121 pc = some (i, n) → decode method_11_code pc = .ok (i, n) := ck_cd_ok (List.forall_mem_cons.mpr ⟨kco_121_t0, (fun _ h => by cases h)⟩)
def kco_122_0 : List (Nat × Instr × Nat) := [(0, .aload_n 2, 1), (1, .iconst (0), 1), (2, .aload_n 0, 1), (3, .iload_n 1, 1), (4, .invokevirtual 30, 3), (7, .i2l, 1), (8, .lastore, 1), (9, .goto (9), 3), (12, .astore_n 3, 1), (13, .iconst (1), 1), (14, .ireturn, 1), (15, .astore_n 3, 1), (16, .iconst (2), 1), (17, .ireturn, 1), (18, .iconst (0), 1), (19, .ireturn, 1)]
theorem kco_122_t0 : kco_122_0.all (fun q => decide (decode method_8_code q.1 = .ok q.2)) = true := by decide +kernel
def kco_122 : List (List (Nat × Instr × Nat)) := [kco_122_0]
theorem kco_122_ok : ∀ pc i n, ck_cdAt kco_122 pc = some (i, n) → decode method_8_code pc = .ok (i, n) := ck_cd_ok (List.forall_mem_cons.mpr ⟨kco_122_t0, (fun _ h => by cases h)⟩)
def kco_123_0 : List (Nat × Instr × Nat) := [(0, .aload_n 2, 1), (1, .iconst (0), 1), (2, .aload_n 0, 1), (3, .iload_n 1, 1), (4, .invokevirtual 59, 3), (7, .lastore, 1), (8, .goto (6), 3), (11, .astore_n 3, 1), (12, .iconst (1), 1), (13, .ireturn, 1), (14, .iconst (0), 1), (15, .ireturn, 1)]
theorem kco_123_t0 : kco_123_0.all (fun q => decide (decode method_15_code q.1 = .ok q.2)) = true := by decide +kernel
def kco_123 : List (List (Nat × Instr × Nat)) := [kco_123_0]
theorem kco_123_ok : ∀ pc i n, ck_cdAt kco_123 pc = some (i, n) → decode method_15_code pc = .ok (i, n) := ck_cd_ok (List.forall_mem_cons.mpr ⟨kco_123_t0, (fun _ h => by cases h)⟩)
def kco_124_0 : List (Nat × Instr × Nat) := [(0, .aload_n 3, 1), (1, .iconst (0), 1), (2, .aload_n 0, 1), (3, .iload_n 1, 1), (4, .iload_n 2, 1), (5, .invokevirtual 70, 3), (8, .i2l, 1), (9, .lastore, 1), (10, .goto (7), 3), (13, .astore 4, 2), (15, .iconst (1), 1), (16, .ireturn, 1), (17, .iconst (0), 1), (18, .ireturn, 1)]
theorem kco_124_t0 : kco_124_0.all (fun q => decide (decode method_18_code q.1 = .ok q.2)) = true := by decide +kernel
def kco_124 : List (List (Nat × Instr × Nat)) := [kco_124_0]
theorem kco_124_ok : ∀ pc i n, ck_cdAt kco_124 pc = some (i, n) → decode method_18_code pc = .ok (i, n) := ck_cd_ok (List.forall_mem_cons.mpr ⟨kco_124_t0, (fun _ h => by cases h)⟩)
def kco_125_0 : List (Nat × Instr × Nat) := [(0, .aload 4, 2), (2, .iconst (0), 1), (3, .aload_n 0, 1), (4, .iload_n 1, 1), (5, .iload_n 2, 1), (6, .iload_n 3, 1), (7, .invokevirtual 80, 3), (10, .lastore, 1), (11, .goto (7), 3), (14, .astore 5, 2), (16, .iconst (1), 1), (17, .ireturn, 1), (18, .iconst (0), 1), (19, .ireturn, 1)]
theorem kco_125_t0 : kco_125_0.all (fun q => decide (decode method_21_code q.1 = .ok q.2)) = true := by decide +kernel
def kco_125 : List (List (Nat × Instr × Nat)) := [kco_125_0]
theorem kco_125_ok : ∀ pc i n, ck_cdAt kco_125 pc = some (i, n) → decode method_21_code pc = .ok (i, n) := ck_cd_ok (List.forall_mem_cons.mpr ⟨kco_125_t0, (fun _ h => by cases h)⟩)
