/-! ===== code, read ===== -/
def kco_149_0 : List (Nat × Instr × Nat) := [(0, .iload_n 1, 1), (1, .iconst (4), 1), (2, .invokestatic 60, 3), (5, .iload_n 2, 1), (6, .iconst (4), 1), (7, .invokestatic 60, 3), (10, .aload_n 0, 1), (11, .getfield 11, 3), (14, .iload_n 1, 1), (15, .aaload, 1), (16, .bipush (8), 2), (18, .iload_n 2, 1), (19, .imul, 1), (20, .lload_n 3, 1), (21, .invokestatic 64, 3), (24, .return_, 1)]
theorem kco_149_t0 : kco_149_0.all (fun q => decide (decode prog_1_method_2_code q.1 = .ok q.2)) = true := by decide +kernel
def kco_149 : List (List (Nat × Instr × Nat)) := [kco_149_0]
theorem kco_149_ok : ∀ pc i n, ck_cdAt kco_149 pc = some (i, n) → decode prog_1_method_2_code pc = .ok (i, n) := ck_cd_ok (List.forall_mem_cons.mpr ⟨kco_149_t0, (fun _ h => by cases h)⟩)
def kco_150_0 : List (Nat × Instr × Nat) := [(0, .aload_n 0, 1), (1, .iload_n 1, 1), (2, .iload_n 2, 1), (3, .lload_n 3, 1), (4, .invokevirtual 7, 3), (7, .goto (7), 3), (10, .astore 5, 2), (12, .iconst (1), 1), (13, .ireturn, 1), (14, .iconst (0), 1), (15, .ireturn, 1)]
theorem kco_150_t0 : kco_150_0.all (fun q => decide (decode method_3_code q.1 = .ok q.2)) = true := by decide +kernel
def kco_150 : List (List (Nat × Instr × Nat)) := [kco_150_0]
theorem kco_150_ok : ∀ pc i n, ck_cdAt kco_150 pc = some (i, n) → decode method_3_code pc = .ok (i, n) := ck_cd_ok (List.forall_mem_cons.mpr ⟨kco_150_t0, (fun _ h => by cases h)⟩)
def kco_151_0 : List (Nat × Instr × Nat) := [(0, .aload_n 0, 1), (1, .iload_n 1, 1), (2, .iconst (4), 1), (3, .invokestatic 276, 3), (6, .ifCond .eq (15), 3), (9, .iload_n 2, 1), (10, .iconst (4), 1), (11, .invokestatic 276, 3), (14, .ifCond .eq (7), 3), (17, .iconst (0), 1), (18, .goto (4), 3), (21, .iconst (1), 1), (22, .invokevirtual 280, 3), (25, .ifCond .ne (48), 3), (28, .iconst (0), 1), (29, .istore 5, 2), (31, .iload 5, 2)]
theorem kco_151_t0 : kco_151_0.all (fun q => decide (decode prog_13_method_31_code q.1 = .ok q.2)) = true := by decide +kernel
def kco_151_1 : List (Nat × Instr × Nat) := [(33, .bipush (8), 2), (35, .if_icmp .ge (38), 3), (38, .aload_n 0, 1), (39, .getfield 7, 3), (42, .bipush (32), 2), (44, .iload_n 1, 1), (45, .imul, 1), (46, .bipush (8), 2), (48, .iload_n 2, 1), (49, .imul, 1), (50, .iadd, 1), (51, .iload 5, 2), (53, .iadd, 1), (54, .lload_n 3, 1), (55, .bipush (8), 2), (57, .iload 5, 2), (59, .imul, 1), (60, .lshr, 1), (61, .l2i, 1), (62, .sipush (255), 3)]
theorem kco_151_t1 : kco_151_1.all (fun q => decide (decode prog_13_method_31_code q.1 = .ok q.2)) = true := by decide +kernel
def kco_151_2 : List (Nat × Instr × Nat) := [(65, .iand, 1), (66, .iastore, 1), (67, .iinc 5 (1), 3), (70, .goto (-39), 3), (73, .return_, 1)]
theorem kco_151_t2 : kco_151_2.all (fun q => decide (decode prog_13_method_31_code q.1 = .ok q.2)) = true := by decide +kernel
def kco_151 : List (List (Nat × Instr × Nat)) := [kco_151_0, kco_151_1, kco_151_2]
theorem kco_151_ok : ∀ pc i n, ck_cdAt kco_151 pc = some (i, n) → decode prog_13_method_31_code pc = .ok (i, n) := ck_cd_ok (List.forall_mem_cons.mpr ⟨kco_151_t0, (List.forall_mem_cons.mpr ⟨kco_151_t1, (List.forall_mem_cons.mpr ⟨kco_151_t2, (fun _ h => by cases h)⟩)⟩)⟩)
def kco_152_0 : List (Nat × Instr × Nat) := [(0, .iconst (0), 1), (1, .istore 4, 2), (3, .iload 4, 2), (5, .bipush (8), 2), (7, .if_icmp .ge (27), 3), (10, .aload_n 0, 1), (11, .iload_n 1, 1), (12, .iload 4, 2), (14, .iadd, 1), (15, .lload_n 2, 1), (16, .bipush (8), 2), (18, .iload 4, 2), (20, .imul, 1), (21, .lushr, 1), (22, .l2i, 1), (23, .sipush (255), 3), (26, .iand, 1), (27, .iastore, 1), (28, .iinc 4 (1), 3), (31, .goto (-28), 3)]
theorem kco_152_t0 : kco_152_0.all (fun q => decide (decode prog_1_method_35_code q.1 = .ok q.2)) = true := by decide +kernel
def kco_152_1 : List (Nat × Instr × Nat) := [(34, .return_, 1)]
theorem kco_152_t1 : kco_152_1.all (fun q => decide (decode prog_1_method_35_code q.1 = .ok q.2)) = true := by decide +kernel
def kco_152 : List (List (Nat × Instr × Nat)) := [kco_152_0, kco_152_1]
theorem kco_152_ok : ∀ pc i n, ck_cdAt kco_152 pc = some (i, n) → decode prog_1_method_35_code pc = .ok (i, n) := ck_cd_ok (List.forall_mem_cons.mpr ⟨kco_152_t0, (List.forall_mem_cons.mpr ⟨kco_152_t1, (fun _ h => by cases h)⟩)⟩)
