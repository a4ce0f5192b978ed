/-! ===== code, read ===== -/
def kco_40_0 : List (Nat × Instr × Nat) := [(0, .iconst (0), 1), (1, .istore_n 3, 1), (2, .iload_n 3, 1), (3, .bipush (10), 2), (5, .if_icmp .ge (19), 3), (8, .aload_n 2, 1), (9, .iload_n 3, 1), (10, .aload_n 0, 1), (11, .iload_n 3, 1), (12, .laload, 1), (13, .aload_n 1, 1), (14, .iload_n 3, 1), (15, .laload, 1), (16, .lsub, 1), (17, .lastore, 1), (18, .iinc 3 (1), 3), (21, .goto (-19), 3), (24, .return_, 1)]
theorem kco_40_t0 : kco_40_0.all (fun q => decide (decode prog_3_method_11_code q.1 = .ok q.2)) = true := by decide +kernel
def kco_40 : List (List (Nat × Instr × Nat)) := [kco_40_0]
theorem kco_40_ok : ∀ pc i n, ck_cdAt kco_40 pc = some (i, n) → decode prog_3_method_11_code pc = .ok (i, n) := ck_cd_ok (List.forall_mem_cons.mpr ⟨kco_40_t0, (fun _ h => by cases h)⟩)
