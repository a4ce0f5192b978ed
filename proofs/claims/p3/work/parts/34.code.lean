/-! ===== code, read ===== -/
theorem ck_cd_ok {cc : ByteArray} {cod : List (List (Nat × Instr × Nat))} (h : ∀ ch ∈ cod, ch.all (fun q => decide (decode cc q.1 = .ok q.2)) = true) : ∀ pc i n, ck_cdAt cod pc = some (i, n) → decode cc pc = .ok (i, n) := by
  intro pc i n hi
  unfold ck_cdAt at hi
  split at hi
  · rename_i ch hch
    have := List.all_eq_true.mp (h ch (List.mem_of_getElem? hch)) _ (ck_lk_mem hi)
    exact of_decide_eq_true this
  · cases hi
