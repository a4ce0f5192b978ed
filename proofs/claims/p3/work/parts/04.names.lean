/-! ===== names, printed: classes, fields, their types; the words of the tables that say so ===== -/
theorem ck_mem_r {big ws : List Cond} (ps : List Nat) (hp : ws = ps.filterMap (fun i => big[i]?)) : ∀ w ∈ ws, w ∈ big := by
  intro w hw
  rw [hp] at hw
  obtain ⟨i, -, hi⟩ := List.mem_filterMap.mp hw
  exact List.mem_of_getElem? hi
/-- the words that go over to whoever is called -/
def ck_mv : Cond → Bool
  | .methodLinkNest .. => true
  | .arrayClass _ => true
  | .arrayOver (.object _) => true
  | .arrayOver (.array _) => true
  | w => w.onTables && (w.keeps || w.keepsFace)
def ck_tb : List Cond := lw_tbl.filter ck_mv
theorem ck_tab {w : Cond} (h : w ∈ tables_1) (hm : ck_mv w = true) : w ∈ ck_tb := List.mem_filter.mpr ⟨List.mem_append_right _ h, hm⟩
theorem ck_tabi {w : Cond} (i : Nat) (h : tables_1[i]? = some w) (hm : ck_mv w = true) : w ∈ ck_tb := ck_tab (List.mem_of_getElem? h) hm
theorem ck_seli {w : Cond} (i : Nat) (h : (k2_sels lw_privs)[i]? = some w) (hm : ck_mv w = true) : w ∈ ck_tb := List.mem_filter.mpr ⟨List.mem_append_left _ (List.mem_of_getElem? h), hm⟩
theorem ck_tabl {ws : List Cond} (ps : List Nat) (hp : ws = ps.filterMap (fun i => tables_1[i]?)) (hm : ws.all ck_mv = true) : ∀ w ∈ ws, w ∈ ck_tb := fun w h => ck_tab (ck_mem_r ps hp w h) (List.all_eq_true.mp hm w h)
def cn_C0 : String := "RatchetDesk"
def cn_T0 : u_T := fun k => match k with
  | 0 => ("RatchetDesk", "seed", "I", true)
  | 1 => ("RatchetDesk", "desk", "[[I", true)
  | 2 => ("RatchetDesk", "people", "[LRatchetDesk$Person;", true)
  | 3 => ("RatchetDesk", "talks", "[LRatchetDesk$End;", true)
  | 4 => ("RatchetDesk", "post", "[LRatchetDesk$Letter;", true)
  | 5 => ("RatchetDesk", "passing", "LRatchetDesk$Secret;", true)
  | 6 => ("RatchetDesk", "tools", "LRatchetDesk$Tools;", true)
  | 7 => ("RatchetDesk", "trial", "LRatchetDesk$End;", false)
  | 8 => ("RatchetDesk", "endCount", "I", false)
  | 9 => ("RatchetDesk", "letterCount", "I", false)
  | _ => ("RatchetDesk", "secretCount", "I", false)
def cn_y0 : Nat → FieldType := fun k => match k with
  | 0 => .int
  | 1 => (.array (.array .int))
  | 2 => (.array (.object "RatchetDesk$Person"))
  | 3 => (.array (.object "RatchetDesk$End"))
  | 4 => (.array (.object "RatchetDesk$Letter"))
  | 5 => (.object "RatchetDesk$Secret")
  | 6 => (.object "RatchetDesk$Tools")
  | 7 => (.object "RatchetDesk$End")
  | 8 => .int
  | 9 => .int
  | _ => .int
theorem cn_w0 : ∀ w ∈ u_ws cn_C0 cn_T0 11, w ∈ ck_tb := ck_tabl [395, 397, 399, 401, 403, 405, 407, 409, 411, 413, 415] (by decide +kernel) (by decide +kernel)
theorem cn_p0 : ∀ k, k < 11 → parseFieldDescriptor (cn_T0 k).2.2.1 = some (cn_y0 k) := by decide +kernel
theorem cn_n0 : ∀ a, a < 11 → ∀ b, b < 11 → a ≠ b → (cn_T0 a).2.1 ≠ (cn_T0 b).2.1 := by decide +kernel
theorem cn_o0 : ∀ k, k < 11 → (cn_T0 k).1 = cn_C0 := by decide +kernel
theorem cn_i0 : Cond.instantiable cn_C0 11 ∈ ck_tb ∧ Cond.initialized cn_C0 ∈ ck_tb := ⟨ck_tabi 21 (by decide +kernel) rfl, ck_tabi 1 (by decide +kernel) rfl⟩
def cn_C1 : String := "RatchetDesk$Secret"
def cn_T1 : u_T := fun k => match k with
  | 0 => ("RatchetDesk$Secret", "key", "[I", true)
  | 1 => ("RatchetDesk$Secret", "point", "[I", true)
  | _ => ("RatchetDesk$Secret", "reckoned", "Z", false)
def cn_y1 : Nat → FieldType := fun k => match k with
  | 0 => (.array .int)
  | 1 => (.array .int)
  | _ => .boolean
theorem cn_w1 : ∀ w ∈ u_ws cn_C1 cn_T1 3, w ∈ ck_tb := ck_tabl [47, 49, 51] (by decide +kernel) (by decide +kernel)
theorem cn_p1 : ∀ k, k < 3 → parseFieldDescriptor (cn_T1 k).2.2.1 = some (cn_y1 k) := by decide +kernel
theorem cn_n1 : ∀ a, a < 3 → ∀ b, b < 3 → a ≠ b → (cn_T1 a).2.1 ≠ (cn_T1 b).2.1 := by decide +kernel
theorem cn_o1 : ∀ k, k < 3 → (cn_T1 k).1 = cn_C1 := by decide +kernel
theorem cn_i1 : Cond.instantiable cn_C1 3 ∈ ck_tb ∧ Cond.initialized cn_C1 ∈ ck_tb := ⟨ck_tabi 37 (by decide +kernel) rfl, ck_tabi 2 (by decide +kernel) rfl⟩
def cn_C2 : String := "RatchetDesk$Tools"
def cn_T2 : u_T := fun k => match k with
  | 0 => ("RatchetDesk$Tools", "hash", "LRatchetDesk$Hash;", true)
  | 1 => ("RatchetDesk$Tools", "curve", "LRatchetDesk$Curve;", true)
  | 2 => ("RatchetDesk$Tools", "seal", "LRatchetDesk$Seal;", true)
  | 3 => ("RatchetDesk$Tools", "letterKey", "[I", true)
  | 4 => ("RatchetDesk$Tools", "shown", "[I", true)
  | 5 => ("RatchetDesk$Tools", "agreed", "[I", true)
  | _ => ("RatchetDesk$Tools", "unused", "[I", true)
def cn_y2 : Nat → FieldType := fun k => match k with
  | 0 => (.object "RatchetDesk$Hash")
  | 1 => (.object "RatchetDesk$Curve")
  | 2 => (.object "RatchetDesk$Seal")
  | 3 => (.array .int)
  | 4 => (.array .int)
  | 5 => (.array .int)
  | _ => (.array .int)
theorem cn_w2 : ∀ w ∈ u_ws cn_C2 cn_T2 7, w ∈ ck_tb := ck_tabl [176, 178, 180, 182, 184, 186, 188] (by decide +kernel) (by decide +kernel)
theorem cn_p2 : ∀ k, k < 7 → parseFieldDescriptor (cn_T2 k).2.2.1 = some (cn_y2 k) := by decide +kernel
theorem cn_n2 : ∀ a, a < 7 → ∀ b, b < 7 → a ≠ b → (cn_T2 a).2.1 ≠ (cn_T2 b).2.1 := by decide +kernel
theorem cn_o2 : ∀ k, k < 7 → (cn_T2 k).1 = cn_C2 := by decide +kernel
theorem cn_i2 : Cond.instantiable cn_C2 7 ∈ ck_tb ∧ Cond.initialized cn_C2 ∈ ck_tb := ⟨ck_tabi 56 (by decide +kernel) rfl, ck_tabi 3 (by decide +kernel) rfl⟩
def cn_C3 : String := "RatchetDesk$Hash"
def cn_T3 : u_T := fun k => match k with
  | 0 => ("RatchetDesk$Hash", "blank", "[I", true)
  | 1 => ("RatchetDesk$Hash", "row", "[I", true)
  | 2 => ("RatchetDesk$Hash", "filled", "I", false)
  | 3 => ("RatchetDesk$Hash", "words", "[I", true)
  | 4 => ("RatchetDesk$Hash", "state", "[I", true)
  | 5 => ("RatchetDesk$Hash", "macKey", "[I", true)
  | 6 => ("RatchetDesk$Hash", "inner", "[I", true)
  | _ => ("RatchetDesk$Hash", "spreadKey", "[I", true)
def cn_y3 : Nat → FieldType := fun k => match k with
  | 0 => (.array .int)
  | 1 => (.array .int)
  | 2 => .int
  | 3 => (.array .int)
  | 4 => (.array .int)
  | 5 => (.array .int)
  | 6 => (.array .int)
  | _ => (.array .int)
theorem cn_w3 : ∀ w ∈ u_ws cn_C3 cn_T3 8, w ∈ ck_tb := ck_tabl [77, 79, 81, 83, 85, 87, 89, 91] (by decide +kernel) (by decide +kernel)
theorem cn_p3 : ∀ k, k < 8 → parseFieldDescriptor (cn_T3 k).2.2.1 = some (cn_y3 k) := by decide +kernel
theorem cn_n3 : ∀ a, a < 8 → ∀ b, b < 8 → a ≠ b → (cn_T3 a).2.1 ≠ (cn_T3 b).2.1 := by decide +kernel
theorem cn_o3 : ∀ k, k < 8 → (cn_T3 k).1 = cn_C3 := by decide +kernel
theorem cn_i3 : Cond.instantiable cn_C3 8 ∈ ck_tb ∧ Cond.initialized cn_C3 ∈ ck_tb := ⟨ck_tabi 62 (by decide +kernel) rfl, ck_tabi 4 (by decide +kernel) rfl⟩
def cn_C4 : String := "RatchetDesk$Curve"
def cn_T4 : u_T := fun k => match k with
  | 0 => ("RatchetDesk$Curve", "nine", "[I", true)
  | 1 => ("RatchetDesk$Curve", "u", "[J", true)
  | 2 => ("RatchetDesk$Curve", "a", "[J", true)
  | 3 => ("RatchetDesk$Curve", "b", "[J", true)
  | 4 => ("RatchetDesk$Curve", "c", "[J", true)
  | 5 => ("RatchetDesk$Curve", "d", "[J", true)
  | 6 => ("RatchetDesk$Curve", "sum", "[J", true)
  | 7 => ("RatchetDesk$Curve", "gap", "[J", true)
  | 8 => ("RatchetDesk$Curve", "m", "[J", true)
  | 9 => ("RatchetDesk$Curve", "n", "[J", true)
  | 10 => ("RatchetDesk$Curve", "e", "[J", true)
  | 11 => ("RatchetDesk$Curve", "f", "[J", true)
  | _ => ("RatchetDesk$Curve", "g", "[J", true)
def cn_y4 : Nat → FieldType := fun k => match k with
  | 0 => (.array .int)
  | 1 => (.array .long)
  | 2 => (.array .long)
  | 3 => (.array .long)
  | 4 => (.array .long)
  | 5 => (.array .long)
  | 6 => (.array .long)
  | 7 => (.array .long)
  | 8 => (.array .long)
  | 9 => (.array .long)
  | 10 => (.array .long)
  | 11 => (.array .long)
  | _ => (.array .long)
theorem cn_w4 : ∀ w ∈ u_ws cn_C4 cn_T4 13, w ∈ ck_tb := ck_tabl [114, 116, 118, 120, 122, 124, 126, 128, 130, 132, 134, 136, 138] (by decide +kernel) (by decide +kernel)
theorem cn_p4 : ∀ k, k < 13 → parseFieldDescriptor (cn_T4 k).2.2.1 = some (cn_y4 k) := by decide +kernel
theorem cn_n4 : ∀ a, a < 13 → ∀ b, b < 13 → a ≠ b → (cn_T4 a).2.1 ≠ (cn_T4 b).2.1 := by decide +kernel
theorem cn_o4 : ∀ k, k < 13 → (cn_T4 k).1 = cn_C4 := by decide +kernel
theorem cn_i4 : Cond.instantiable cn_C4 13 ∈ ck_tb ∧ Cond.initialized cn_C4 ∈ ck_tb := ⟨ck_tabi 95 (by decide +kernel) rfl, ck_tabi 5 (by decide +kernel) rfl⟩
def cn_C5 : String := "RatchetDesk$Seal"
def cn_T5 : u_T := fun k => match k with
  | 0 => ("RatchetDesk$Seal", "coverKey", "[I", true)
  | 1 => ("RatchetDesk$Seal", "markKey", "[I", true)
  | 2 => ("RatchetDesk$Seal", "cover", "[I", true)
  | _ => ("RatchetDesk$Seal", "mark", "[I", true)
def cn_y5 : Nat → FieldType := fun k => match k with
  | 0 => (.array .int)
  | 1 => (.array .int)
  | 2 => (.array .int)
  | _ => (.array .int)
theorem cn_w5 : ∀ w ∈ u_ws cn_C5 cn_T5 4, w ∈ ck_tb := ck_tabl [152, 154, 156, 158] (by decide +kernel) (by decide +kernel)
theorem cn_p5 : ∀ k, k < 4 → parseFieldDescriptor (cn_T5 k).2.2.1 = some (cn_y5 k) := by decide +kernel
theorem cn_n5 : ∀ a, a < 4 → ∀ b, b < 4 → a ≠ b → (cn_T5 a).2.1 ≠ (cn_T5 b).2.1 := by decide +kernel
theorem cn_o5 : ∀ k, k < 4 → (cn_T5 k).1 = cn_C5 := by decide +kernel
theorem cn_i5 : Cond.instantiable cn_C5 4 ∈ ck_tb ∧ Cond.initialized cn_C5 ∈ ck_tb := ⟨ck_tabi 143 (by decide +kernel) rfl, ck_tabi 6 (by decide +kernel) rfl⟩
def cn_C6 : String := "RatchetDesk$End"
def cn_T6 : u_T := fun k => match k with
  | 0 => ("RatchetDesk$End", "owner", "I", false)
  | 1 => ("RatchetDesk$End", "partner", "I", false)
  | 2 => ("RatchetDesk$End", "tie", "[I", true)
  | 3 => ("RatchetDesk$End", "root", "[I", true)
  | 4 => ("RatchetDesk$End", "own", "LRatchetDesk$Secret;", true)
  | 5 => ("RatchetDesk$End", "other", "[I", true)
  | 6 => ("RatchetDesk$End", "sending", "LRatchetDesk$Chain;", true)
  | 7 => ("RatchetDesk$End", "receiving", "LRatchetDesk$Chain;", true)
  | 8 => ("RatchetDesk$End", "before", "I", false)
  | 9 => ("RatchetDesk$End", "kept", "LRatchetDesk$KeptKeys;", true)
  | 10 => ("RatchetDesk$End", "introduction", "[I", true)
  | 11 => ("RatchetDesk$End", "introduces", "Z", false)
  | 12 => ("RatchetDesk$End", "turning", "Z", false)
  | _ => ("RatchetDesk$End", "lastText", "J", false)
def cn_y6 : Nat → FieldType := fun k => match k with
  | 0 => .int
  | 1 => .int
  | 2 => (.array .int)
  | 3 => (.array .int)
  | 4 => (.object "RatchetDesk$Secret")
  | 5 => (.array .int)
  | 6 => (.object "RatchetDesk$Chain")
  | 7 => (.object "RatchetDesk$Chain")
  | 8 => .int
  | 9 => (.object "RatchetDesk$KeptKeys")
  | 10 => (.array .int)
  | 11 => .boolean
  | 12 => .boolean
  | _ => .long
theorem cn_w6 : ∀ w ∈ u_ws cn_C6 cn_T6 14, w ∈ ck_tb := ck_tabl [267, 269, 271, 273, 275, 277, 279, 281, 283, 285, 287, 289, 291, 293] (by decide +kernel) (by decide +kernel)
theorem cn_p6 : ∀ k, k < 14 → parseFieldDescriptor (cn_T6 k).2.2.1 = some (cn_y6 k) := by decide +kernel
theorem cn_n6 : ∀ a, a < 14 → ∀ b, b < 14 → a ≠ b → (cn_T6 a).2.1 ≠ (cn_T6 b).2.1 := by decide +kernel
theorem cn_o6 : ∀ k, k < 14 → (cn_T6 k).1 = cn_C6 := by decide +kernel
theorem cn_i6 : Cond.instantiable cn_C6 14 ∈ ck_tb ∧ Cond.initialized cn_C6 ∈ ck_tb := ⟨ck_tabi 191 (by decide +kernel) rfl, ck_tabi 7 (by decide +kernel) rfl⟩
def cn_C7 : String := "RatchetDesk$Chain"
def cn_T7 : u_T := fun k => match k with
  | 0 => ("RatchetDesk$Chain", "key", "[I", true)
  | 1 => ("RatchetDesk$Chain", "passed", "I", false)
  | _ => ("RatchetDesk$Chain", "stands", "Z", false)
def cn_y7 : Nat → FieldType := fun k => match k with
  | 0 => (.array .int)
  | 1 => .int
  | _ => .boolean
theorem cn_w7 : ∀ w ∈ u_ws cn_C7 cn_T7 3, w ∈ ck_tb := ck_tabl [212, 214, 216] (by decide +kernel) (by decide +kernel)
theorem cn_p7 : ∀ k, k < 3 → parseFieldDescriptor (cn_T7 k).2.2.1 = some (cn_y7 k) := by decide +kernel
theorem cn_n7 : ∀ a, a < 3 → ∀ b, b < 3 → a ≠ b → (cn_T7 a).2.1 ≠ (cn_T7 b).2.1 := by decide +kernel
theorem cn_o7 : ∀ k, k < 3 → (cn_T7 k).1 = cn_C7 := by decide +kernel
theorem cn_i7 : Cond.instantiable cn_C7 3 ∈ ck_tb ∧ Cond.initialized cn_C7 ∈ ck_tb := ⟨ck_tabi 199 (by decide +kernel) rfl, ck_tabi 8 (by decide +kernel) rfl⟩
def cn_C8 : String := "RatchetDesk$KeptKeys"
def cn_T8 : u_T := fun k => match k with
  | 0 => ("RatchetDesk$KeptKeys", "ratchetKeys", "[[I", true)
  | 1 => ("RatchetDesk$KeptKeys", "letterKeys", "[[I", true)
  | 2 => ("RatchetDesk$KeptKeys", "numbers", "[I", true)
  | _ => ("RatchetDesk$KeptKeys", "size", "I", false)
def cn_y8 : Nat → FieldType := fun k => match k with
  | 0 => (.array (.array .int))
  | 1 => (.array (.array .int))
  | 2 => (.array .int)
  | _ => .int
theorem cn_w8 : ∀ w ∈ u_ws cn_C8 cn_T8 4, w ∈ ck_tb := ck_tabl [232, 234, 236, 238] (by decide +kernel) (by decide +kernel)
theorem cn_p8 : ∀ k, k < 4 → parseFieldDescriptor (cn_T8 k).2.2.1 = some (cn_y8 k) := by decide +kernel
theorem cn_n8 : ∀ a, a < 4 → ∀ b, b < 4 → a ≠ b → (cn_T8 a).2.1 ≠ (cn_T8 b).2.1 := by decide +kernel
theorem cn_o8 : ∀ k, k < 4 → (cn_T8 k).1 = cn_C8 := by decide +kernel
theorem cn_i8 : Cond.instantiable cn_C8 4 ∈ ck_tb ∧ Cond.initialized cn_C8 ∈ ck_tb := ⟨ck_tabi 220 (by decide +kernel) rfl, ck_tabi 9 (by decide +kernel) rfl⟩
def cn_C9 : String := "RatchetDesk$Person"
def cn_T9 : u_T := fun k => match k with
  | 0 => ("RatchetDesk$Person", "identity", "LRatchetDesk$Secret;", true)
  | 1 => ("RatchetDesk$Person", "prekey", "LRatchetDesk$Secret;", true)
  | 2 => ("RatchetDesk$Person", "oneTimes", "[LRatchetDesk$Secret;", true)
  | 3 => ("RatchetDesk$Person", "stages", "[I", true)
  | _ => ("RatchetDesk$Person", "made", "I", false)
def cn_y9 : Nat → FieldType := fun k => match k with
  | 0 => (.object "RatchetDesk$Secret")
  | 1 => (.object "RatchetDesk$Secret")
  | 2 => (.array (.object "RatchetDesk$Secret"))
  | 3 => (.array .int)
  | _ => .int
theorem cn_w9 : ∀ w ∈ u_ws cn_C9 cn_T9 5, w ∈ ck_tb := ck_tabl [313, 315, 317, 319, 321] (by decide +kernel) (by decide +kernel)
theorem cn_p9 : ∀ k, k < 5 → parseFieldDescriptor (cn_T9 k).2.2.1 = some (cn_y9 k) := by decide +kernel
theorem cn_n9 : ∀ a, a < 5 → ∀ b, b < 5 → a ≠ b → (cn_T9 a).2.1 ≠ (cn_T9 b).2.1 := by decide +kernel
theorem cn_o9 : ∀ k, k < 5 → (cn_T9 k).1 = cn_C9 := by decide +kernel
theorem cn_i9 : Cond.instantiable cn_C9 5 ∈ ck_tb ∧ Cond.initialized cn_C9 ∈ ck_tb := ⟨ck_tabi 296 (by decide +kernel) rfl, ck_tabi 10 (by decide +kernel) rfl⟩
def cn_C10 : String := "RatchetDesk$Letter"
def cn_T10 : u_T := fun k => match k with
  | 0 => ("RatchetDesk$Letter", "bytes", "[I", true)
  | _ => ("RatchetDesk$Letter", "size", "I", false)
def cn_y10 : Nat → FieldType := fun k => match k with
  | 0 => (.array .int)
  | _ => .int
theorem cn_w10 : ∀ w ∈ u_ws cn_C10 cn_T10 2, w ∈ ck_tb := ck_tabl [336, 338] (by decide +kernel) (by decide +kernel)
theorem cn_p10 : ∀ k, k < 2 → parseFieldDescriptor (cn_T10 k).2.2.1 = some (cn_y10 k) := by decide +kernel
theorem cn_n10 : ∀ a, a < 2 → ∀ b, b < 2 → a ≠ b → (cn_T10 a).2.1 ≠ (cn_T10 b).2.1 := by decide +kernel
theorem cn_o10 : ∀ k, k < 2 → (cn_T10 k).1 = cn_C10 := by decide +kernel
theorem cn_i10 : Cond.instantiable cn_C10 2 ∈ ck_tb ∧ Cond.initialized cn_C10 ∈ ck_tb := ⟨ck_tabi 324 (by decide +kernel) rfl, ck_tabi 11 (by decide +kernel) rfl⟩
def cn_C11 : String := "RatchetDeskModel"
def cn_T11 : u_T := fun k => match k with
  | 0 => ("RatchetDeskModel", "fault", "I", false)
  | 1 => ("RatchetDeskModel", "seed", "I", true)
  | 2 => ("RatchetDeskModel", "mem", "[I", true)
  | 3 => ("RatchetDeskModel", "row", "[I", true)
  | 4 => ("RatchetDeskModel", "message", "[I", true)
  | 5 => ("RatchetDeskModel", "messageLength", "I", false)
  | 6 => ("RatchetDeskModel", "constants", "[I", true)
  | 7 => ("RatchetDeskModel", "hash", "[I", true)
  | 8 => ("RatchetDeskModel", "work", "[I", true)
  | 9 => ("RatchetDeskModel", "words", "[I", true)
  | 10 => ("RatchetDeskModel", "field", "[J", true)
  | 11 => ("RatchetDeskModel", "product", "[J", true)
  | 12 => ("RatchetDeskModel", "secrets", "I", false)
  | 13 => ("RatchetDeskModel", "isKnown", "[Z", true)
  | 14 => ("RatchetDeskModel", "stocked", "[I", true)
  | 15 => ("RatchetDeskModel", "oneTime", "[I", true)
  | 16 => ("RatchetDeskModel", "isOffered", "[Z", true)
  | 17 => ("RatchetDeskModel", "isHeld", "[Z", true)
  | 18 => ("RatchetDeskModel", "ends", "I", false)
  | 19 => ("RatchetDeskModel", "mine", "[I", true)
  | 20 => ("RatchetDeskModel", "others", "[I", true)
  | 21 => ("RatchetDeskModel", "began", "[Z", true)
  | 22 => ("RatchetDeskModel", "hasOpened", "[Z", true)
  | 23 => ("RatchetDeskModel", "isSending", "[Z", true)
  | 24 => ("RatchetDeskModel", "isReceiving", "[Z", true)
  | 25 => ("RatchetDeskModel", "sent", "[I", true)
  | 26 => ("RatchetDeskModel", "come", "[I", true)
  | 27 => ("RatchetDeskModel", "before", "[I", true)
  | 28 => ("RatchetDeskModel", "kept", "[I", true)
  | 29 => ("RatchetDeskModel", "keptNumber", "[I", true)
  | 30 => ("RatchetDeskModel", "ownSecret", "[I", true)
  | 31 => ("RatchetDeskModel", "firstSecret", "[I", true)
  | 32 => ("RatchetDeskModel", "firstOne", "[I", true)
  | 33 => ("RatchetDeskModel", "texts", "[J", true)
  | 34 => ("RatchetDeskModel", "letters", "I", false)
  | 35 => ("RatchetDeskModel", "lengths", "[I", true)
  | _ => ("RatchetDeskModel", "wires", "[I", true)
def cn_y11 : Nat → FieldType := fun k => match k with
  | 0 => .int
  | 1 => .int
  | 2 => (.array .int)
  | 3 => (.array .int)
  | 4 => (.array .int)
  | 5 => .int
  | 6 => (.array .int)
  | 7 => (.array .int)
  | 8 => (.array .int)
  | 9 => (.array .int)
  | 10 => (.array .long)
  | 11 => (.array .long)
  | 12 => .int
  | 13 => (.array .boolean)
  | 14 => (.array .int)
  | 15 => (.array .int)
  | 16 => (.array .boolean)
  | 17 => (.array .boolean)
  | 18 => .int
  | 19 => (.array .int)
  | 20 => (.array .int)
  | 21 => (.array .boolean)
  | 22 => (.array .boolean)
  | 23 => (.array .boolean)
  | 24 => (.array .boolean)
  | 25 => (.array .int)
  | 26 => (.array .int)
  | 27 => (.array .int)
  | 28 => (.array .int)
  | 29 => (.array .int)
  | 30 => (.array .int)
  | 31 => (.array .int)
  | 32 => (.array .int)
  | 33 => (.array .long)
  | 34 => .int
  | 35 => (.array .int)
  | _ => (.array .int)
theorem cn_w11 : ∀ w ∈ u_ws cn_C11 cn_T11 37, w ∈ ck_tb := ck_tabl [1076, 1078, 1080, 1082, 1084, 1086, 1088, 1090, 1092, 1094, 1096, 1098, 1100, 1102, 1104, 1106, 1108, 1110, 1112, 1114, 1116, 1118, 1120, 1122, 1124, 1126, 1128, 1130, 1132, 1134, 1136, 1138, 1140, 1142, 1144, 1146, 1148] (by decide +kernel) (by decide +kernel)
theorem cn_p11 : ∀ k, k < 37 → parseFieldDescriptor (cn_T11 k).2.2.1 = some (cn_y11 k) := by decide +kernel
theorem cn_n11 : ∀ a, a < 37 → ∀ b, b < 37 → a ≠ b → (cn_T11 a).2.1 ≠ (cn_T11 b).2.1 := by decide +kernel
theorem cn_o11 : ∀ k, k < 37 → (cn_T11 k).1 = cn_C11 := by decide +kernel
theorem cn_i11 : Cond.instantiable cn_C11 37 ∈ ck_tb ∧ Cond.initialized cn_C11 ∈ ck_tb := ⟨ck_tabi 958 (by decide +kernel) rfl, ck_tabi 13 (by decide +kernel) rfl⟩
def ck_cl : List vw_C := [(cn_C0, cn_T0, 11), (cn_C1, cn_T1, 3), (cn_C2, cn_T2, 7), (cn_C3, cn_T3, 8), (cn_C4, cn_T4, 13), (cn_C5, cn_T5, 4), (cn_C6, cn_T6, 14), (cn_C7, cn_T7, 3), (cn_C8, cn_T8, 4), (cn_C9, cn_T9, 5), (cn_C10, cn_T10, 2), (cn_C11, cn_T11, 37)]
def ck_yy (ci : Nat) : Nat → FieldType := match ci with
  | 0 => cn_y0
  | 1 => cn_y1
  | 2 => cn_y2
  | 3 => cn_y3
  | 4 => cn_y4
  | 5 => cn_y5
  | 6 => cn_y6
  | 7 => cn_y7
  | 8 => cn_y8
  | 9 => cn_y9
  | 10 => cn_y10
  | _ => cn_y11
/-- all that is known of a class of the list -/
theorem ck_cls {ci N : Nat} {C : String} {T : u_T} (h : ck_cl[ci]? = some (C, T, N)) : (∀ w ∈ u_ws C T N, w ∈ ck_tb) ∧ (∀ k, k < N → parseFieldDescriptor (T k).2.2.1 = some (ck_yy ci k)) ∧ (∀ a, a < N → ∀ b, b < N → a ≠ b → (T a).2.1 ≠ (T b).2.1) ∧ (∀ k, k < N → (T k).1 = C) ∧ Cond.instantiable C N ∈ ck_tb ∧ Cond.initialized C ∈ ck_tb := by
  match ci, h with
  | 0, h => cases h; exact ⟨cn_w0, cn_p0, cn_n0, cn_o0, cn_i0⟩
  | 1, h => cases h; exact ⟨cn_w1, cn_p1, cn_n1, cn_o1, cn_i1⟩
  | 2, h => cases h; exact ⟨cn_w2, cn_p2, cn_n2, cn_o2, cn_i2⟩
  | 3, h => cases h; exact ⟨cn_w3, cn_p3, cn_n3, cn_o3, cn_i3⟩
  | 4, h => cases h; exact ⟨cn_w4, cn_p4, cn_n4, cn_o4, cn_i4⟩
  | 5, h => cases h; exact ⟨cn_w5, cn_p5, cn_n5, cn_o5, cn_i5⟩
  | 6, h => cases h; exact ⟨cn_w6, cn_p6, cn_n6, cn_o6, cn_i6⟩
  | 7, h => cases h; exact ⟨cn_w7, cn_p7, cn_n7, cn_o7, cn_i7⟩
  | 8, h => cases h; exact ⟨cn_w8, cn_p8, cn_n8, cn_o8, cn_i8⟩
  | 9, h => cases h; exact ⟨cn_w9, cn_p9, cn_n9, cn_o9, cn_i9⟩
  | 10, h => cases h; exact ⟨cn_w10, cn_p10, cn_n10, cn_o10, cn_i10⟩
  | 11, h => cases h; exact ⟨cn_w11, cn_p11, cn_n11, cn_o11, cn_i11⟩
  | n + 12, h => simp [ck_cl] at h
