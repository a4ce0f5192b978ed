/-! ===== fill and mix are block ===== -/
def kd_rights : List (Nat × xk_G) := [(11, (1, [1], km_right7_g)), (12, (1, [1], km_right18_g)), (13, (1, [1], km_right17_g)), (14, (1, [1], km_right19_g)), (15, (1, [1], km_right6_g)), (16, (1, [1], km_right11_g)), (17, (1, [1], km_right25_g)), (18, (1, [1], km_right2_g)), (19, (1, [1], km_right13_g)), (20, (1, [1], km_right22_g))]
theorem kd_rights_ok {Φ : Nat → Nat → List Int → Int} (H : kH_23 Φ) : ∀ q ∈ kd_rights, xs_fok kwd q = true ∧ ∀ r inp, Φ q.1 r inp = xk_fn Φ kwd q.2.2.2 q.2.1 q.2.2.1 r inp := by
  intro q hq
  have hf : kd_rights.all (xs_fok kwd) = true := by decide +kernel
  refine ⟨List.all_eq_true.mp hf q hq, ?_⟩
  unfold kd_rights at hq
  simp only [List.mem_cons, List.not_mem_nil, or_false] at hq
  rcases hq with rfl | rfl | rfl | rfl | rfl | rfl | rfl | rfl | rfl | rfl
  · exact (H.1.1.1.1.1.1.1.1.1.1.1.1.2)
  · exact (H.1.1.1.1.1.1.1.1.1.1.1.2)
  · exact (H.1.1.1.1.1.1.1.1.1.1.2)
  · exact (H.1.1.1.1.1.1.1.1.1.2)
  · exact (H.1.1.1.1.1.1.1.1.2)
  · exact (H.1.1.1.1.1.1.1.2)
  · exact (H.1.1.1.1.1.1.2)
  · exact (H.1.1.1.1.1.2)
  · exact (H.1.1.1.1.2)
  · exact (H.1.1.1.2)
def kd_drv0 : List xk_E := [(73, 1001, [(1, 0), (2, 0), (3, 0), (4, 0), (5, 0), (6, 0), (7, 0), (8, 0), (9, 0), (10, 0), (11, 0), (12, 0), (13, 0), (14, 0), (15, 0), (16, 0), (17, 0), (18, 0), (19, 0), (20, 0), (21, 0), (22, 0), (23, 0), (24, 0), (25, 0), (26, 0), (27, 0), (28, 0), (29, 0), (30, 0), (31, 0), (32, 0), (33, 0), (34, 0), (35, 0), (36, 0), (37, 0), (38, 0), (39, 0), (40, 0), (41, 0), (42, 0), (43, 0), (44, 0), (45, 0), (46, 0), (47, 0), (48, 0), (49, 0), (50, 0), (51, 0), (52, 0), (53, 0), (54, 0), (55, 0), (56, 0), (57, 0), (58, 0), (59, 0), (60, 0), (61, 0), (62, 0), (63, 0), (64, 0)]), (1177, 1005, [(78, 0), (84, 0), (90, 0), (96, 0), (102, 0), (108, 0), (114, 0), (120, 0), (126, 0), (132, 0), (138, 0), (144, 0), (150, 0), (156, 0), (162, 0), (168, 0), (189, 0), (210, 0), (231, 0), (252, 0), (273, 0), (294, 0), (315, 0), (336, 0), (357, 0), (378, 0), (399, 0), (420, 0), (441, 0), (462, 0), (483, 0), (504, 0), (525, 0), (546, 0), (567, 0), (588, 0), (609, 0), (630, 0), (651, 0), (672, 0), (693, 0), (714, 0), (735, 0), (756, 0), (777, 0), (798, 0), (819, 0), (840, 0), (861, 0), (882, 0), (903, 0), (924, 0), (945, 0), (966, 0), (987, 0), (1008, 0), (1029, 0), (1050, 0), (1071, 0), (1092, 0), (1113, 0), (1134, 0), (1155, 0), (1176, 0), (65, 0), (66, 0), (67, 0), (68, 0), (69, 0), (70, 0), (71, 0), (72, 0)])]
def kd_fs0 : List (Nat × xk_G) := [(1, (321, xn 2 64, kd_fill0)), (5, (73, xn 2 72, kd_mix))]
theorem kd_fs0_ok {Φ : Nat → Nat → List Int → Int} (H : kH_23 Φ) : ∀ q ∈ kd_fs0, xs_fok kwd q = true ∧ ∀ r inp, Φ q.1 r inp = xk_fn Φ kwd q.2.2.2 q.2.1 q.2.2.1 r inp := by
  intro q hq
  have hf : kd_fs0.all (xs_fok kwd) = true := by decide +kernel
  refine ⟨List.all_eq_true.mp hf q hq, ?_⟩
  unfold kd_fs0 at hq
  simp only [List.mem_cons, List.not_mem_nil, or_false] at hq
  rcases hq with rfl | rfl
  · intro r inp
    have h := (H.1.1.1.1.1.1.1.1.1.1.1.1.1.1.1.1.1.1.1.1.1.1.2) r inp
    rw [kd_fill0_eq] at h
    show Φ 1 r inp = xk_fn Φ kwd kd_fill0 321 (xn 2 64) r inp
    exact h
  · intro r inp
    have h := (H.1.1.1.1.1.1.1.1.1.1.1.1.1.1.1.1.1.1.1.1.1.2) r inp
    rw [kd_mix_eq] at h
    show Φ 5 r inp = xk_fn Φ kwd kd_mix 73 (xn 2 72) r inp
    exact h
theorem kd_block0_c : xs_c 73 (xs_flat kd_fs0 kd_drv0) = true := by decide +kernel
theorem kd_block0_e : xs_flat kd_rights km_block0_g = (xs_flat kd_fs0 kd_drv0).map (xs_re 72 ((xn 1 64 ++ xn 257 8).map (fun g => (g, 0))) 272) := by decide +kernel
theorem kd_block0_l : (xs_flat kd_fs0 kd_drv0).length = 3544 := by decide +kernel
theorem kd_block0 {Φ : Nat → Nat → List Int → Int} (H : kH_23 Φ) {inp : List Int} (hi : inp.length = 72) {r : Nat} (hr : r < 3544) : Φ 21 r inp = xk_fn Φ kwd kd_drv0 72 (xn 1 72) r inp := by
  rw [(H.1.1.2) r inp]
  exact xd_same (kd_fs0_ok H) (kd_rights_ok H) (by decide +kernel) (by decide +kernel) (by decide +kernel) (by decide +kernel) (by decide +kernel) kd_block0_c kd_block0_e hi (by rw [kd_block0_l]; exact hr)
def kd_drv64 : List xk_E := [(73, 1002, [(1, 0), (2, 0), (3, 0), (4, 0), (5, 0), (6, 0), (7, 0), (8, 0), (9, 0), (10, 0), (11, 0), (12, 0), (13, 0), (14, 0), (15, 0), (16, 0), (17, 0), (18, 0), (19, 0), (20, 0), (21, 0), (22, 0), (23, 0), (24, 0), (25, 0), (26, 0), (27, 0), (28, 0), (29, 0), (30, 0), (31, 0), (32, 0), (33, 0), (34, 0), (35, 0), (36, 0), (37, 0), (38, 0), (39, 0), (40, 0), (41, 0), (42, 0), (43, 0), (44, 0), (45, 0), (46, 0), (47, 0), (48, 0), (49, 0), (50, 0), (51, 0), (52, 0), (53, 0), (54, 0), (55, 0), (56, 0), (57, 0), (58, 0), (59, 0), (60, 0), (61, 0), (62, 0), (63, 0), (64, 0)]), (1177, 1005, [(78, 0), (84, 0), (90, 0), (96, 0), (102, 0), (108, 0), (114, 0), (120, 0), (126, 0), (132, 0), (138, 0), (144, 0), (150, 0), (156, 0), (162, 0), (168, 0), (189, 0), (210, 0), (231, 0), (252, 0), (273, 0), (294, 0), (315, 0), (336, 0), (357, 0), (378, 0), (399, 0), (420, 0), (441, 0), (462, 0), (483, 0), (504, 0), (525, 0), (546, 0), (567, 0), (588, 0), (609, 0), (630, 0), (651, 0), (672, 0), (693, 0), (714, 0), (735, 0), (756, 0), (777, 0), (798, 0), (819, 0), (840, 0), (861, 0), (882, 0), (903, 0), (924, 0), (945, 0), (966, 0), (987, 0), (1008, 0), (1029, 0), (1050, 0), (1071, 0), (1092, 0), (1113, 0), (1134, 0), (1155, 0), (1176, 0), (65, 0), (66, 0), (67, 0), (68, 0), (69, 0), (70, 0), (71, 0), (72, 0)])]
def kd_fs64 : List (Nat × xk_G) := [(2, (321, xn 66 64, kd_fill64)), (5, (73, xn 2 72, kd_mix))]
theorem kd_fs64_ok {Φ : Nat → Nat → List Int → Int} (H : kH_23 Φ) : ∀ q ∈ kd_fs64, xs_fok kwd q = true ∧ ∀ r inp, Φ q.1 r inp = xk_fn Φ kwd q.2.2.2 q.2.1 q.2.2.1 r inp := by
  intro q hq
  have hf : kd_fs64.all (xs_fok kwd) = true := by decide +kernel
  refine ⟨List.all_eq_true.mp hf q hq, ?_⟩
  unfold kd_fs64 at hq
  simp only [List.mem_cons, List.not_mem_nil, or_false] at hq
  rcases hq with rfl | rfl
  · intro r inp
    have h := (H.1.1.1.1.1.1.1.1.1.1.1.1.1.1.1.1.1.2) r inp
    rw [kd_fill64_eq] at h
    show Φ 2 r inp = xk_fn Φ kwd kd_fill64 321 (xn 66 64) r inp
    exact h
  · intro r inp
    have h := (H.1.1.1.1.1.1.1.1.1.1.1.1.1.1.1.1.1.1.1.1.1.2) r inp
    rw [kd_mix_eq] at h
    show Φ 5 r inp = xk_fn Φ kwd kd_mix 73 (xn 2 72) r inp
    exact h
theorem kd_block64_c : xs_c 73 (xs_flat kd_fs64 kd_drv64) = true := by decide +kernel
theorem kd_block64_e : xs_flat kd_rights km_block64_g = (xs_flat kd_fs64 kd_drv64).map (xs_re 72 ((xn 65 64 ++ xn 257 8).map (fun g => (g, 0))) 272) := by decide +kernel
theorem kd_block64_l : (xs_flat kd_fs64 kd_drv64).length = 3544 := by decide +kernel
theorem kd_block64 {Φ : Nat → Nat → List Int → Int} (H : kH_23 Φ) {inp : List Int} (hi : inp.length = 72) {r : Nat} (hr : r < 3544) : Φ 22 r inp = xk_fn Φ kwd kd_drv64 72 (xn 1 72) r inp := by
  rw [(H.1.2) r inp]
  exact xd_same (kd_fs64_ok H) (kd_rights_ok H) (by decide +kernel) (by decide +kernel) (by decide +kernel) (by decide +kernel) (by decide +kernel) kd_block64_c kd_block64_e hi (by rw [kd_block64_l]; exact hr)
def kd_drv128 : List xk_E := [(73, 1003, [(1, 0), (2, 0), (3, 0), (4, 0), (5, 0), (6, 0), (7, 0), (8, 0), (9, 0), (10, 0), (11, 0), (12, 0), (13, 0), (14, 0), (15, 0), (16, 0), (17, 0), (18, 0), (19, 0), (20, 0), (21, 0), (22, 0), (23, 0), (24, 0), (25, 0), (26, 0), (27, 0), (28, 0), (29, 0), (30, 0), (31, 0), (32, 0), (33, 0), (34, 0), (35, 0), (36, 0), (37, 0), (38, 0), (39, 0), (40, 0), (41, 0), (42, 0), (43, 0), (44, 0), (45, 0), (46, 0), (47, 0), (48, 0), (49, 0), (50, 0), (51, 0), (52, 0), (53, 0), (54, 0), (55, 0), (56, 0), (57, 0), (58, 0), (59, 0), (60, 0), (61, 0), (62, 0), (63, 0), (64, 0)]), (1177, 1005, [(78, 0), (84, 0), (90, 0), (96, 0), (102, 0), (108, 0), (114, 0), (120, 0), (126, 0), (132, 0), (138, 0), (144, 0), (150, 0), (156, 0), (162, 0), (168, 0), (189, 0), (210, 0), (231, 0), (252, 0), (273, 0), (294, 0), (315, 0), (336, 0), (357, 0), (378, 0), (399, 0), (420, 0), (441, 0), (462, 0), (483, 0), (504, 0), (525, 0), (546, 0), (567, 0), (588, 0), (609, 0), (630, 0), (651, 0), (672, 0), (693, 0), (714, 0), (735, 0), (756, 0), (777, 0), (798, 0), (819, 0), (840, 0), (861, 0), (882, 0), (903, 0), (924, 0), (945, 0), (966, 0), (987, 0), (1008, 0), (1029, 0), (1050, 0), (1071, 0), (1092, 0), (1113, 0), (1134, 0), (1155, 0), (1176, 0), (65, 0), (66, 0), (67, 0), (68, 0), (69, 0), (70, 0), (71, 0), (72, 0)])]
def kd_fs128 : List (Nat × xk_G) := [(3, (321, xn 130 64, kd_fill128)), (5, (73, xn 2 72, kd_mix))]
theorem kd_fs128_ok {Φ : Nat → Nat → List Int → Int} (H : kH_23 Φ) : ∀ q ∈ kd_fs128, xs_fok kwd q = true ∧ ∀ r inp, Φ q.1 r inp = xk_fn Φ kwd q.2.2.2 q.2.1 q.2.2.1 r inp := by
  intro q hq
  have hf : kd_fs128.all (xs_fok kwd) = true := by decide +kernel
  refine ⟨List.all_eq_true.mp hf q hq, ?_⟩
  unfold kd_fs128 at hq
  simp only [List.mem_cons, List.not_mem_nil, or_false] at hq
  rcases hq with rfl | rfl
  · intro r inp
    have h := (H.1.1.1.1.1.1.1.1.1.1.1.1.1.1.1.1.2) r inp
    rw [kd_fill128_eq] at h
    show Φ 3 r inp = xk_fn Φ kwd kd_fill128 321 (xn 130 64) r inp
    exact h
  · intro r inp
    have h := (H.1.1.1.1.1.1.1.1.1.1.1.1.1.1.1.1.1.1.1.1.1.2) r inp
    rw [kd_mix_eq] at h
    show Φ 5 r inp = xk_fn Φ kwd kd_mix 73 (xn 2 72) r inp
    exact h
theorem kd_block128_c : xs_c 73 (xs_flat kd_fs128 kd_drv128) = true := by decide +kernel
theorem kd_block128_e : xs_flat kd_rights km_block128_g = (xs_flat kd_fs128 kd_drv128).map (xs_re 72 ((xn 129 64 ++ xn 257 8).map (fun g => (g, 0))) 272) := by decide +kernel
theorem kd_block128_l : (xs_flat kd_fs128 kd_drv128).length = 3544 := by decide +kernel
theorem kd_block128 {Φ : Nat → Nat → List Int → Int} (H : kH_23 Φ) {inp : List Int} (hi : inp.length = 72) {r : Nat} (hr : r < 3544) : Φ 23 r inp = xk_fn Φ kwd kd_drv128 72 (xn 1 72) r inp := by
  rw [(H.2) r inp]
  exact xd_same (kd_fs128_ok H) (kd_rights_ok H) (by decide +kernel) (by decide +kernel) (by decide +kernel) (by decide +kernel) (by decide +kernel) kd_block128_c kd_block128_e hi (by rw [kd_block128_l]; exact hr)
