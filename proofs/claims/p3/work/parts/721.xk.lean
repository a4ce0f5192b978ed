/-! ===== the class: finish, whatever has been added ===== -/
def kf_T (c : Int) : List xk_C := [((0, 3), [(5, 0, 0), (2, 2, 0), (0, (0, c)), (2, 3, 0), (2, 4, 0), (5, 5, 0), (5, 6, 0), (5, 7, 0)]), ((1, 0), xi 1 32), ((1, 0), xi 33 256), ((1, 0), xi 289 64), ((1, 0), xi 353 8)]
def kf_T2 : List xk_C := [((0, 3), [(5, 0, 0), (2, 2, 0), (0, 361, 0), (2, 3, 0), (2, 4, 0), (5, 5, 0), (5, 6, 0), (5, 7, 0)]), ((1, 0), xi 1 32), ((1, 0), xi 33 256), ((1, 0), xi 289 64), ((1, 0), xi 353 8)]
def kf_F : List xk_C := [((0, 3), [(5, 0, 0), (2, 2, 0), (4, 0, 0), (2, 3, 0), (2, 4, 0), (5, 5, 0), (5, 6, 0), (5, 7, 0)]), ((1, 0), xi 361 32), ((1, 0), List.replicate 256 (4, 0, 0)), ((1, 0), List.replicate 64 (4, 0, 0)), ((1, 0), List.replicate 8 (4, 0, 0))]
def kf_rf : List (Nat × xk_V) := [(0, (2, 0, 0)), (1, (2, 1, 0))]
def kf_l2 : List (Nat × xk_V) := (3, (0, (362, 0))) :: (2, (0, (361, 0))) :: kf_rf
def kf_ad (c : Nat) : List xk_Q := [(62, (2, (c : Int)), kx_add c)]
theorem kf_ad_ok {l : Launch} {Φ : Nat → Nat → List Int → Int} (H : kH_37 Φ) {c : Nat} (hc : c < 256) : xk_Cts l Φ kwh (0, 2147483647) cm_ms (kf_ad c) := xk_Cts.one cm_g62 ((kx_add_ok H.1.1.1.1.1.1.1.1.1.1.1.1.1.1.1.1.1.1.1.1.1.1.1.1.1.1.1.1.1.1.1.1.1.1.1 c hc).wd rfl) xk_Cts.nil
def kfe_b (n : Nat) : Bool := xk_sg ce_4 cm_ms (kf_ad n) kco_66 cm_66.1 1 23 kwh [20] 30 360 (0, kf_rf, [], kf_T (n : Int), [], 361) [] (fun g => if g = 33 + n then (0, 128) else if g ≤ 360 then (g, 0) else if g = 361 then (0, 8 * (n : Int)) else (0, 0)) 20 (kf_l2, [(0, (0, 64)), (0, (362, 0))], kf_T ((n : Int) + 1))
theorem kf_p1 : ∀ t : Nat, t < 64 → xk_sem 0 [(t : Int), 1] = (t : Int) + 1 := by decide +kernel
theorem kfe_a0 : (List.range 16).all (fun c => kfe_b (0 + c)) = true := by decide +kernel
theorem kfe_a1 : (List.range 16).all (fun c => kfe_b (16 + c)) = true := by decide +kernel
theorem kfe_a2 : (List.range 16).all (fun c => kfe_b (32 + c)) = true := by decide +kernel
theorem kfe_a3 : (List.range 16).all (fun c => kfe_b (48 + c)) = true := by decide +kernel
theorem kfe_a4 : (List.range 16).all (fun c => kfe_b (64 + c)) = true := by decide +kernel
theorem kfe_a5 : (List.range 16).all (fun c => kfe_b (80 + c)) = true := by decide +kernel
theorem kfe_a6 : (List.range 16).all (fun c => kfe_b (96 + c)) = true := by decide +kernel
theorem kfe_a7 : (List.range 16).all (fun c => kfe_b (112 + c)) = true := by decide +kernel
theorem kfe_a8 : (List.range 1).all (fun c => kfe_b (128 + c)) = true := by decide +kernel
theorem kfe_all (c : Nat) (h0 : 0 ≤ c) (hc : c < 129) : kfe_b c = true := by
  by_cases h0 : c < 16
  · exact xk_ran kfe_a0 (by omega) (by omega)
  by_cases h1 : c < 32
  · exact xk_ran kfe_a1 (by omega) (by omega)
  by_cases h2 : c < 48
  · exact xk_ran kfe_a2 (by omega) (by omega)
  by_cases h3 : c < 64
  · exact xk_ran kfe_a3 (by omega) (by omega)
  by_cases h4 : c < 80
  · exact xk_ran kfe_a4 (by omega) (by omega)
  by_cases h5 : c < 96
  · exact xk_ran kfe_a5 (by omega) (by omega)
  by_cases h6 : c < 112
  · exact xk_ran kfe_a6 (by omega) (by omega)
  by_cases h7 : c < 128
  · exact xk_ran kfe_a7 (by omega) (by omega)
  exact xk_ran kfe_a8 (by omega) (by omega)
def kfb_b (c : Nat) : Bool := c % 64 == 56 || xk_sg ce_4 cm_ms (kf_ad c) kco_66 cm_66.1 1 23 kwh [20] 30 362 (23, kf_l2, [], kf_T (c : Int), [], 363) [(363, 0, [(362, 0), (0, 1)])] (fun g => if g = 33 + c then (0, 0) else if g ≤ 361 then (g, 0) else (363, 0)) 20 (kf_l2, [(0, (0, 64)), (0, (362, 0))], kf_T ((c : Int) + 1))
theorem kfb_a0 : (List.range 16).all (fun c => kfb_b (1 + c)) = true := by decide +kernel
theorem kfb_a1 : (List.range 16).all (fun c => kfb_b (17 + c)) = true := by decide +kernel
theorem kfb_a2 : (List.range 16).all (fun c => kfb_b (33 + c)) = true := by decide +kernel
theorem kfb_a3 : (List.range 16).all (fun c => kfb_b (49 + c)) = true := by decide +kernel
theorem kfb_a4 : (List.range 16).all (fun c => kfb_b (65 + c)) = true := by decide +kernel
theorem kfb_a5 : (List.range 16).all (fun c => kfb_b (81 + c)) = true := by decide +kernel
theorem kfb_a6 : (List.range 16).all (fun c => kfb_b (97 + c)) = true := by decide +kernel
theorem kfb_a7 : (List.range 16).all (fun c => kfb_b (113 + c)) = true := by decide +kernel
theorem kfb_a8 : (List.range 16).all (fun c => kfb_b (129 + c)) = true := by decide +kernel
theorem kfb_a9 : (List.range 16).all (fun c => kfb_b (145 + c)) = true := by decide +kernel
theorem kfb_a10 : (List.range 16).all (fun c => kfb_b (161 + c)) = true := by decide +kernel
theorem kfb_a11 : (List.range 7).all (fun c => kfb_b (177 + c)) = true := by decide +kernel
theorem kfb_all (c : Nat) (h0 : 1 ≤ c) (hc : c < 184) : kfb_b c = true := by
  by_cases h0 : c < 17
  · exact xk_ran kfb_a0 (by omega) (by omega)
  by_cases h1 : c < 33
  · exact xk_ran kfb_a1 (by omega) (by omega)
  by_cases h2 : c < 49
  · exact xk_ran kfb_a2 (by omega) (by omega)
  by_cases h3 : c < 65
  · exact xk_ran kfb_a3 (by omega) (by omega)
  by_cases h4 : c < 81
  · exact xk_ran kfb_a4 (by omega) (by omega)
  by_cases h5 : c < 97
  · exact xk_ran kfb_a5 (by omega) (by omega)
  by_cases h6 : c < 113
  · exact xk_ran kfb_a6 (by omega) (by omega)
  by_cases h7 : c < 129
  · exact xk_ran kfb_a7 (by omega) (by omega)
  by_cases h8 : c < 145
  · exact xk_ran kfb_a8 (by omega) (by omega)
  by_cases h9 : c < 161
  · exact xk_ran kfb_a9 (by omega) (by omega)
  by_cases h10 : c < 177
  · exact xk_ran kfb_a10 (by omega) (by omega)
  exact xk_ran kfb_a11 (by omega) (by omega)
def kf_c56 : List xk_Q := [(62, (2, 56), kx_add 56), (62, (2, 57), kx_add 57), (62, (2, 58), kx_add 58), (62, (2, 59), kx_add 59), (62, (2, 60), kx_add 60), (62, (2, 61), kx_add 61), (62, (2, 62), kx_add 62), (62, (2, 63), kx_add 63), (65, (99, 0), kx_fill0), (69, (99, 0), kx_mix)]
theorem kf_c56_ok {l : Launch} {Φ : Nat → Nat → List Int → Int} (H : kH_37 Φ) : xk_Cts l Φ kwh (0, 2147483647) cm_ms kf_c56 := (xk_Cts.one cm_g62 ((kx_add_ok H.1.1.1.1.1.1.1.1.1.1.1.1.1.1.1.1.1.1.1.1.1.1.1.1.1.1.1.1.1.1.1.1.1.1.1 56 (by decide)).wd rfl) (xk_Cts.one cm_g62 ((kx_add_ok H.1.1.1.1.1.1.1.1.1.1.1.1.1.1.1.1.1.1.1.1.1.1.1.1.1.1.1.1.1.1.1.1.1.1.1 57 (by decide)).wd rfl) (xk_Cts.one cm_g62 ((kx_add_ok H.1.1.1.1.1.1.1.1.1.1.1.1.1.1.1.1.1.1.1.1.1.1.1.1.1.1.1.1.1.1.1.1.1.1.1 58 (by decide)).wd rfl) (xk_Cts.one cm_g62 ((kx_add_ok H.1.1.1.1.1.1.1.1.1.1.1.1.1.1.1.1.1.1.1.1.1.1.1.1.1.1.1.1.1.1.1.1.1.1.1 59 (by decide)).wd rfl) (xk_Cts.one cm_g62 ((kx_add_ok H.1.1.1.1.1.1.1.1.1.1.1.1.1.1.1.1.1.1.1.1.1.1.1.1.1.1.1.1.1.1.1.1.1.1.1 60 (by decide)).wd rfl) (xk_Cts.one cm_g62 ((kx_add_ok H.1.1.1.1.1.1.1.1.1.1.1.1.1.1.1.1.1.1.1.1.1.1.1.1.1.1.1.1.1.1.1.1.1.1.1 61 (by decide)).wd rfl) (xk_Cts.one cm_g62 ((kx_add_ok H.1.1.1.1.1.1.1.1.1.1.1.1.1.1.1.1.1.1.1.1.1.1.1.1.1.1.1.1.1.1.1.1.1.1.1 62 (by decide)).wd rfl) (xk_Cts.one cm_g62 ((kx_add_ok H.1.1.1.1.1.1.1.1.1.1.1.1.1.1.1.1.1.1.1.1.1.1.1.1.1.1.1.1.1.1.1.1.1.1.1 63 (by decide)).wd rfl) (xk_Cts.one cm_g65 ((kx_fill0_ok H.1.1.1.1.1.1.1.1.1.1.1.1.1.1.1.1.1.1.1.1.1.1.1.1.1.1.1.1.1.1.1.1.1.1.1.1).wd rfl) (xk_Cts.one cm_g69 ((kx_mix_ok H.1.1.1.1.1.1.1.1.1.1.1.1.1.1.1.1.1.1.1.1.1.1.1.1.1.1.1.1.1.1.1.1.1.1.1).wd rfl) xk_Cts.nil))))))))))
def kf_t56 : List xk_E := [(362, 28, [(361, 0), (0, 56)]), (363, 30, [(362, 0)]), (364, 3, [(363, 0), (0, 255)]), (365, 28, [(361, 0), (0, 48)]), (366, 30, [(365, 0)]), (367, 3, [(366, 0), (0, 255)]), (368, 28, [(361, 0), (0, 40)]), (369, 30, [(368, 0)]), (370, 3, [(369, 0), (0, 255)]), (371, 28, [(361, 0), (0, 32)]), (372, 30, [(371, 0)]), (373, 3, [(372, 0), (0, 255)]), (374, 28, [(361, 0), (0, 24)]), (375, 30, [(374, 0)]), (376, 3, [(375, 0), (0, 255)]), (377, 28, [(361, 0), (0, 16)]), (378, 30, [(377, 0)]), (379, 3, [(378, 0), (0, 255)]), (380, 28, [(361, 0), (0, 8)]), (381, 30, [(380, 0)]), (382, 3, [(381, 0), (0, 255)]), (383, 28, [(361, 0), (0, 0)]), (384, 30, [(383, 0)]), (385, 3, [(384, 0), (0, 255)]), (386, 1001, [(33, 0), (34, 0), (35, 0), (36, 0), (37, 0), (38, 0), (39, 0), (40, 0), (41, 0), (42, 0), (43, 0), (44, 0), (45, 0), (46, 0), (47, 0), (48, 0), (49, 0), (50, 0), (51, 0), (52, 0), (53, 0), (54, 0), (55, 0), (56, 0), (57, 0), (58, 0), (59, 0), (60, 0), (61, 0), (62, 0), (63, 0), (64, 0), (65, 0), (66, 0), (67, 0), (68, 0), (69, 0), (70, 0), (71, 0), (72, 0), (73, 0), (74, 0), (75, 0), (76, 0), (77, 0), (78, 0), (79, 0), (80, 0), (81, 0), (82, 0), (83, 0), (84, 0), (85, 0), (86, 0), (87, 0), (88, 0), (364, 0), (367, 0), (370, 0), (373, 0), (376, 0), (379, 0), (382, 0), (385, 0)]), (1490, 1005, [(391, 0), (397, 0), (403, 0), (409, 0), (415, 0), (421, 0), (427, 0), (433, 0), (439, 0), (445, 0), (451, 0), (457, 0), (463, 0), (469, 0), (475, 0), (481, 0), (502, 0), (523, 0), (544, 0), (565, 0), (586, 0), (607, 0), (628, 0), (649, 0), (670, 0), (691, 0), (712, 0), (733, 0), (754, 0), (775, 0), (796, 0), (817, 0), (838, 0), (859, 0), (880, 0), (901, 0), (922, 0), (943, 0), (964, 0), (985, 0), (1006, 0), (1027, 0), (1048, 0), (1069, 0), (1090, 0), (1111, 0), (1132, 0), (1153, 0), (1174, 0), (1195, 0), (1216, 0), (1237, 0), (1258, 0), (1279, 0), (1300, 0), (1321, 0), (1342, 0), (1363, 0), (1384, 0), (1405, 0), (1426, 0), (1447, 0), (1468, 0), (1489, 0), (0, 1779033703), (0, -1150833019), (0, 1013904242), (0, -1521486534), (0, 1359893119), (0, -1694144372), (0, 528734635), (0, 1541459225)])]
def kf_o56 : List xk_O := [(3922, 0), (3923, 0), (3924, 0), (3925, 0), (3926, 0), (3927, 0), (3928, 0), (3929, 0)]
theorem kf_x56 : xk_sg ce_4 cm_ms [] kco_66 cm_66.1 1 23 kwh [46] 30 362 (23, kf_l2, [], kf_T 56, [], 363) [] (fun g => (g, 0)) 46 ((2, (0, (361, 0))) :: kf_rf, [], kf_T 56) = true := by decide +kernel
def kf_w56 : List xk_O := [(364, 0), (367, 0), (370, 0), (373, 0), (376, 0), (379, 0), (382, 0), (385, 0), (391, 0), (397, 0), (403, 0), (409, 0), (415, 0), (421, 0), (427, 0), (433, 0), (439, 0), (445, 0), (451, 0), (457, 0), (463, 0), (469, 0), (475, 0), (481, 0), (502, 0), (523, 0), (544, 0), (565, 0), (586, 0), (607, 0), (628, 0), (649, 0), (670, 0), (691, 0), (712, 0), (733, 0), (754, 0), (775, 0), (796, 0), (817, 0), (838, 0), (859, 0), (880, 0), (901, 0), (922, 0), (943, 0), (964, 0), (985, 0), (1006, 0), (1027, 0), (1048, 0), (1069, 0), (1090, 0), (1111, 0), (1132, 0), (1153, 0), (1174, 0), (1195, 0), (1216, 0), (1237, 0), (1258, 0), (1279, 0), (1300, 0), (1321, 0), (1342, 0), (1363, 0), (1384, 0), (1405, 0), (1426, 0), (1447, 0), (1468, 0), (1489, 0)]
def kf_r56 : Nat → xk_O := fun g => if g < 89 then (g, 0) else if g < 97 then kf_w56.getD (g - 89) (0, 0) else if g < 289 then (g, 0) else if g < 353 then kf_w56.getD (g - 289 + 8) (0, 0) else if g < 361 then kf_o56.getD (g - 353) (0, 0) else (0, 64)
theorem kf_s56 : xk_sg ce_4 cm_ms kf_c56 kco_66 cm_66.1 1 23 kwh [114] 600 361 (46, (2, (0, (361, 0))) :: kf_rf, [], kf_T 56, [], 362) kf_t56 kf_r56 114 (kf_rf, [], kf_T2) = true := by decide +kernel
theorem kf_k56 : xk_tck kwh 361 (xn 33 56 ++ [361]) kf_t56 kf_o56 = true := by decide +kernel
def kf_c120 : List xk_Q := [(62, (2, 120), kx_add 120), (62, (2, 121), kx_add 121), (62, (2, 122), kx_add 122), (62, (2, 123), kx_add 123), (62, (2, 124), kx_add 124), (62, (2, 125), kx_add 125), (62, (2, 126), kx_add 126), (62, (2, 127), kx_add 127), (65, (99, 0), kx_fill0), (65, (99, 0), kx_fill64), (69, (99, 0), kx_mix)]
theorem kf_c120_ok {l : Launch} {Φ : Nat → Nat → List Int → Int} (H : kH_37 Φ) : xk_Cts l Φ kwh (0, 2147483647) cm_ms kf_c120 := (xk_Cts.one cm_g62 ((kx_add_ok H.1.1.1.1.1.1.1.1.1.1.1.1.1.1.1.1.1.1.1.1.1.1.1.1.1.1.1.1.1.1.1.1.1.1.1 120 (by decide)).wd rfl) (xk_Cts.one cm_g62 ((kx_add_ok H.1.1.1.1.1.1.1.1.1.1.1.1.1.1.1.1.1.1.1.1.1.1.1.1.1.1.1.1.1.1.1.1.1.1.1 121 (by decide)).wd rfl) (xk_Cts.one cm_g62 ((kx_add_ok H.1.1.1.1.1.1.1.1.1.1.1.1.1.1.1.1.1.1.1.1.1.1.1.1.1.1.1.1.1.1.1.1.1.1.1 122 (by decide)).wd rfl) (xk_Cts.one cm_g62 ((kx_add_ok H.1.1.1.1.1.1.1.1.1.1.1.1.1.1.1.1.1.1.1.1.1.1.1.1.1.1.1.1.1.1.1.1.1.1.1 123 (by decide)).wd rfl) (xk_Cts.one cm_g62 ((kx_add_ok H.1.1.1.1.1.1.1.1.1.1.1.1.1.1.1.1.1.1.1.1.1.1.1.1.1.1.1.1.1.1.1.1.1.1.1 124 (by decide)).wd rfl) (xk_Cts.one cm_g62 ((kx_add_ok H.1.1.1.1.1.1.1.1.1.1.1.1.1.1.1.1.1.1.1.1.1.1.1.1.1.1.1.1.1.1.1.1.1.1.1 125 (by decide)).wd rfl) (xk_Cts.one cm_g62 ((kx_add_ok H.1.1.1.1.1.1.1.1.1.1.1.1.1.1.1.1.1.1.1.1.1.1.1.1.1.1.1.1.1.1.1.1.1.1.1 126 (by decide)).wd rfl) (xk_Cts.one cm_g62 ((kx_add_ok H.1.1.1.1.1.1.1.1.1.1.1.1.1.1.1.1.1.1.1.1.1.1.1.1.1.1.1.1.1.1.1.1.1.1.1 127 (by decide)).wd rfl) (xk_Cts.one cm_g65 ((kx_fill0_ok H.1.1.1.1.1.1.1.1.1.1.1.1.1.1.1.1.1.1.1.1.1.1.1.1.1.1.1.1.1.1.1.1.1.1.1.1).wd rfl) (xk_Cts.one cm_g65 ((kx_fill64_ok H.1.1.1.1.1.1.1.1.1.1.1.1.1.1.1.1.1.1.1.1.1.1.1.1.1.1.1.1.1.1.1).wd rfl) (xk_Cts.one cm_g69 ((kx_mix_ok H.1.1.1.1.1.1.1.1.1.1.1.1.1.1.1.1.1.1.1.1.1.1.1.1.1.1.1.1.1.1.1.1.1.1.1).wd rfl) xk_Cts.nil)))))))))))
def kf_t120 : List xk_E := [(362, 28, [(361, 0), (0, 56)]), (363, 30, [(362, 0)]), (364, 3, [(363, 0), (0, 255)]), (365, 28, [(361, 0), (0, 48)]), (366, 30, [(365, 0)]), (367, 3, [(366, 0), (0, 255)]), (368, 28, [(361, 0), (0, 40)]), (369, 30, [(368, 0)]), (370, 3, [(369, 0), (0, 255)]), (371, 28, [(361, 0), (0, 32)]), (372, 30, [(371, 0)]), (373, 3, [(372, 0), (0, 255)]), (374, 28, [(361, 0), (0, 24)]), (375, 30, [(374, 0)]), (376, 3, [(375, 0), (0, 255)]), (377, 28, [(361, 0), (0, 16)]), (378, 30, [(377, 0)]), (379, 3, [(378, 0), (0, 255)]), (380, 28, [(361, 0), (0, 8)]), (381, 30, [(380, 0)]), (382, 3, [(381, 0), (0, 255)]), (383, 28, [(361, 0), (0, 0)]), (384, 30, [(383, 0)]), (385, 3, [(384, 0), (0, 255)]), (386, 1001, [(33, 0), (34, 0), (35, 0), (36, 0), (37, 0), (38, 0), (39, 0), (40, 0), (41, 0), (42, 0), (43, 0), (44, 0), (45, 0), (46, 0), (47, 0), (48, 0), (49, 0), (50, 0), (51, 0), (52, 0), (53, 0), (54, 0), (55, 0), (56, 0), (57, 0), (58, 0), (59, 0), (60, 0), (61, 0), (62, 0), (63, 0), (64, 0), (65, 0), (66, 0), (67, 0), (68, 0), (69, 0), (70, 0), (71, 0), (72, 0), (73, 0), (74, 0), (75, 0), (76, 0), (77, 0), (78, 0), (79, 0), (80, 0), (81, 0), (82, 0), (83, 0), (84, 0), (85, 0), (86, 0), (87, 0), (88, 0), (89, 0), (90, 0), (91, 0), (92, 0), (93, 0), (94, 0), (95, 0), (96, 0)]), (1490, 1005, [(391, 0), (397, 0), (403, 0), (409, 0), (415, 0), (421, 0), (427, 0), (433, 0), (439, 0), (445, 0), (451, 0), (457, 0), (463, 0), (469, 0), (475, 0), (481, 0), (502, 0), (523, 0), (544, 0), (565, 0), (586, 0), (607, 0), (628, 0), (649, 0), (670, 0), (691, 0), (712, 0), (733, 0), (754, 0), (775, 0), (796, 0), (817, 0), (838, 0), (859, 0), (880, 0), (901, 0), (922, 0), (943, 0), (964, 0), (985, 0), (1006, 0), (1027, 0), (1048, 0), (1069, 0), (1090, 0), (1111, 0), (1132, 0), (1153, 0), (1174, 0), (1195, 0), (1216, 0), (1237, 0), (1258, 0), (1279, 0), (1300, 0), (1321, 0), (1342, 0), (1363, 0), (1384, 0), (1405, 0), (1426, 0), (1447, 0), (1468, 0), (1489, 0), (0, 1779033703), (0, -1150833019), (0, 1013904242), (0, -1521486534), (0, 1359893119), (0, -1694144372), (0, 528734635), (0, 1541459225)]), (3930, 1002, [(97, 0), (98, 0), (99, 0), (100, 0), (101, 0), (102, 0), (103, 0), (104, 0), (105, 0), (106, 0), (107, 0), (108, 0), (109, 0), (110, 0), (111, 0), (112, 0), (113, 0), (114, 0), (115, 0), (116, 0), (117, 0), (118, 0), (119, 0), (120, 0), (121, 0), (122, 0), (123, 0), (124, 0), (125, 0), (126, 0), (127, 0), (128, 0), (129, 0), (130, 0), (131, 0), (132, 0), (133, 0), (134, 0), (135, 0), (136, 0), (137, 0), (138, 0), (139, 0), (140, 0), (141, 0), (142, 0), (143, 0), (144, 0), (145, 0), (146, 0), (147, 0), (148, 0), (149, 0), (150, 0), (151, 0), (152, 0), (364, 0), (367, 0), (370, 0), (373, 0), (376, 0), (379, 0), (382, 0), (385, 0)]), (5034, 1005, [(3935, 0), (3941, 0), (3947, 0), (3953, 0), (3959, 0), (3965, 0), (3971, 0), (3977, 0), (3983, 0), (3989, 0), (3995, 0), (4001, 0), (4007, 0), (4013, 0), (4019, 0), (4025, 0), (4046, 0), (4067, 0), (4088, 0), (4109, 0), (4130, 0), (4151, 0), (4172, 0), (4193, 0), (4214, 0), (4235, 0), (4256, 0), (4277, 0), (4298, 0), (4319, 0), (4340, 0), (4361, 0), (4382, 0), (4403, 0), (4424, 0), (4445, 0), (4466, 0), (4487, 0), (4508, 0), (4529, 0), (4550, 0), (4571, 0), (4592, 0), (4613, 0), (4634, 0), (4655, 0), (4676, 0), (4697, 0), (4718, 0), (4739, 0), (4760, 0), (4781, 0), (4802, 0), (4823, 0), (4844, 0), (4865, 0), (4886, 0), (4907, 0), (4928, 0), (4949, 0), (4970, 0), (4991, 0), (5012, 0), (5033, 0), (3922, 0), (3923, 0), (3924, 0), (3925, 0), (3926, 0), (3927, 0), (3928, 0), (3929, 0)])]
def kf_o120 : List xk_O := [(7466, 0), (7467, 0), (7468, 0), (7469, 0), (7470, 0), (7471, 0), (7472, 0), (7473, 0)]
theorem kf_x120 : xk_sg ce_4 cm_ms [] kco_66 cm_66.1 1 23 kwh [46] 30 362 (23, kf_l2, [], kf_T 120, [], 363) [] (fun g => (g, 0)) 46 ((2, (0, (361, 0))) :: kf_rf, [], kf_T 120) = true := by decide +kernel
def kf_w120 : List xk_O := [(364, 0), (367, 0), (370, 0), (373, 0), (376, 0), (379, 0), (382, 0), (385, 0), (3935, 0), (3941, 0), (3947, 0), (3953, 0), (3959, 0), (3965, 0), (3971, 0), (3977, 0), (3983, 0), (3989, 0), (3995, 0), (4001, 0), (4007, 0), (4013, 0), (4019, 0), (4025, 0), (4046, 0), (4067, 0), (4088, 0), (4109, 0), (4130, 0), (4151, 0), (4172, 0), (4193, 0), (4214, 0), (4235, 0), (4256, 0), (4277, 0), (4298, 0), (4319, 0), (4340, 0), (4361, 0), (4382, 0), (4403, 0), (4424, 0), (4445, 0), (4466, 0), (4487, 0), (4508, 0), (4529, 0), (4550, 0), (4571, 0), (4592, 0), (4613, 0), (4634, 0), (4655, 0), (4676, 0), (4697, 0), (4718, 0), (4739, 0), (4760, 0), (4781, 0), (4802, 0), (4823, 0), (4844, 0), (4865, 0), (4886, 0), (4907, 0), (4928, 0), (4949, 0), (4970, 0), (4991, 0), (5012, 0), (5033, 0)]
def kf_r120 : Nat → xk_O := fun g => if g < 153 then (g, 0) else if g < 161 then kf_w120.getD (g - 153) (0, 0) else if g < 289 then (g, 0) else if g < 353 then kf_w120.getD (g - 289 + 8) (0, 0) else if g < 361 then kf_o120.getD (g - 353) (0, 0) else (0, 128)
theorem kf_s120 : xk_sg ce_4 cm_ms kf_c120 kco_66 cm_66.1 1 23 kwh [114] 600 361 (46, (2, (0, (361, 0))) :: kf_rf, [], kf_T 120, [], 362) kf_t120 kf_r120 114 (kf_rf, [], kf_T2) = true := by decide +kernel
theorem kf_k120 : xk_tck kwh 361 (xn 33 120 ++ [361]) kf_t120 kf_o120 = true := by decide +kernel
def kf_c184 : List xk_Q := [(62, (2, 184), kx_add 184), (62, (2, 185), kx_add 185), (62, (2, 186), kx_add 186), (62, (2, 187), kx_add 187), (62, (2, 188), kx_add 188), (62, (2, 189), kx_add 189), (62, (2, 190), kx_add 190), (62, (2, 191), kx_add 191), (65, (99, 0), kx_fill0), (65, (99, 0), kx_fill64), (65, (99, 0), kx_fill128), (69, (99, 0), kx_mix)]
theorem kf_c184_ok {l : Launch} {Φ : Nat → Nat → List Int → Int} (H : kH_37 Φ) : xk_Cts l Φ kwh (0, 2147483647) cm_ms kf_c184 := (xk_Cts.one cm_g62 ((kx_add_ok H.1.1.1.1.1.1.1.1.1.1.1.1.1.1.1.1.1.1.1.1.1.1.1.1.1.1.1.1.1.1.1.1.1.1.1 184 (by decide)).wd rfl) (xk_Cts.one cm_g62 ((kx_add_ok H.1.1.1.1.1.1.1.1.1.1.1.1.1.1.1.1.1.1.1.1.1.1.1.1.1.1.1.1.1.1.1.1.1.1.1 185 (by decide)).wd rfl) (xk_Cts.one cm_g62 ((kx_add_ok H.1.1.1.1.1.1.1.1.1.1.1.1.1.1.1.1.1.1.1.1.1.1.1.1.1.1.1.1.1.1.1.1.1.1.1 186 (by decide)).wd rfl) (xk_Cts.one cm_g62 ((kx_add_ok H.1.1.1.1.1.1.1.1.1.1.1.1.1.1.1.1.1.1.1.1.1.1.1.1.1.1.1.1.1.1.1.1.1.1.1 187 (by decide)).wd rfl) (xk_Cts.one cm_g62 ((kx_add_ok H.1.1.1.1.1.1.1.1.1.1.1.1.1.1.1.1.1.1.1.1.1.1.1.1.1.1.1.1.1.1.1.1.1.1.1 188 (by decide)).wd rfl) (xk_Cts.one cm_g62 ((kx_add_ok H.1.1.1.1.1.1.1.1.1.1.1.1.1.1.1.1.1.1.1.1.1.1.1.1.1.1.1.1.1.1.1.1.1.1.1 189 (by decide)).wd rfl) (xk_Cts.one cm_g62 ((kx_add_ok H.1.1.1.1.1.1.1.1.1.1.1.1.1.1.1.1.1.1.1.1.1.1.1.1.1.1.1.1.1.1.1.1.1.1.1 190 (by decide)).wd rfl) (xk_Cts.one cm_g62 ((kx_add_ok H.1.1.1.1.1.1.1.1.1.1.1.1.1.1.1.1.1.1.1.1.1.1.1.1.1.1.1.1.1.1.1.1.1.1.1 191 (by decide)).wd rfl) (xk_Cts.one cm_g65 ((kx_fill0_ok H.1.1.1.1.1.1.1.1.1.1.1.1.1.1.1.1.1.1.1.1.1.1.1.1.1.1.1.1.1.1.1.1.1.1.1.1).wd rfl) (xk_Cts.one cm_g65 ((kx_fill64_ok H.1.1.1.1.1.1.1.1.1.1.1.1.1.1.1.1.1.1.1.1.1.1.1.1.1.1.1.1.1.1.1).wd rfl) (xk_Cts.one cm_g65 ((kx_fill128_ok H.1.1.1.1.1.1.1.1.1.1.1.1.1.1.1.1.1.1.1.1.1.1.1.1.1.1.1.1.1.1).wd rfl) (xk_Cts.one cm_g69 ((kx_mix_ok H.1.1.1.1.1.1.1.1.1.1.1.1.1.1.1.1.1.1.1.1.1.1.1.1.1.1.1.1.1.1.1.1.1.1.1).wd rfl) xk_Cts.nil))))))))))))
def kf_t184 : List xk_E := [(362, 28, [(361, 0), (0, 56)]), (363, 30, [(362, 0)]), (364, 3, [(363, 0), (0, 255)]), (365, 28, [(361, 0), (0, 48)]), (366, 30, [(365, 0)]), (367, 3, [(366, 0), (0, 255)]), (368, 28, [(361, 0), (0, 40)]), (369, 30, [(368, 0)]), (370, 3, [(369, 0), (0, 255)]), (371, 28, [(361, 0), (0, 32)]), (372, 30, [(371, 0)]), (373, 3, [(372, 0), (0, 255)]), (374, 28, [(361, 0), (0, 24)]), (375, 30, [(374, 0)]), (376, 3, [(375, 0), (0, 255)]), (377, 28, [(361, 0), (0, 16)]), (378, 30, [(377, 0)]), (379, 3, [(378, 0), (0, 255)]), (380, 28, [(361, 0), (0, 8)]), (381, 30, [(380, 0)]), (382, 3, [(381, 0), (0, 255)]), (383, 28, [(361, 0), (0, 0)]), (384, 30, [(383, 0)]), (385, 3, [(384, 0), (0, 255)]), (386, 1001, [(33, 0), (34, 0), (35, 0), (36, 0), (37, 0), (38, 0), (39, 0), (40, 0), (41, 0), (42, 0), (43, 0), (44, 0), (45, 0), (46, 0), (47, 0), (48, 0), (49, 0), (50, 0), (51, 0), (52, 0), (53, 0), (54, 0), (55, 0), (56, 0), (57, 0), (58, 0), (59, 0), (60, 0), (61, 0), (62, 0), (63, 0), (64, 0), (65, 0), (66, 0), (67, 0), (68, 0), (69, 0), (70, 0), (71, 0), (72, 0), (73, 0), (74, 0), (75, 0), (76, 0), (77, 0), (78, 0), (79, 0), (80, 0), (81, 0), (82, 0), (83, 0), (84, 0), (85, 0), (86, 0), (87, 0), (88, 0), (89, 0), (90, 0), (91, 0), (92, 0), (93, 0), (94, 0), (95, 0), (96, 0)]), (1490, 1005, [(391, 0), (397, 0), (403, 0), (409, 0), (415, 0), (421, 0), (427, 0), (433, 0), (439, 0), (445, 0), (451, 0), (457, 0), (463, 0), (469, 0), (475, 0), (481, 0), (502, 0), (523, 0), (544, 0), (565, 0), (586, 0), (607, 0), (628, 0), (649, 0), (670, 0), (691, 0), (712, 0), (733, 0), (754, 0), (775, 0), (796, 0), (817, 0), (838, 0), (859, 0), (880, 0), (901, 0), (922, 0), (943, 0), (964, 0), (985, 0), (1006, 0), (1027, 0), (1048, 0), (1069, 0), (1090, 0), (1111, 0), (1132, 0), (1153, 0), (1174, 0), (1195, 0), (1216, 0), (1237, 0), (1258, 0), (1279, 0), (1300, 0), (1321, 0), (1342, 0), (1363, 0), (1384, 0), (1405, 0), (1426, 0), (1447, 0), (1468, 0), (1489, 0), (0, 1779033703), (0, -1150833019), (0, 1013904242), (0, -1521486534), (0, 1359893119), (0, -1694144372), (0, 528734635), (0, 1541459225)]), (3930, 1002, [(97, 0), (98, 0), (99, 0), (100, 0), (101, 0), (102, 0), (103, 0), (104, 0), (105, 0), (106, 0), (107, 0), (108, 0), (109, 0), (110, 0), (111, 0), (112, 0), (113, 0), (114, 0), (115, 0), (116, 0), (117, 0), (118, 0), (119, 0), (120, 0), (121, 0), (122, 0), (123, 0), (124, 0), (125, 0), (126, 0), (127, 0), (128, 0), (129, 0), (130, 0), (131, 0), (132, 0), (133, 0), (134, 0), (135, 0), (136, 0), (137, 0), (138, 0), (139, 0), (140, 0), (141, 0), (142, 0), (143, 0), (144, 0), (145, 0), (146, 0), (147, 0), (148, 0), (149, 0), (150, 0), (151, 0), (152, 0), (153, 0), (154, 0), (155, 0), (156, 0), (157, 0), (158, 0), (159, 0), (160, 0)]), (5034, 1005, [(3935, 0), (3941, 0), (3947, 0), (3953, 0), (3959, 0), (3965, 0), (3971, 0), (3977, 0), (3983, 0), (3989, 0), (3995, 0), (4001, 0), (4007, 0), (4013, 0), (4019, 0), (4025, 0), (4046, 0), (4067, 0), (4088, 0), (4109, 0), (4130, 0), (4151, 0), (4172, 0), (4193, 0), (4214, 0), (4235, 0), (4256, 0), (4277, 0), (4298, 0), (4319, 0), (4340, 0), (4361, 0), (4382, 0), (4403, 0), (4424, 0), (4445, 0), (4466, 0), (4487, 0), (4508, 0), (4529, 0), (4550, 0), (4571, 0), (4592, 0), (4613, 0), (4634, 0), (4655, 0), (4676, 0), (4697, 0), (4718, 0), (4739, 0), (4760, 0), (4781, 0), (4802, 0), (4823, 0), (4844, 0), (4865, 0), (4886, 0), (4907, 0), (4928, 0), (4949, 0), (4970, 0), (4991, 0), (5012, 0), (5033, 0), (3922, 0), (3923, 0), (3924, 0), (3925, 0), (3926, 0), (3927, 0), (3928, 0), (3929, 0)]), (7474, 1003, [(161, 0), (162, 0), (163, 0), (164, 0), (165, 0), (166, 0), (167, 0), (168, 0), (169, 0), (170, 0), (171, 0), (172, 0), (173, 0), (174, 0), (175, 0), (176, 0), (177, 0), (178, 0), (179, 0), (180, 0), (181, 0), (182, 0), (183, 0), (184, 0), (185, 0), (186, 0), (187, 0), (188, 0), (189, 0), (190, 0), (191, 0), (192, 0), (193, 0), (194, 0), (195, 0), (196, 0), (197, 0), (198, 0), (199, 0), (200, 0), (201, 0), (202, 0), (203, 0), (204, 0), (205, 0), (206, 0), (207, 0), (208, 0), (209, 0), (210, 0), (211, 0), (212, 0), (213, 0), (214, 0), (215, 0), (216, 0), (364, 0), (367, 0), (370, 0), (373, 0), (376, 0), (379, 0), (382, 0), (385, 0)]), (8578, 1005, [(7479, 0), (7485, 0), (7491, 0), (7497, 0), (7503, 0), (7509, 0), (7515, 0), (7521, 0), (7527, 0), (7533, 0), (7539, 0), (7545, 0), (7551, 0), (7557, 0), (7563, 0), (7569, 0), (7590, 0), (7611, 0), (7632, 0), (7653, 0), (7674, 0), (7695, 0), (7716, 0), (7737, 0), (7758, 0), (7779, 0), (7800, 0), (7821, 0), (7842, 0), (7863, 0), (7884, 0), (7905, 0), (7926, 0), (7947, 0), (7968, 0), (7989, 0), (8010, 0), (8031, 0), (8052, 0), (8073, 0), (8094, 0), (8115, 0), (8136, 0), (8157, 0), (8178, 0), (8199, 0), (8220, 0), (8241, 0), (8262, 0), (8283, 0), (8304, 0), (8325, 0), (8346, 0), (8367, 0), (8388, 0), (8409, 0), (8430, 0), (8451, 0), (8472, 0), (8493, 0), (8514, 0), (8535, 0), (8556, 0), (8577, 0), (7466, 0), (7467, 0), (7468, 0), (7469, 0), (7470, 0), (7471, 0), (7472, 0), (7473, 0)])]
def kf_o184 : List xk_O := [(11010, 0), (11011, 0), (11012, 0), (11013, 0), (11014, 0), (11015, 0), (11016, 0), (11017, 0)]
theorem kf_x184 : xk_sg ce_4 cm_ms [] kco_66 cm_66.1 1 23 kwh [46] 30 362 (23, kf_l2, [], kf_T 184, [], 363) [] (fun g => (g, 0)) 46 ((2, (0, (361, 0))) :: kf_rf, [], kf_T 184) = true := by decide +kernel
def kf_w184 : List xk_O := [(364, 0), (367, 0), (370, 0), (373, 0), (376, 0), (379, 0), (382, 0), (385, 0), (7479, 0), (7485, 0), (7491, 0), (7497, 0), (7503, 0), (7509, 0), (7515, 0), (7521, 0), (7527, 0), (7533, 0), (7539, 0), (7545, 0), (7551, 0), (7557, 0), (7563, 0), (7569, 0), (7590, 0), (7611, 0), (7632, 0), (7653, 0), (7674, 0), (7695, 0), (7716, 0), (7737, 0), (7758, 0), (7779, 0), (7800, 0), (7821, 0), (7842, 0), (7863, 0), (7884, 0), (7905, 0), (7926, 0), (7947, 0), (7968, 0), (7989, 0), (8010, 0), (8031, 0), (8052, 0), (8073, 0), (8094, 0), (8115, 0), (8136, 0), (8157, 0), (8178, 0), (8199, 0), (8220, 0), (8241, 0), (8262, 0), (8283, 0), (8304, 0), (8325, 0), (8346, 0), (8367, 0), (8388, 0), (8409, 0), (8430, 0), (8451, 0), (8472, 0), (8493, 0), (8514, 0), (8535, 0), (8556, 0), (8577, 0)]
def kf_r184 : Nat → xk_O := fun g => if g < 217 then (g, 0) else if g < 225 then kf_w184.getD (g - 217) (0, 0) else if g < 289 then (g, 0) else if g < 353 then kf_w184.getD (g - 289 + 8) (0, 0) else if g < 361 then kf_o184.getD (g - 353) (0, 0) else (0, 192)
theorem kf_s184 : xk_sg ce_4 cm_ms kf_c184 kco_66 cm_66.1 1 23 kwh [114] 600 361 (46, (2, (0, (361, 0))) :: kf_rf, [], kf_T 184, [], 362) kf_t184 kf_r184 114 (kf_rf, [], kf_T2) = true := by decide +kernel
theorem kf_k184 : xk_tck kwh 361 (xn 33 184 ++ [361]) kf_t184 kf_o184 = true := by decide +kernel
def kf_t2 : List xk_E := (List.range 32).flatMap (fun k => [(362 + 2 * k, 8, [(353 + k / 4, 0), (0, ((24 - 8 * (k % 4) : Nat) : Int))]), (363 + 2 * k, 3, [(362 + 2 * k, 0), (0, 255)])])
theorem kf_s2 : xk_sg ce_4 cm_ms [] kco_66 cm_66.1 1 23 kwh [153] 1000 361 (114, kf_rf, [], kf_T2, [], 362) kf_t2 (fun g => if g ≤ 360 then (g, 0) else (363 + 2 * (g - 361), 0)) 153 ([], [], kf_F) = true := by decide +kernel
/-- how far it is filled up -/
def kf_cn (n : Nat) : Nat := if n < 56 then 56 else if n < 120 then 120 else 184
def kf_pad (n : Nat) (v : List Int) : List Int := v ++ [128] ++ List.replicate (kf_cn n - n - 1) 0
/-- the state, of the row and its length in bits -/
def kf_st (Φ : Nat → Nat → List Int → Int) (c : Nat) (v : List Int) : List Int := if c = 56 then xk_tf Φ kwh kf_t56 (xn 33 56 ++ [361]) kf_o56 v else if c = 120 then xk_tf Φ kwh kf_t120 (xn 33 120 ++ [361]) kf_o120 v else xk_tf Φ kwh kf_t184 (xn 33 184 ++ [361]) kf_o184 v
/-- the state's bytes -/
def kf_out (v : List Int) : List Int := (List.range 32).map (fun k => xk_sem 3 [xk_sem 8 [v.getD (k / 4) 0, ((24 - 8 * (k % 4) : Nat) : Int)], 255])
def kf_fn (Φ : Nat → Nat → List Int → Int) (n : Nat) (v : List Int) : List Int := kf_out (kf_st Φ (kf_cn n) (kf_pad n v ++ [8 * (n : Int)]))
def kF (Φ : Nat → Nat → List Int → Int) : Prop := kH_37 Φ ∧ ∀ n, n < 129 → ∀ r inp, Φ (200 + n) r inp = (kf_fn Φ n inp).getD r 0
def kx_fin (n : Nat) : xk_K := ([(2, 0, 0), (2, 1, 0)], kf_T (n : Int), none, kf_F, (200 + n, 360, xn 33 n), (1, 23))
section KF
variable {p : Program} {l : Launch} {e : Env} {R : Room} {s : State} {m : MethodId} {args : Array Value} {below : List Frame} {meth : Method} {c : Code} {Q : State → Prop}
variable {D : va_G} {AC : Nat → ClassId} {S : Nat → Nat} {θ : Nat → Value} {L : Heap} {ρ : Nat → Int} {N : List Nat} {H0 : Heap} {Φ : Nat → Nat → List Int → Int}
/-- the state's bytes are written -/
theorem kf_w2 (hy : xk_Hy p l e R s m meth c cm_66.1 1 23 ce_4 cm_ms [] Φ kwh (0, 2147483647) D AC S L s.heap kco_66) {ρ' : Nat → Int} {v : List Int} (hv : (xn 353 8).map ρ = v) (ho : ∀ r, r < 32 → ρ' (361 + r) = (kf_out v).getD r 0) : xk_W p l e R s m args below meth c (xk_Fin D AC S θ L ρ' N none kf_F below s) D AC S θ L cm_66.1.2.2.1 ρ N s.heap 114 (kf_rf, [], kf_T2) := by
  refine xw_sg (hy.ct xk_Cts.nil) kf_s2 fun ρ1 h1 t1 => ?_
  refine xw_fin (ls := []) hy rfl rfl (xk_refl2 (lo := 361) (k := 392) (by decide +kernel) fun g z1 z2 => ?_)
  show xk_ov ρ1 (if g ≤ 360 then ((g, 0) : xk_O) else (363 + 2 * (g - 361), 0)) = _
  rw [if_neg (by omega)]
  obtain ⟨r, rfl⟩ : ∃ r, g = 361 + r := ⟨g - 361, by omega⟩
  have hr : r < 32 := by omega
  rw [ho r hr, Nat.add_sub_cancel_left]
  have hm : ∀ e ∈ [(362 + 2 * r, 8, [(353 + r / 4, 0), (0, ((24 - 8 * (r % 4) : Nat) : Int))]), (363 + 2 * r, 3, [(362 + 2 * r, 0), (0, 255)])], xk_eok Φ kwh ρ1 e := fun e he => t1 e (List.mem_flatMap.mpr ⟨r, List.mem_range.mpr hr, he⟩)
  have e1 : ρ1 (362 + 2 * r) = xk_sem 8 [xk_ov ρ1 (353 + r / 4, 0), ((24 - 8 * (r % 4) : Nat) : Int)] := hm _ List.mem_cons_self
  have e2 : ρ1 (363 + 2 * r) = xk_sem 3 [xk_ov ρ1 (362 + 2 * r, 0), 255] := hm _ (List.mem_cons_of_mem _ List.mem_cons_self)
  have ov : ∀ {g : Nat}, 0 < g → xk_ov ρ1 (g, 0) = ρ1 g := fun {g} h => by
    unfold xk_ov
    rw [if_neg (by show ¬ g = 0; omega)]
  rw [ov (by omega), e2, ov (by omega), e1, ov (by omega), h1 _ (by omega)]
  unfold kf_out
  rw [List.getD_eq_getElem?_getD, List.getElem?_map, List.getElem?_range hr]
  show _ = xk_sem 3 [xk_sem 8 [v.getD (r / 4) 0, ((24 - 8 * (r % 4) : Nat) : Int)], 255]
  rw [← hv]
  have : ((xn 353 8).map ρ).getD (r / 4) 0 = ρ (353 + r / 4) := by
    rw [List.getD_eq_getElem?_getD]
    unfold xn
    rw [List.getElem?_map, List.getElem?_map, List.getElem?_range (by omega)]
    rfl
  rw [this]
/-- from the row filled up to its end -/
theorem kf_w1 (H : kH_37 Φ) (hy : xk_Hy p l e R s m meth c cm_66.1 1 23 ce_4 cm_ms [] Φ kwh (0, 2147483647) D AC S L s.heap kco_66) {ρ' : Nat → Int} {c0 : Nat} (hc : c0 = 56 ∨ c0 = 120 ∨ c0 = 184) (ho : ∀ r, r < 32 → ρ' (361 + r) = (kf_out (kf_st Φ c0 ((xn 33 c0 ++ [361]).map ρ))).getD r 0) : xk_W p l e R s m args below meth c (xk_Fin D AC S θ L ρ' N none kf_F below s) D AC S θ L cm_66.1.2.2.1 ρ N s.heap 23 (kf_l2, [], kf_T (c0 : Int)) := by
  rcases hc with rfl | rfl | rfl
  · refine xw_sg (hy.ct xk_Cts.nil) kf_x56 fun ρ1 h1 t1 => ?_
    refine xw_sg (hy.ct (kf_c56_ok H)) kf_s56 fun ρ2 h2 t2 => ?_
    refine kf_w2 hy (v := kf_st Φ 56 ((xn 33 56 ++ [361]).map ρ)) ?_ ho
    have e : (xn 353 8).map (xk_rno kf_r56 ρ2) = kf_o56.map (xk_ov ρ2) := rfl
    have ha : (xn 33 56 ++ [361]).map ρ2 = (xn 33 56 ++ [361]).map ρ := List.map_congr_left fun g hg => by
      have hall : (xn 33 56 ++ [361]).all (fun g => decide (0 < g ∧ g ≤ 361)) = true := by decide +kernel
      have hb := of_decide_eq_true (List.all_eq_true.mp hall g hg)
      rw [h2 g hb.2]
      show (if g = 0 then (0 : Int) else ρ1 g) = ρ g
      rw [if_neg (by omega), h1 g (by omega)]
    rw [e, xk_tf_ok kf_k56 t2, ha]
    rfl
  · refine xw_sg (hy.ct xk_Cts.nil) kf_x120 fun ρ1 h1 t1 => ?_
    refine xw_sg (hy.ct (kf_c120_ok H)) kf_s120 fun ρ2 h2 t2 => ?_
    refine kf_w2 hy (v := kf_st Φ 120 ((xn 33 120 ++ [361]).map ρ)) ?_ ho
    have e : (xn 353 8).map (xk_rno kf_r120 ρ2) = kf_o120.map (xk_ov ρ2) := rfl
    have ha : (xn 33 120 ++ [361]).map ρ2 = (xn 33 120 ++ [361]).map ρ := List.map_congr_left fun g hg => by
      have hall : (xn 33 120 ++ [361]).all (fun g => decide (0 < g ∧ g ≤ 361)) = true := by decide +kernel
      have hb := of_decide_eq_true (List.all_eq_true.mp hall g hg)
      rw [h2 g hb.2]
      show (if g = 0 then (0 : Int) else ρ1 g) = ρ g
      rw [if_neg (by omega), h1 g (by omega)]
    rw [e, xk_tf_ok kf_k120 t2, ha]
    rfl
  · refine xw_sg (hy.ct xk_Cts.nil) kf_x184 fun ρ1 h1 t1 => ?_
    refine xw_sg (hy.ct (kf_c184_ok H)) kf_s184 fun ρ2 h2 t2 => ?_
    refine kf_w2 hy (v := kf_st Φ 184 ((xn 33 184 ++ [361]).map ρ)) ?_ ho
    have e : (xn 353 8).map (xk_rno kf_r184 ρ2) = kf_o184.map (xk_ov ρ2) := rfl
    have ha : (xn 33 184 ++ [361]).map ρ2 = (xn 33 184 ++ [361]).map ρ := List.map_congr_left fun g hg => by
      have hall : (xn 33 184 ++ [361]).all (fun g => decide (0 < g ∧ g ≤ 361)) = true := by decide +kernel
      have hb := of_decide_eq_true (List.all_eq_true.mp hall g hg)
      rw [h2 g hb.2]
      show (if g = 0 then (0 : Int) else ρ1 g) = ρ g
      rw [if_neg (by omega), h1 g (by omega)]
    rw [e, xk_tf_ok kf_k184 t2, ha]
    rfl
end KF
theorem kx_fin_ok {l : Launch} {Φ : Nat → Nat → List Int → Int} (H : kF Φ) {n : Nat} (hn : n < 129) : xk_Cd l Φ kwh (0, 2147483647) cm_66.1 (kx_fin n) := by
  have hgd : xk_gd kwh (kx_fin n) = true ∧ (kx_fin n).2.1.all (fun c => c.2.all (fun v => decide (v.1 < 2 → v.2.1 ≤ 360))) = true := by
    have hall : (List.range 129).all (fun n => xk_gd kwh (kx_fin n) && (kx_fin n).2.1.all (fun c => c.2.all (fun v => decide (v.1 < 2 → v.2.1 ≤ 360)))) = true := by decide +kernel
    have := List.all_eq_true.mp hall n (List.mem_range.mpr hn)
    simp only [Bool.and_eq_true] at this
    exact this
  refine xk_okw (E := ce_4) (ms := cm_ms) (cod := kco_66) (by decide) (by decide) hgd.2 (by decide) hgd.1 ce_ok4 rfl cm_ok ce_glob kco_66_ok ?_
  intro p e R s m args below meth c D AC S θ L ρ0 N hy
  have he := kfe_all n (Nat.zero_le _) hn
  unfold kfe_b at he
  refine xw_sg (ρ := ρ0) (hy.ct (kf_ad_ok H.1 (by omega))) he fun ρ1 h1 t1 => ?_
  have hcn : kf_cn n = 56 ∨ kf_cn n = 120 ∨ kf_cn n = 184 := by
    unfold kf_cn
    split
    · exact Or.inl rfl
    · split
      · exact Or.inr (Or.inl rfl)
      · exact Or.inr (Or.inr rfl)
  have hcb : n + 1 ≤ kf_cn n ∧ kf_cn n ≤ n + 64 ∧ kf_cn n ≤ 184 ∧ kf_cn n % 64 = 56 ∧ ∀ c, n + 1 ≤ c → c < kf_cn n → c % 64 ≠ 56 := by
    unfold kf_cn
    split
    · exact ⟨by omega, by omega, by omega, by omega, fun c _ _ => by omega⟩
    · split
      · exact ⟨by omega, by omega, by omega, by omega, fun c _ _ => by omega⟩
      · exact ⟨by omega, by omega, by omega, by omega, fun c _ _ => by omega⟩
  -- what stands at the loop's head
  have key : ∀ (k c0 : Nat), c0 + k = kf_cn n → n + 1 ≤ c0 → ∀ ρ : Nat → Int, (∀ j, j < n → ρ (33 + j) = ρ0 (33 + j)) → ρ (33 + n) = 128 → (∀ j, n < j → j < c0 → ρ (33 + j) = 0) → ρ 361 = 8 * (n : Int) → ρ 362 = ((c0 - n - 1 : Nat) : Int) → xk_W p l e R s m args below meth c (xk_Fin D AC S θ L (xk_rho Φ (kx_fin n).2.2.2.2.1 ρ0) N (kx_fin n).2.2.1 (kx_fin n).2.2.2.1 below s) D AC S θ L cm_66.1.2.2.1 ρ N s.heap 20 (kf_l2, [(0, (0, 64)), (0, (362, 0))], kf_T (c0 : Int)) := by
    intro k
    induction k with
    | zero =>
      intro c0 hk hc ρ r1 r2 r3 r4 r5
      refine xw_ic hy (k := .ge) (off := 26) (t := 46) rfl rfl (fun hh => absurd hh ?_) (fun _ => ?_)
      · show ¬ ((64 : Int) ≤ xk_ov ρ (362, 0))
        show ¬ ((64 : Int) ≤ ρ 362)
        rw [r5]
        omega
      · have hc0 : c0 = kf_cn n := by omega
        refine kf_w1 H.1 hy (c0 := c0) (by rw [hc0]; exact hcn) fun r hr => ?_
        show (if 361 + r ≤ 360 then ρ0 (361 + r) else Φ (200 + n) (361 + r - 360 - 1) ((xn 33 n).map ρ0)) = _
        rw [if_neg (by omega), show 361 + r - 360 - 1 = r by omega, H.2 n hn]
        have hp : kf_pad n ((xn 33 n).map ρ0) ++ [8 * (n : Int)] = (xn 33 c0 ++ [361]).map ρ := by
          unfold kf_pad
          rw [← hc0]
          apply List.ext_getElem?
          intro i
          have hx : ∀ {A m : Nat}, i < m → (xn A m)[i]? = some (A + i) := fun {A m} hi => by
            unfold xn
            rw [List.getElem?_map, List.getElem?_range hi]
            rfl
          have lx : ∀ {A m : Nat}, (xn A m).length = m := fun {A m} => by unfold xn; simp
          have lA : ((xn 33 n).map ρ0).length = n := by rw [List.length_map, lx]
          have lB : ((xn 33 n).map ρ0 ++ [128]).length = n + 1 := by rw [List.length_append, lA]; rfl
          have lC : ((xn 33 n).map ρ0 ++ [128] ++ List.replicate (c0 - n - 1) 0).length = c0 := by rw [List.length_append, lB, List.length_replicate]; omega
          rw [List.getElem?_map]
          by_cases i1 : i < c0
          · rw [List.getElem?_append_left (by rw [lx]; exact i1), hx i1, List.getElem?_append_left (by rw [lC]; exact i1)]
            show _ = some (ρ (33 + i))
            by_cases i2 : i < n
            · rw [List.getElem?_append_left (by rw [lB]; omega), List.getElem?_append_left (by rw [lA]; exact i2), List.getElem?_map, hx i2]
              show some (ρ0 (33 + i)) = _
              rw [r1 i i2]
            · by_cases i3 : i = n
              · rw [List.getElem?_append_left (by rw [lB]; omega), List.getElem?_append_right (by rw [lA]; omega), lA, i3, r2, Nat.sub_self]
                rfl
              · rw [List.getElem?_append_right (by rw [lB]; omega), lB, List.getElem?_replicate, if_pos (by omega), r3 i (by omega) i1]
          · rw [List.getElem?_append_right (by rw [lx]; omega), lx, List.getElem?_append_right (by rw [lC]; omega), lC]
            by_cases i4 : i - c0 = 0
            · rw [i4]
              show some (8 * (n : Int)) = some (ρ 361)
              rw [r4]
            · rw [List.getElem?_eq_none (by show 1 ≤ i - c0; omega), List.getElem?_eq_none (by show 1 ≤ i - c0; omega)]
              rfl
        have hk : kf_fn Φ n ((xn 33 n).map ρ0) = kf_out (kf_st Φ c0 ((xn 33 c0 ++ [361]).map ρ)) := by
          unfold kf_fn
          rw [← hc0, hp]
        rw [hk]
    | succ k ih =>
      intro c0 hk hc ρ r1 r2 r3 r4 r5
      refine xw_ic hy (k := .ge) (off := 26) (t := 46) rfl rfl (fun hh => absurd hh ?_) (fun _ => ?_)
      · show ¬ ((64 : Int) ≤ ρ 362)
        rw [r5]
        omega
      · have hb := kfb_all c0 (by omega) (by omega)
        unfold kfb_b at hb
        simp only [Bool.or_eq_true, beq_iff_eq] at hb
        rcases hb with hb | hb
        · exact absurd hb (hcb.2.2.2.2 c0 hc (by omega))
        · refine xw_sg (hy.ct (kf_ad_ok H.1 (by omega))) hb fun ρ2 h2 t2 => ?_
          have e0 : ((c0 : Int) + 1) = ((c0 + 1 : Nat) : Int) := by omega
          rw [e0]
          have rg : ∀ g, 0 < g → g ≤ 361 → g ≠ 33 + c0 → xk_rno (fun g => if g = 33 + c0 then ((0, 0) : xk_O) else if g ≤ 361 then (g, 0) else (363, 0)) ρ2 g = ρ g := fun g g0 g1 g2 => by
            show xk_ov ρ2 (if g = 33 + c0 then ((0, 0) : xk_O) else if g ≤ 361 then (g, 0) else (363, 0)) = _
            rw [if_neg g2, if_pos g1]
            show (if g = 0 then (0 : Int) else ρ2 g) = _
            rw [if_neg (by omega), h2 g (by omega)]
          refine ih (c0 + 1) (by omega) (by omega) _ (fun j hj => ?_) ?_ (fun j j1 j2 => ?_) ?_ ?_
          · rw [rg _ (by omega) (by omega) (by omega), r1 j hj]
          · rw [rg _ (by omega) (by omega) (by omega), r2]
          · by_cases hj : j = c0
            · subst hj
              show xk_ov ρ2 (if 33 + j = 33 + j then ((0, 0) : xk_O) else _) = 0
              rw [if_pos rfl]
              rfl
            · rw [rg _ (by omega) (by omega) (by omega), r3 j j1 (by omega)]
          · rw [rg _ (by omega) (by omega) (by omega), r4]
          · show xk_ov ρ2 (if 362 = 33 + c0 then ((0, 0) : xk_O) else if 362 ≤ 361 then (362, 0) else (363, 0)) = _
            rw [if_neg (by omega), if_neg (by decide)]
            have e1 : ρ2 363 = xk_sem 0 [ρ2 362, 1] := t2 (363, 0, [(362, 0), (0, 1)]) List.mem_cons_self
            show ρ2 363 = _
            rw [e1, h2 _ (by decide), r5, kf_p1 (c0 - n - 1) (by omega)]
            omega
  have e0 : ((n : Int) + 1) = ((n + 1 : Nat) : Int) := by omega
  rw [e0]
  have rg : ∀ g, 0 < g → g ≤ 360 → g ≠ 33 + n → xk_rno (fun g => if g = 33 + n then ((0, 128) : xk_O) else if g ≤ 360 then (g, 0) else if g = 361 then (0, 8 * (n : Int)) else (0, 0)) ρ1 g = ρ0 g := fun g g0 g1 g2 => by
    show xk_ov ρ1 (if g = 33 + n then ((0, 128) : xk_O) else if g ≤ 360 then (g, 0) else _) = _
    rw [if_neg g2, if_pos g1]
    show (if g = 0 then (0 : Int) else ρ1 g) = _
    rw [if_neg (by omega), h1 g (by omega)]
  refine key (kf_cn n - (n + 1)) (n + 1) (by omega) (Nat.le_refl _) _ (fun j hj => rg _ (by omega) (by omega) (by omega)) ?_ (fun j j1 j2 => by omega) ?_ ?_
  · show xk_ov ρ1 (if 33 + n = 33 + n then ((0, 128) : xk_O) else _) = 128
    rw [if_pos rfl]
    rfl
  · show xk_ov ρ1 (if 361 = 33 + n then ((0, 128) : xk_O) else if 361 ≤ 360 then (361, 0) else if 361 = 361 then (0, 8 * (n : Int)) else (0, 0)) = _
    rw [if_neg (by omega), if_neg (by decide), if_pos rfl]
    rfl
  · show xk_ov ρ1 (if 362 = 33 + n then ((0, 128) : xk_O) else if 362 ≤ 360 then (362, 0) else if 362 = 361 then (0, 8 * (n : Int)) else (0, 0)) = _
    rw [if_neg (by omega), if_neg (by decide), if_neg (by decide), show n + 1 - n - 1 = 0 by omega]
    rfl
