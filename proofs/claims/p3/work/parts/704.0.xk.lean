/-! ===== the reference: invert ===== -/
def ku_T : List xk_C := [((0, 11), [(5, 0, 0), (5, 1, 0), (5, 2, 0), (5, 3, 0), (5, 4, 0), (5, 5, 0), (5, 6, 0), (5, 7, 0), (5, 8, 0), (5, 9, 0), (2, 1, 0), (2, 2, 0), (5, 12, 0), (5, 13, 0), (5, 14, 0), (5, 15, 0), (5, 16, 0), (5, 17, 0), (5, 18, 0), (5, 19, 0), (5, 20, 0), (5, 21, 0), (5, 22, 0), (5, 23, 0), (5, 24, 0), (5, 25, 0), (5, 26, 0), (5, 27, 0), (5, 28, 0), (5, 29, 0), (5, 30, 0), (5, 31, 0), (5, 32, 0), (5, 33, 0), (5, 34, 0), (5, 35, 0), (5, 36, 0)]), ((1, 1), xl 1 256), ((1, 1), xl 257 31)]
def ku_cts : List xk_Q := [(189, (99, 0), kr_tim11_11_11), (189, (99, 0), kr_tim11_11_1)]
theorem ku_cts_ok {l : Launch} {Φ : Nat → Nat → List Int → Int} (H : kR_41 Φ) : xk_Cts l Φ kwg (0, 2147483647) cm_ms ku_cts := (xk_Cts.one cm_g189 ((kr_tim11_11_11_ok (H.1.1)).wd rfl) (xk_Cts.one cm_g189 ((kr_tim11_11_1_ok (H.1)).wd rfl) xk_Cts.nil))
def ku_ls (t : Int) : List (Nat × xk_V) := [(1, (0, (0, t))), (0, (2, 0, 0))]
def ku_t1 : List xk_E := [(288, 1039, [(177, 0), (178, 0), (179, 0), (180, 0), (181, 0), (182, 0), (183, 0), (184, 0), (185, 0), (186, 0), (187, 0), (188, 0), (189, 0), (190, 0), (191, 0), (192, 0)]), (961, 1040, [(17, 0), (18, 0), (19, 0), (20, 0), (21, 0), (22, 0), (23, 0), (24, 0), (25, 0), (26, 0), (27, 0), (28, 0), (29, 0), (30, 0), (31, 0), (32, 0), (960, 0), (902, 0), (906, 0), (910, 0), (914, 0), (918, 0), (922, 0), (926, 0), (930, 0), (934, 0), (938, 0), (942, 0), (946, 0), (950, 0), (954, 0), (958, 0)])]
def ku_t2 : List xk_E := [(288, 1039, [(177, 0), (178, 0), (179, 0), (180, 0), (181, 0), (182, 0), (183, 0), (184, 0), (185, 0), (186, 0), (187, 0), (188, 0), (189, 0), (190, 0), (191, 0), (192, 0)])]
def ku_o1 : List xk_O := [(1633, 0), (1575, 0), (1579, 0), (1583, 0), (1587, 0), (1591, 0), (1595, 0), (1599, 0), (1603, 0), (1607, 0), (1611, 0), (1615, 0), (1619, 0), (1623, 0), (1627, 0), (1631, 0), (962, 0), (994, 0), (1026, 0), (1058, 0), (1090, 0), (1122, 0), (1154, 0), (1186, 0), (1218, 0), (1250, 0), (1282, 0), (1314, 0), (1346, 0), (1378, 0), (1410, 0), (1442, 0), (1444, 0), (1446, 0), (1448, 0), (1450, 0), (1452, 0), (1454, 0), (1456, 0), (1458, 0), (1460, 0), (1462, 0), (1464, 0), (1466, 0), (1468, 0), (1470, 0), (1472, 0)]
def ku_o2 : List xk_O := [(960, 0), (902, 0), (906, 0), (910, 0), (914, 0), (918, 0), (922, 0), (926, 0), (930, 0), (934, 0), (938, 0), (942, 0), (946, 0), (950, 0), (954, 0), (958, 0), (289, 0), (321, 0), (353, 0), (385, 0), (417, 0), (449, 0), (481, 0), (513, 0), (545, 0), (577, 0), (609, 0), (641, 0), (673, 0), (705, 0), (737, 0), (769, 0), (771, 0), (773, 0), (775, 0), (777, 0), (779, 0), (781, 0), (783, 0), (785, 0), (787, 0), (789, 0), (791, 0), (793, 0), (795, 0), (797, 0), (799, 0)]
def ku_tb (t : Nat) : List xk_E := if t = 4 ∨ t = 2 then ku_t2 else ku_t1
def ku_os (t : Nat) : List xk_O := if t = 4 ∨ t = 2 then ku_o2 else ku_o1
def ku_rn (t : Nat) : Nat → xk_O := fun g => if g < 177 then (g, 0) else if g < 193 then (ku_os t).getD (g - 177) (0, 0) else if g < 257 then (g, 0) else (ku_os t).getD (g - 257 + 16) (0, 0)
def ku_b (t : Nat) : Bool := xk_sg ce_12 cm_ms ku_cts kco_151 cm_151.1 2 34 kwg [37] 30 287 (37, ku_ls (t : Int), [], ku_T, [], 288) (ku_tb t) (ku_rn t) 37 (ku_ls ((t : Int) - 1), [], ku_T)
theorem ku_a0 : (List.range 8).all (fun c => ku_b (0 + c)) = true := by decide +kernel
theorem ku_a1 : (List.range 8).all (fun c => ku_b (8 + c)) = true := by decide +kernel
theorem ku_a2 : (List.range 8).all (fun c => ku_b (16 + c)) = true := by decide +kernel
theorem ku_a3 : (List.range 8).all (fun c => ku_b (24 + c)) = true := by decide +kernel
theorem ku_a4 : (List.range 8).all (fun c => ku_b (32 + c)) = true := by decide +kernel
theorem ku_a5 : (List.range 8).all (fun c => ku_b (40 + c)) = true := by decide +kernel
theorem ku_a6 : (List.range 8).all (fun c => ku_b (48 + c)) = true := by decide +kernel
theorem ku_a7 : (List.range 8).all (fun c => ku_b (56 + c)) = true := by decide +kernel
theorem ku_a8 : (List.range 8).all (fun c => ku_b (64 + c)) = true := by decide +kernel
theorem ku_a9 : (List.range 8).all (fun c => ku_b (72 + c)) = true := by decide +kernel
theorem ku_a10 : (List.range 8).all (fun c => ku_b (80 + c)) = true := by decide +kernel
theorem ku_a11 : (List.range 8).all (fun c => ku_b (88 + c)) = true := by decide +kernel
theorem ku_a12 : (List.range 8).all (fun c => ku_b (96 + c)) = true := by decide +kernel
theorem ku_a13 : (List.range 8).all (fun c => ku_b (104 + c)) = true := by decide +kernel
theorem ku_a14 : (List.range 8).all (fun c => ku_b (112 + c)) = true := by decide +kernel
theorem ku_a15 : (List.range 8).all (fun c => ku_b (120 + c)) = true := by decide +kernel
theorem ku_a16 : (List.range 8).all (fun c => ku_b (128 + c)) = true := by decide +kernel
theorem ku_a17 : (List.range 8).all (fun c => ku_b (136 + c)) = true := by decide +kernel
theorem ku_a18 : (List.range 8).all (fun c => ku_b (144 + c)) = true := by decide +kernel
theorem ku_a19 : (List.range 8).all (fun c => ku_b (152 + c)) = true := by decide +kernel
theorem ku_a20 : (List.range 8).all (fun c => ku_b (160 + c)) = true := by decide +kernel
theorem ku_a21 : (List.range 8).all (fun c => ku_b (168 + c)) = true := by decide +kernel
theorem ku_a22 : (List.range 8).all (fun c => ku_b (176 + c)) = true := by decide +kernel
theorem ku_a23 : (List.range 8).all (fun c => ku_b (184 + c)) = true := by decide +kernel
theorem ku_a24 : (List.range 8).all (fun c => ku_b (192 + c)) = true := by decide +kernel
theorem ku_a25 : (List.range 8).all (fun c => ku_b (200 + c)) = true := by decide +kernel
theorem ku_a26 : (List.range 8).all (fun c => ku_b (208 + c)) = true := by decide +kernel
theorem ku_a27 : (List.range 8).all (fun c => ku_b (216 + c)) = true := by decide +kernel
theorem ku_a28 : (List.range 8).all (fun c => ku_b (224 + c)) = true := by decide +kernel
theorem ku_a29 : (List.range 8).all (fun c => ku_b (232 + c)) = true := by decide +kernel
theorem ku_a30 : (List.range 8).all (fun c => ku_b (240 + c)) = true := by decide +kernel
theorem ku_a31 : (List.range 6).all (fun c => ku_b (248 + c)) = true := by decide +kernel
theorem ku_all (c : Nat) (h0 : 0 ≤ c) (hc : c < 254) : ku_b c = true := by
  by_cases h0 : c < 8
  · exact xk_ran ku_a0 (by omega) (by omega)
  by_cases h1 : c < 16
  · exact xk_ran ku_a1 (by omega) (by omega)
  by_cases h2 : c < 24
  · exact xk_ran ku_a2 (by omega) (by omega)
  by_cases h3 : c < 32
  · exact xk_ran ku_a3 (by omega) (by omega)
  by_cases h4 : c < 40
  · exact xk_ran ku_a4 (by omega) (by omega)
  by_cases h5 : c < 48
  · exact xk_ran ku_a5 (by omega) (by omega)
  by_cases h6 : c < 56
  · exact xk_ran ku_a6 (by omega) (by omega)
  by_cases h7 : c < 64
  · exact xk_ran ku_a7 (by omega) (by omega)
  by_cases h8 : c < 72
  · exact xk_ran ku_a8 (by omega) (by omega)
  by_cases h9 : c < 80
  · exact xk_ran ku_a9 (by omega) (by omega)
  by_cases h10 : c < 88
  · exact xk_ran ku_a10 (by omega) (by omega)
  by_cases h11 : c < 96
  · exact xk_ran ku_a11 (by omega) (by omega)
  by_cases h12 : c < 104
  · exact xk_ran ku_a12 (by omega) (by omega)
  by_cases h13 : c < 112
  · exact xk_ran ku_a13 (by omega) (by omega)
  by_cases h14 : c < 120
  · exact xk_ran ku_a14 (by omega) (by omega)
  by_cases h15 : c < 128
  · exact xk_ran ku_a15 (by omega) (by omega)
  by_cases h16 : c < 136
  · exact xk_ran ku_a16 (by omega) (by omega)
  by_cases h17 : c < 144
  · exact xk_ran ku_a17 (by omega) (by omega)
  by_cases h18 : c < 152
  · exact xk_ran ku_a18 (by omega) (by omega)
  by_cases h19 : c < 160
  · exact xk_ran ku_a19 (by omega) (by omega)
  by_cases h20 : c < 168
  · exact xk_ran ku_a20 (by omega) (by omega)
  by_cases h21 : c < 176
  · exact xk_ran ku_a21 (by omega) (by omega)
  by_cases h22 : c < 184
  · exact xk_ran ku_a22 (by omega) (by omega)
  by_cases h23 : c < 192
  · exact xk_ran ku_a23 (by omega) (by omega)
  by_cases h24 : c < 200
  · exact xk_ran ku_a24 (by omega) (by omega)
  by_cases h25 : c < 208
  · exact xk_ran ku_a25 (by omega) (by omega)
  by_cases h26 : c < 216
  · exact xk_ran ku_a26 (by omega) (by omega)
  by_cases h27 : c < 224
  · exact xk_ran ku_a27 (by omega) (by omega)
  by_cases h28 : c < 232
  · exact xk_ran ku_a28 (by omega) (by omega)
  by_cases h29 : c < 240
  · exact xk_ran ku_a29 (by omega) (by omega)
  by_cases h30 : c < 248
  · exact xk_ran ku_a30 (by omega) (by omega)
  exact xk_ran ku_a31 (by omega) (by omega)
