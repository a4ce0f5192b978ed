/-! ===== the class: digest ===== -/
def kg_T (f : xk_V) : List xk_C := [((0, 0), [(5, 0, 0), (2, 1, 0), (5, 2, 0), (5, 3, 0), (5, 4, 0), (5, 5, 0), (2, 6, 0), (5, 7, 0), (5, 8, 0), (5, 9, 0), (5, 10, 0)]), ((1, 7), [(2, 2, 0), (2, 3, 0), (2, 4, 0), (2, 5, 0)]), ((1, 0), xi 1 32), ((1, 0), xi 33 32), ((1, 0), xi 65 32), ((1, 0), xi 97 32), ((0, 2), [(2, 7, 0), (5, 6001, 0), (5, 6002, 0), (5, 6003, 0), (5, 6004, 0), (5, 6005, 0), (5, 6006, 0)]), ((0, 3), [(5, 7000, 0), (2, 8, 0), f, (2, 9, 0), (2, 10, 0), (5, 7005, 0), (5, 7006, 0), (5, 7007, 0)]), ((1, 0), xi 130 256), ((1, 0), xi 386 64), ((1, 0), xi 450 8)]
def kg_row (into j : Nat) : xk_C := ((1, 0), xi (if j = into then 458 else 1 + 32 * j) 32)
def kg_F (into : Nat) : List xk_C := (let f : xk_V := (4, (0, 0)); [((0, 0), [(5, 0, 0), (2, 1, 0), (5, 2, 0), (5, 3, 0), (5, 4, 0), (5, 5, 0), (2, 6, 0), (5, 7, 0), (5, 8, 0), (5, 9, 0), (5, 10, 0)]), ((1, 7), [(2, 2, 0), (2, 3, 0), (2, 4, 0), (2, 5, 0)]), kg_row into 0, kg_row into 1, kg_row into 2, kg_row into 3, ((0, 2), [(2, 7, 0), (5, 6001, 0), (5, 6002, 0), (5, 6003, 0), (5, 6004, 0), (5, 6005, 0), (5, 6006, 0)]), ((0, 3), [(5, 7000, 0), (2, 8, 0), f, (2, 9, 0), (2, 10, 0), (5, 7005, 0), (5, 7006, 0), (5, 7007, 0)]), ((1, 0), List.replicate 256 (4, 0, 0)), ((1, 0), List.replicate 64 (4, 0, 0)), ((1, 0), List.replicate 8 (4, 0, 0))])
def kg_ls (i : Int) : List (Nat × xk_V) := [(3, (0, (0, i))), (0, (2, 0, 0)), (1, (0, (458, 0))), (2, (0, (459, 0)))]
def kg_ce (n into : Nat) : List xk_Q := [(5, (99, 0), kq_129 n), (5, (99, 0), kq_4 into), (70, (99, 0), kx_start)]
theorem kg_ce_ok {l : Launch} {Φ : Nat → Nat → List Int → Int} (H : kH_37 Φ) {n into : Nat} (hn : n < 129) (hi : into < 4) : xk_Cts l Φ kwh (0, 2147483647) cm_ms (kg_ce n into) := xk_Cts.one cm_g5 (kq_129_ok H.1.1.1.1.1.1.1.1.1.1.1.1.1.1.1.1.1.1.1.1.1.1.1.1.1.1.1.1.1.1.1.1.1.1.1.1.1 n hn) (xk_Cts.one cm_g5 (kq_4_ok H.1.1.1.1.1.1.1.1.1.1.1.1.1.1.1.1.1.1.1.1.1.1.1.1.1.1.1.1.1.1.1.1.1.1.1.1.1 into hi) (xk_Cts.one cm_g70 ((kx_start_ok H.1.1.1.1.1.1.1.1.1.1.1.1.1.1.1.1.1.1.1.1.1.1.1.1.1.1.1.1.1.1.1.1.1.1.1.1.1).wd rfl) xk_Cts.nil))
def kge_b (x : Nat) : Bool := xk_sg ce_0 cm_ms (kg_ce (x / 4) (x % 4)) kco_9 cm_9.1 2 38 kwh [26] 30 457 (0, [(0, (2, 0, 0)), (1, (0, (0, ((x / 4 : Nat) : Int)))), (2, (0, (0, ((x % 4 : Nat) : Int))))], [], kg_T (0, (129, 0)), [], 458) [] (fun g => if g ≤ 457 then (g, 0) else if g = 458 then (0, ((x / 4 : Nat) : Int)) else (0, ((x % 4 : Nat) : Int))) 26 (kg_ls 0, [(0, (458, 0)), (0, (0, 0))], kg_T (0, (0, 0)))
theorem kge_a0 : (List.range 16).all (fun c => kge_b (0 + c)) = true := by decide +kernel
theorem kge_a1 : (List.range 16).all (fun c => kge_b (16 + c)) = true := by decide +kernel
theorem kge_a2 : (List.range 16).all (fun c => kge_b (32 + c)) = true := by decide +kernel
theorem kge_a3 : (List.range 16).all (fun c => kge_b (48 + c)) = true := by decide +kernel
theorem kge_a4 : (List.range 16).all (fun c => kge_b (64 + c)) = true := by decide +kernel
theorem kge_a5 : (List.range 16).all (fun c => kge_b (80 + c)) = true := by decide +kernel
theorem kge_a6 : (List.range 16).all (fun c => kge_b (96 + c)) = true := by decide +kernel
theorem kge_a7 : (List.range 16).all (fun c => kge_b (112 + c)) = true := by decide +kernel
theorem kge_a8 : (List.range 16).all (fun c => kge_b (128 + c)) = true := by decide +kernel
theorem kge_a9 : (List.range 16).all (fun c => kge_b (144 + c)) = true := by decide +kernel
theorem kge_a10 : (List.range 16).all (fun c => kge_b (160 + c)) = true := by decide +kernel
theorem kge_a11 : (List.range 16).all (fun c => kge_b (176 + c)) = true := by decide +kernel
theorem kge_a12 : (List.range 16).all (fun c => kge_b (192 + c)) = true := by decide +kernel
theorem kge_a13 : (List.range 16).all (fun c => kge_b (208 + c)) = true := by decide +kernel
theorem kge_a14 : (List.range 16).all (fun c => kge_b (224 + c)) = true := by decide +kernel
theorem kge_a15 : (List.range 16).all (fun c => kge_b (240 + c)) = true := by decide +kernel
theorem kge_a16 : (List.range 16).all (fun c => kge_b (256 + c)) = true := by decide +kernel
theorem kge_a17 : (List.range 16).all (fun c => kge_b (272 + c)) = true := by decide +kernel
theorem kge_a18 : (List.range 16).all (fun c => kge_b (288 + c)) = true := by decide +kernel
theorem kge_a19 : (List.range 16).all (fun c => kge_b (304 + c)) = true := by decide +kernel
theorem kge_a20 : (List.range 16).all (fun c => kge_b (320 + c)) = true := by decide +kernel
theorem kge_a21 : (List.range 16).all (fun c => kge_b (336 + c)) = true := by decide +kernel
theorem kge_a22 : (List.range 16).all (fun c => kge_b (352 + c)) = true := by decide +kernel
theorem kge_a23 : (List.range 16).all (fun c => kge_b (368 + c)) = true := by decide +kernel
theorem kge_a24 : (List.range 16).all (fun c => kge_b (384 + c)) = true := by decide +kernel
theorem kge_a25 : (List.range 16).all (fun c => kge_b (400 + c)) = true := by decide +kernel
theorem kge_a26 : (List.range 16).all (fun c => kge_b (416 + c)) = true := by decide +kernel
theorem kge_a27 : (List.range 16).all (fun c => kge_b (432 + c)) = true := by decide +kernel
theorem kge_a28 : (List.range 16).all (fun c => kge_b (448 + c)) = true := by decide +kernel
theorem kge_a29 : (List.range 16).all (fun c => kge_b (464 + c)) = true := by decide +kernel
theorem kge_a30 : (List.range 16).all (fun c => kge_b (480 + c)) = true := by decide +kernel
theorem kge_a31 : (List.range 16).all (fun c => kge_b (496 + c)) = true := by decide +kernel
theorem kge_a32 : (List.range 4).all (fun c => kge_b (512 + c)) = true := by decide +kernel
theorem kge_all (c : Nat) (h0 : 0 ≤ c) (hc : c < 516) : kge_b c = true := by
  by_cases h0 : c < 16
  · exact xk_ran kge_a0 (by omega) (by omega)
  by_cases h1 : c < 32
  · exact xk_ran kge_a1 (by omega) (by omega)
  by_cases h2 : c < 48
  · exact xk_ran kge_a2 (by omega) (by omega)
  by_cases h3 : c < 64
  · exact xk_ran kge_a3 (by omega) (by omega)
  by_cases h4 : c < 80
  · exact xk_ran kge_a4 (by omega) (by omega)
  by_cases h5 : c < 96
  · exact xk_ran kge_a5 (by omega) (by omega)
  by_cases h6 : c < 112
  · exact xk_ran kge_a6 (by omega) (by omega)
  by_cases h7 : c < 128
  · exact xk_ran kge_a7 (by omega) (by omega)
  by_cases h8 : c < 144
  · exact xk_ran kge_a8 (by omega) (by omega)
  by_cases h9 : c < 160
  · exact xk_ran kge_a9 (by omega) (by omega)
  by_cases h10 : c < 176
  · exact xk_ran kge_a10 (by omega) (by omega)
  by_cases h11 : c < 192
  · exact xk_ran kge_a11 (by omega) (by omega)
  by_cases h12 : c < 208
  · exact xk_ran kge_a12 (by omega) (by omega)
  by_cases h13 : c < 224
  · exact xk_ran kge_a13 (by omega) (by omega)
  by_cases h14 : c < 240
  · exact xk_ran kge_a14 (by omega) (by omega)
  by_cases h15 : c < 256
  · exact xk_ran kge_a15 (by omega) (by omega)
  by_cases h16 : c < 272
  · exact xk_ran kge_a16 (by omega) (by omega)
  by_cases h17 : c < 288
  · exact xk_ran kge_a17 (by omega) (by omega)
  by_cases h18 : c < 304
  · exact xk_ran kge_a18 (by omega) (by omega)
  by_cases h19 : c < 320
  · exact xk_ran kge_a19 (by omega) (by omega)
  by_cases h20 : c < 336
  · exact xk_ran kge_a20 (by omega) (by omega)
  by_cases h21 : c < 352
  · exact xk_ran kge_a21 (by omega) (by omega)
  by_cases h22 : c < 368
  · exact xk_ran kge_a22 (by omega) (by omega)
  by_cases h23 : c < 384
  · exact xk_ran kge_a23 (by omega) (by omega)
  by_cases h24 : c < 400
  · exact xk_ran kge_a24 (by omega) (by omega)
  by_cases h25 : c < 416
  · exact xk_ran kge_a25 (by omega) (by omega)
  by_cases h26 : c < 432
  · exact xk_ran kge_a26 (by omega) (by omega)
  by_cases h27 : c < 448
  · exact xk_ran kge_a27 (by omega) (by omega)
  by_cases h28 : c < 464
  · exact xk_ran kge_a28 (by omega) (by omega)
  by_cases h29 : c < 480
  · exact xk_ran kge_a29 (by omega) (by omega)
  by_cases h30 : c < 496
  · exact xk_ran kge_a30 (by omega) (by omega)
  by_cases h31 : c < 512
  · exact xk_ran kge_a31 (by omega) (by omega)
  exact xk_ran kge_a32 (by omega) (by omega)
def kgb_b (i : Nat) : Bool := xk_sg ce_0 cm_ms (kf_ad i) kco_9 cm_9.1 2 38 kwh [26] 40 459 (29, kg_ls (i : Int), [], kg_T (0, (0, (i : Int))), [], 460) [] (fun g => if g = 130 + i then (1 + i, 0) else (g, 0)) 26 (kg_ls ((i : Int) + 1), [(0, (458, 0)), (0, (0, (i : Int) + 1))], kg_T (0, (0, (i : Int) + 1)))
theorem kgb_a0 : (List.range 16).all (fun c => kgb_b (0 + c)) = true := by decide +kernel
theorem kgb_a1 : (List.range 16).all (fun c => kgb_b (16 + c)) = true := by decide +kernel
theorem kgb_a2 : (List.range 16).all (fun c => kgb_b (32 + c)) = true := by decide +kernel
theorem kgb_a3 : (List.range 16).all (fun c => kgb_b (48 + c)) = true := by decide +kernel
theorem kgb_a4 : (List.range 16).all (fun c => kgb_b (64 + c)) = true := by decide +kernel
theorem kgb_a5 : (List.range 16).all (fun c => kgb_b (80 + c)) = true := by decide +kernel
theorem kgb_a6 : (List.range 16).all (fun c => kgb_b (96 + c)) = true := by decide +kernel
theorem kgb_a7 : (List.range 16).all (fun c => kgb_b (112 + c)) = true := by decide +kernel
theorem kgb_all (c : Nat) (h0 : 0 ≤ c) (hc : c < 128) : kgb_b c = true := by
  by_cases h0 : c < 16
  · exact xk_ran kgb_a0 (by omega) (by omega)
  by_cases h1 : c < 32
  · exact xk_ran kgb_a1 (by omega) (by omega)
  by_cases h2 : c < 48
  · exact xk_ran kgb_a2 (by omega) (by omega)
  by_cases h3 : c < 64
  · exact xk_ran kgb_a3 (by omega) (by omega)
  by_cases h4 : c < 80
  · exact xk_ran kgb_a4 (by omega) (by omega)
  by_cases h5 : c < 96
  · exact xk_ran kgb_a5 (by omega) (by omega)
  by_cases h6 : c < 112
  · exact xk_ran kgb_a6 (by omega) (by omega)
  exact xk_ran kgb_a7 (by omega) (by omega)
def kgx_b (x : Nat) : Bool := xk_sg ce_0 cm_ms [(66, (2, ((x / 4 : Nat) : Int)), kx_fin (x / 4))] kco_9 cm_9.1 2 38 kwh [75] 30 459 (59, [(2, (0, (0, ((x % 4 : Nat) : Int)))), (0, (2, 0, 0))], [], kg_T (0, (0, ((x / 4 : Nat) : Int))), [], 460) [(460, 1200 + x / 4, (xn 130 (x / 4)).map (fun g => (g, 0)))] (fun g => if g ≤ 457 then (g, 0) else (g + 2, 0)) 75 ([], [], kg_F (x % 4))
theorem kgx_a0 : (List.range 16).all (fun c => kgx_b (0 + c)) = true := by decide +kernel
theorem kgx_a1 : (List.range 16).all (fun c => kgx_b (16 + c)) = true := by decide +kernel
theorem kgx_a2 : (List.range 16).all (fun c => kgx_b (32 + c)) = true := by decide +kernel
theorem kgx_a3 : (List.range 16).all (fun c => kgx_b (48 + c)) = true := by decide +kernel
theorem kgx_a4 : (List.range 16).all (fun c => kgx_b (64 + c)) = true := by decide +kernel
theorem kgx_a5 : (List.range 16).all (fun c => kgx_b (80 + c)) = true := by decide +kernel
theorem kgx_a6 : (List.range 16).all (fun c => kgx_b (96 + c)) = true := by decide +kernel
theorem kgx_a7 : (List.range 16).all (fun c => kgx_b (112 + c)) = true := by decide +kernel
theorem kgx_a8 : (List.range 16).all (fun c => kgx_b (128 + c)) = true := by decide +kernel
theorem kgx_a9 : (List.range 16).all (fun c => kgx_b (144 + c)) = true := by decide +kernel
theorem kgx_a10 : (List.range 16).all (fun c => kgx_b (160 + c)) = true := by decide +kernel
theorem kgx_a11 : (List.range 16).all (fun c => kgx_b (176 + c)) = true := by decide +kernel
theorem kgx_a12 : (List.range 16).all (fun c => kgx_b (192 + c)) = true := by decide +kernel
theorem kgx_a13 : (List.range 16).all (fun c => kgx_b (208 + c)) = true := by decide +kernel
theorem kgx_a14 : (List.range 16).all (fun c => kgx_b (224 + c)) = true := by decide +kernel
theorem kgx_a15 : (List.range 16).all (fun c => kgx_b (240 + c)) = true := by decide +kernel
theorem kgx_a16 : (List.range 16).all (fun c => kgx_b (256 + c)) = true := by decide +kernel
theorem kgx_a17 : (List.range 16).all (fun c => kgx_b (272 + c)) = true := by decide +kernel
theorem kgx_a18 : (List.range 16).all (fun c => kgx_b (288 + c)) = true := by decide +kernel
theorem kgx_a19 : (List.range 16).all (fun c => kgx_b (304 + c)) = true := by decide +kernel
theorem kgx_a20 : (List.range 16).all (fun c => kgx_b (320 + c)) = true := by decide +kernel
theorem kgx_a21 : (List.range 16).all (fun c => kgx_b (336 + c)) = true := by decide +kernel
theorem kgx_a22 : (List.range 16).all (fun c => kgx_b (352 + c)) = true := by decide +kernel
theorem kgx_a23 : (List.range 16).all (fun c => kgx_b (368 + c)) = true := by decide +kernel
theorem kgx_a24 : (List.range 16).all (fun c => kgx_b (384 + c)) = true := by decide +kernel
theorem kgx_a25 : (List.range 16).all (fun c => kgx_b (400 + c)) = true := by decide +kernel
theorem kgx_a26 : (List.range 16).all (fun c => kgx_b (416 + c)) = true := by decide +kernel
theorem kgx_a27 : (List.range 16).all (fun c => kgx_b (432 + c)) = true := by decide +kernel
theorem kgx_a28 : (List.range 16).all (fun c => kgx_b (448 + c)) = true := by decide +kernel
theorem kgx_a29 : (List.range 16).all (fun c => kgx_b (464 + c)) = true := by decide +kernel
theorem kgx_a30 : (List.range 16).all (fun c => kgx_b (480 + c)) = true := by decide +kernel
theorem kgx_a31 : (List.range 16).all (fun c => kgx_b (496 + c)) = true := by decide +kernel
theorem kgx_a32 : (List.range 4).all (fun c => kgx_b (512 + c)) = true := by decide +kernel
theorem kgx_all (c : Nat) (h0 : 0 ≤ c) (hc : c < 516) : kgx_b c = true := by
  by_cases h0 : c < 16
  · exact xk_ran kgx_a0 (by omega) (by omega)
  by_cases h1 : c < 32
  · exact xk_ran kgx_a1 (by omega) (by omega)
  by_cases h2 : c < 48
  · exact xk_ran kgx_a2 (by omega) (by omega)
  by_cases h3 : c < 64
  · exact xk_ran kgx_a3 (by omega) (by omega)
  by_cases h4 : c < 80
  · exact xk_ran kgx_a4 (by omega) (by omega)
  by_cases h5 : c < 96
  · exact xk_ran kgx_a5 (by omega) (by omega)
  by_cases h6 : c < 112
  · exact xk_ran kgx_a6 (by omega) (by omega)
  by_cases h7 : c < 128
  · exact xk_ran kgx_a7 (by omega) (by omega)
  by_cases h8 : c < 144
  · exact xk_ran kgx_a8 (by omega) (by omega)
  by_cases h9 : c < 160
  · exact xk_ran kgx_a9 (by omega) (by omega)
  by_cases h10 : c < 176
  · exact xk_ran kgx_a10 (by omega) (by omega)
  by_cases h11 : c < 192
  · exact xk_ran kgx_a11 (by omega) (by omega)
  by_cases h12 : c < 208
  · exact xk_ran kgx_a12 (by omega) (by omega)
  by_cases h13 : c < 224
  · exact xk_ran kgx_a13 (by omega) (by omega)
  by_cases h14 : c < 240
  · exact xk_ran kgx_a14 (by omega) (by omega)
  by_cases h15 : c < 256
  · exact xk_ran kgx_a15 (by omega) (by omega)
  by_cases h16 : c < 272
  · exact xk_ran kgx_a16 (by omega) (by omega)
  by_cases h17 : c < 288
  · exact xk_ran kgx_a17 (by omega) (by omega)
  by_cases h18 : c < 304
  · exact xk_ran kgx_a18 (by omega) (by omega)
  by_cases h19 : c < 320
  · exact xk_ran kgx_a19 (by omega) (by omega)
  by_cases h20 : c < 336
  · exact xk_ran kgx_a20 (by omega) (by omega)
  by_cases h21 : c < 352
  · exact xk_ran kgx_a21 (by omega) (by omega)
  by_cases h22 : c < 368
  · exact xk_ran kgx_a22 (by omega) (by omega)
  by_cases h23 : c < 384
  · exact xk_ran kgx_a23 (by omega) (by omega)
  by_cases h24 : c < 400
  · exact xk_ran kgx_a24 (by omega) (by omega)
  by_cases h25 : c < 416
  · exact xk_ran kgx_a25 (by omega) (by omega)
  by_cases h26 : c < 432
  · exact xk_ran kgx_a26 (by omega) (by omega)
  by_cases h27 : c < 448
  · exact xk_ran kgx_a27 (by omega) (by omega)
  by_cases h28 : c < 464
  · exact xk_ran kgx_a28 (by omega) (by omega)
  by_cases h29 : c < 480
  · exact xk_ran kgx_a29 (by omega) (by omega)
  by_cases h30 : c < 496
  · exact xk_ran kgx_a30 (by omega) (by omega)
  by_cases h31 : c < 512
  · exact xk_ran kgx_a31 (by omega) (by omega)
  exact xk_ran kgx_a32 (by omega) (by omega)
