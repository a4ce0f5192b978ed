/-! ===== the reference: digest ===== -/
def kt_T (f : xk_V) : List xk_C := [((0, 11), [f, (5, 1, 0), (2, 6, 0), (2, 1, 0), (5, 4, 0), (5, 5, 0), (2, 5, 0), (2, 3, 0), (2, 4, 0), (2, 2, 0), (5, 10, 0), (5, 11, 0), (5, 12, 0), (5, 13, 0), (5, 14, 0), (5, 15, 0), (5, 16, 0), (5, 17, 0), (5, 18, 0), (5, 19, 0), (5, 20, 0), (5, 21, 0), (5, 22, 0), (5, 23, 0), (5, 24, 0), (5, 25, 0), (5, 26, 0), (5, 27, 0), (5, 28, 0), (5, 29, 0), (5, 30, 0), (5, 31, 0), (5, 32, 0), (5, 33, 0), (5, 34, 0), (5, 35, 0), (5, 36, 0)]), ((512, 0), xi 2 192), ((1, 0), xi 194 64), ((1, 0), xi 258 8), ((1, 0), xi 266 8), kh_kc, ((6000, 0), xi 274 352)]
def kt_F (to : Nat) : List xk_C := (let f : xk_V := (0, (0, 0)); [((0, 11), [f, (5, 1, 0), (2, 6, 0), (2, 1, 0), (5, 4, 0), (5, 5, 0), (2, 5, 0), (2, 3, 0), (2, 4, 0), (2, 2, 0), (5, 10, 0), (5, 11, 0), (5, 12, 0), (5, 13, 0), (5, 14, 0), (5, 15, 0), (5, 16, 0), (5, 17, 0), (5, 18, 0), (5, 19, 0), (5, 20, 0), (5, 21, 0), (5, 22, 0), (5, 23, 0), (5, 24, 0), (5, 25, 0), (5, 26, 0), (5, 27, 0), (5, 28, 0), (5, 29, 0), (5, 30, 0), (5, 31, 0), (5, 32, 0), (5, 33, 0), (5, 34, 0), (5, 35, 0), (5, 36, 0)]), ((512, 0), List.replicate 192 (4, 0, 0)), ((1, 0), List.replicate 64 (4, 0, 0)), ((1, 0), List.replicate 8 (4, 0, 0)), ((1, 0), List.replicate 8 (4, 0, 0)), kh_kc, ((6000, 0), xi 274 to ++ xi 626 32 ++ xi (306 + to) (320 - to))])
def kt_ls (i : Int) : List (Nat × xk_V) := [(3, (0, (0, i))), (0, (2, 0, 0)), (1, (0, (626, 0))), (2, (0, (627, 0)))]
def kt_ce (n into : Nat) : List xk_Q := [(153, (99, 0), kz_129 n), (153, (99, 0), kz_4 into), (177, (99, 0), km_refused)]
theorem kt_ce_ok {l : Launch} {Φ : Nat → Nat → List Int → Int} (H : kH_37 Φ) {n into : Nat} (hn : n < 129) (hi : into < 4) : xk_Cts l Φ kwh (0, 2147483647) cm_ms (kt_ce n into) := xk_Cts.one cm_g153 (kz_129_ok H.1.1.1.1.1.1.1.1.1.1.1.1.1.1.1.1.1.1.1.1.1.1.1.1.1.1.1.1.1.1.1.1.1.1.1.1.1 n hn) (xk_Cts.one cm_g153 (kz_4_ok H.1.1.1.1.1.1.1.1.1.1.1.1.1.1.1.1.1.1.1.1.1.1.1.1.1.1.1.1.1.1.1.1.1.1.1.1.1 into hi) (xk_Cts.one cm_g177 ((km_refused_ok H.1.1.1.1.1.1.1.1.1.1.1.1.1.1).wd rfl) xk_Cts.nil))
def kte_b (x : Nat) : Bool := xk_sg ce_12 cm_ms (kt_ce (x / 4) (x % 4)) kco_140 cm_140.1 3 50 kwh [34] 30 625 (0, [(0, (2, 0, 0)), (1, (0, (0, ((x / 4 : Nat) : Int)))), (2, (0, (0, ((x % 4 : Nat) : Int))))], [], kt_T (0, (1, 0)), [], 626) [] (fun g => if g ≤ 625 then (g, 0) else if g = 626 then (0, ((x / 4 : Nat) : Int)) else (0, ((x % 4 : Nat) : Int))) 34 (kt_ls 0, [(0, (626, 0)), (0, (0, 0))], kt_T (0, (0, 0)))
theorem kte_a0 : (List.range 16).all (fun c => kte_b (0 + c)) = true := by decide +kernel
theorem kte_a1 : (List.range 16).all (fun c => kte_b (16 + c)) = true := by decide +kernel
theorem kte_a2 : (List.range 16).all (fun c => kte_b (32 + c)) = true := by decide +kernel
theorem kte_a3 : (List.range 16).all (fun c => kte_b (48 + c)) = true := by decide +kernel
theorem kte_a4 : (List.range 16).all (fun c => kte_b (64 + c)) = true := by decide +kernel
theorem kte_a5 : (List.range 16).all (fun c => kte_b (80 + c)) = true := by decide +kernel
theorem kte_a6 : (List.range 16).all (fun c => kte_b (96 + c)) = true := by decide +kernel
theorem kte_a7 : (List.range 16).all (fun c => kte_b (112 + c)) = true := by decide +kernel
theorem kte_a8 : (List.range 16).all (fun c => kte_b (128 + c)) = true := by decide +kernel
theorem kte_a9 : (List.range 16).all (fun c => kte_b (144 + c)) = true := by decide +kernel
theorem kte_a10 : (List.range 16).all (fun c => kte_b (160 + c)) = true := by decide +kernel
theorem kte_a11 : (List.range 16).all (fun c => kte_b (176 + c)) = true := by decide +kernel
theorem kte_a12 : (List.range 16).all (fun c => kte_b (192 + c)) = true := by decide +kernel
theorem kte_a13 : (List.range 16).all (fun c => kte_b (208 + c)) = true := by decide +kernel
theorem kte_a14 : (List.range 16).all (fun c => kte_b (224 + c)) = true := by decide +kernel
theorem kte_a15 : (List.range 16).all (fun c => kte_b (240 + c)) = true := by decide +kernel
theorem kte_a16 : (List.range 16).all (fun c => kte_b (256 + c)) = true := by decide +kernel
theorem kte_a17 : (List.range 16).all (fun c => kte_b (272 + c)) = true := by decide +kernel
theorem kte_a18 : (List.range 16).all (fun c => kte_b (288 + c)) = true := by decide +kernel
theorem kte_a19 : (List.range 16).all (fun c => kte_b (304 + c)) = true := by decide +kernel
theorem kte_a20 : (List.range 16).all (fun c => kte_b (320 + c)) = true := by decide +kernel
theorem kte_a21 : (List.range 16).all (fun c => kte_b (336 + c)) = true := by decide +kernel
theorem kte_a22 : (List.range 16).all (fun c => kte_b (352 + c)) = true := by decide +kernel
theorem kte_a23 : (List.range 16).all (fun c => kte_b (368 + c)) = true := by decide +kernel
theorem kte_a24 : (List.range 16).all (fun c => kte_b (384 + c)) = true := by decide +kernel
theorem kte_a25 : (List.range 16).all (fun c => kte_b (400 + c)) = true := by decide +kernel
theorem kte_a26 : (List.range 16).all (fun c => kte_b (416 + c)) = true := by decide +kernel
theorem kte_a27 : (List.range 16).all (fun c => kte_b (432 + c)) = true := by decide +kernel
theorem kte_a28 : (List.range 16).all (fun c => kte_b (448 + c)) = true := by decide +kernel
theorem kte_a29 : (List.range 16).all (fun c => kte_b (464 + c)) = true := by decide +kernel
theorem kte_a30 : (List.range 16).all (fun c => kte_b (480 + c)) = true := by decide +kernel
theorem kte_a31 : (List.range 16).all (fun c => kte_b (496 + c)) = true := by decide +kernel
theorem kte_a32 : (List.range 4).all (fun c => kte_b (512 + c)) = true := by decide +kernel
theorem kte_all (c : Nat) (h0 : 0 ≤ c) (hc : c < 516) : kte_b c = true := by
  by_cases h0 : c < 16
  · exact xk_ran kte_a0 (by omega) (by omega)
  by_cases h1 : c < 32
  · exact xk_ran kte_a1 (by omega) (by omega)
  by_cases h2 : c < 48
  · exact xk_ran kte_a2 (by omega) (by omega)
  by_cases h3 : c < 64
  · exact xk_ran kte_a3 (by omega) (by omega)
  by_cases h4 : c < 80
  · exact xk_ran kte_a4 (by omega) (by omega)
  by_cases h5 : c < 96
  · exact xk_ran kte_a5 (by omega) (by omega)
  by_cases h6 : c < 112
  · exact xk_ran kte_a6 (by omega) (by omega)
  by_cases h7 : c < 128
  · exact xk_ran kte_a7 (by omega) (by omega)
  by_cases h8 : c < 144
  · exact xk_ran kte_a8 (by omega) (by omega)
  by_cases h9 : c < 160
  · exact xk_ran kte_a9 (by omega) (by omega)
  by_cases h10 : c < 176
  · exact xk_ran kte_a10 (by omega) (by omega)
  by_cases h11 : c < 192
  · exact xk_ran kte_a11 (by omega) (by omega)
  by_cases h12 : c < 208
  · exact xk_ran kte_a12 (by omega) (by omega)
  by_cases h13 : c < 224
  · exact xk_ran kte_a13 (by omega) (by omega)
  by_cases h14 : c < 240
  · exact xk_ran kte_a14 (by omega) (by omega)
  by_cases h15 : c < 256
  · exact xk_ran kte_a15 (by omega) (by omega)
  by_cases h16 : c < 272
  · exact xk_ran kte_a16 (by omega) (by omega)
  by_cases h17 : c < 288
  · exact xk_ran kte_a17 (by omega) (by omega)
  by_cases h18 : c < 304
  · exact xk_ran kte_a18 (by omega) (by omega)
  by_cases h19 : c < 320
  · exact xk_ran kte_a19 (by omega) (by omega)
  by_cases h20 : c < 336
  · exact xk_ran kte_a20 (by omega) (by omega)
  by_cases h21 : c < 352
  · exact xk_ran kte_a21 (by omega) (by omega)
  by_cases h22 : c < 368
  · exact xk_ran kte_a22 (by omega) (by omega)
  by_cases h23 : c < 384
  · exact xk_ran kte_a23 (by omega) (by omega)
  by_cases h24 : c < 400
  · exact xk_ran kte_a24 (by omega) (by omega)
  by_cases h25 : c < 416
  · exact xk_ran kte_a25 (by omega) (by omega)
  by_cases h26 : c < 432
  · exact xk_ran kte_a26 (by omega) (by omega)
  by_cases h27 : c < 448
  · exact xk_ran kte_a27 (by omega) (by omega)
  by_cases h28 : c < 464
  · exact xk_ran kte_a28 (by omega) (by omega)
  by_cases h29 : c < 480
  · exact xk_ran kte_a29 (by omega) (by omega)
  by_cases h30 : c < 496
  · exact xk_ran kte_a30 (by omega) (by omega)
  by_cases h31 : c < 512
  · exact xk_ran kte_a31 (by omega) (by omega)
  exact xk_ran kte_a32 (by omega) (by omega)
def ktb_b (i : Nat) : Bool := xk_sg ce_12 cm_ms [] kco_140 cm_140.1 3 50 kwh [34] 40 627 (37, kt_ls (i : Int), [], kt_T (0, (0, 0)), [], 628) [] (fun g => if g = 2 + i then (274 + i, 0) else (g, 0)) 34 (kt_ls ((i : Int) + 1), [(0, (626, 0)), (0, (0, (i : Int) + 1))], kt_T (0, (0, 0)))
theorem ktb_a0 : (List.range 16).all (fun c => ktb_b (0 + c)) = true := by decide +kernel
theorem ktb_a1 : (List.range 16).all (fun c => ktb_b (16 + c)) = true := by decide +kernel
theorem ktb_a2 : (List.range 16).all (fun c => ktb_b (32 + c)) = true := by decide +kernel
theorem ktb_a3 : (List.range 16).all (fun c => ktb_b (48 + c)) = true := by decide +kernel
theorem ktb_a4 : (List.range 16).all (fun c => ktb_b (64 + c)) = true := by decide +kernel
theorem ktb_a5 : (List.range 16).all (fun c => ktb_b (80 + c)) = true := by decide +kernel
theorem ktb_a6 : (List.range 16).all (fun c => ktb_b (96 + c)) = true := by decide +kernel
theorem ktb_a7 : (List.range 16).all (fun c => ktb_b (112 + c)) = true := by decide +kernel
theorem ktb_all (c : Nat) (h0 : 0 ≤ c) (hc : c < 128) : ktb_b c = true := by
  by_cases h0 : c < 16
  · exact xk_ran ktb_a0 (by omega) (by omega)
  by_cases h1 : c < 32
  · exact xk_ran ktb_a1 (by omega) (by omega)
  by_cases h2 : c < 48
  · exact xk_ran ktb_a2 (by omega) (by omega)
  by_cases h3 : c < 64
  · exact xk_ran ktb_a3 (by omega) (by omega)
  by_cases h4 : c < 80
  · exact xk_ran ktb_a4 (by omega) (by omega)
  by_cases h5 : c < 96
  · exact xk_ran ktb_a5 (by omega) (by omega)
  by_cases h6 : c < 112
  · exact xk_ran ktb_a6 (by omega) (by omega)
  exact xk_ran ktb_a7 (by omega) (by omega)
def ktx_b (x : Nat) : Bool := xk_sg ce_12 cm_ms [(149, (99, 0), km_row (x / 4) (x % 4))] kco_140 cm_140.1 3 50 kwh [64] 30 627 (55, [(1, (0, (0, ((x / 4 : Nat) : Int)))), (2, (0, (0, ((x % 4 : Nat) : Int)))), (0, (2, 0, 0))], [], kt_T (0, (0, 0)), [], 628) [(628, 1600 + x / 4, (xn 2 (x / 4)).map (fun g => (g, 0)))] (fun g => if g ≤ 625 then (g, 0) else (g + 2, 0)) 64 ([], [], kt_F (32 * (x % 4)))
theorem ktx_a0 : (List.range 16).all (fun c => ktx_b (0 + c)) = true := by decide +kernel
theorem ktx_a1 : (List.range 16).all (fun c => ktx_b (16 + c)) = true := by decide +kernel
theorem ktx_a2 : (List.range 16).all (fun c => ktx_b (32 + c)) = true := by decide +kernel
theorem ktx_a3 : (List.range 16).all (fun c => ktx_b (48 + c)) = true := by decide +kernel
theorem ktx_a4 : (List.range 16).all (fun c => ktx_b (64 + c)) = true := by decide +kernel
theorem ktx_a5 : (List.range 16).all (fun c => ktx_b (80 + c)) = true := by decide +kernel
theorem ktx_a6 : (List.range 16).all (fun c => ktx_b (96 + c)) = true := by decide +kernel
theorem ktx_a7 : (List.range 16).all (fun c => ktx_b (112 + c)) = true := by decide +kernel
theorem ktx_a8 : (List.range 16).all (fun c => ktx_b (128 + c)) = true := by decide +kernel
theorem ktx_a9 : (List.range 16).all (fun c => ktx_b (144 + c)) = true := by decide +kernel
theorem ktx_a10 : (List.range 16).all (fun c => ktx_b (160 + c)) = true := by decide +kernel
theorem ktx_a11 : (List.range 16).all (fun c => ktx_b (176 + c)) = true := by decide +kernel
theorem ktx_a12 : (List.range 16).all (fun c => ktx_b (192 + c)) = true := by decide +kernel
theorem ktx_a13 : (List.range 16).all (fun c => ktx_b (208 + c)) = true := by decide +kernel
theorem ktx_a14 : (List.range 16).all (fun c => ktx_b (224 + c)) = true := by decide +kernel
theorem ktx_a15 : (List.range 16).all (fun c => ktx_b (240 + c)) = true := by decide +kernel
theorem ktx_a16 : (List.range 16).all (fun c => ktx_b (256 + c)) = true := by decide +kernel
theorem ktx_a17 : (List.range 16).all (fun c => ktx_b (272 + c)) = true := by decide +kernel
theorem ktx_a18 : (List.range 16).all (fun c => ktx_b (288 + c)) = true := by decide +kernel
theorem ktx_a19 : (List.range 16).all (fun c => ktx_b (304 + c)) = true := by decide +kernel
theorem ktx_a20 : (List.range 16).all (fun c => ktx_b (320 + c)) = true := by decide +kernel
theorem ktx_a21 : (List.range 16).all (fun c => ktx_b (336 + c)) = true := by decide +kernel
theorem ktx_a22 : (List.range 16).all (fun c => ktx_b (352 + c)) = true := by decide +kernel
theorem ktx_a23 : (List.range 16).all (fun c => ktx_b (368 + c)) = true := by decide +kernel
theorem ktx_a24 : (List.range 16).all (fun c => ktx_b (384 + c)) = true := by decide +kernel
theorem ktx_a25 : (List.range 16).all (fun c => ktx_b (400 + c)) = true := by decide +kernel
theorem ktx_a26 : (List.range 16).all (fun c => ktx_b (416 + c)) = true := by decide +kernel
theorem ktx_a27 : (List.range 16).all (fun c => ktx_b (432 + c)) = true := by decide +kernel
theorem ktx_a28 : (List.range 16).all (fun c => ktx_b (448 + c)) = true := by decide +kernel
theorem ktx_a29 : (List.range 16).all (fun c => ktx_b (464 + c)) = true := by decide +kernel
theorem ktx_a30 : (List.range 16).all (fun c => ktx_b (480 + c)) = true := by decide +kernel
theorem ktx_a31 : (List.range 16).all (fun c => ktx_b (496 + c)) = true := by decide +kernel
theorem ktx_a32 : (List.range 4).all (fun c => ktx_b (512 + c)) = true := by decide +kernel
theorem ktx_all (c : Nat) (h0 : 0 ≤ c) (hc : c < 516) : ktx_b c = true := by
  by_cases h0 : c < 16
  · exact xk_ran ktx_a0 (by omega) (by omega)
  by_cases h1 : c < 32
  · exact xk_ran ktx_a1 (by omega) (by omega)
  by_cases h2 : c < 48
  · exact xk_ran ktx_a2 (by omega) (by omega)
  by_cases h3 : c < 64
  · exact xk_ran ktx_a3 (by omega) (by omega)
  by_cases h4 : c < 80
  · exact xk_ran ktx_a4 (by omega) (by omega)
  by_cases h5 : c < 96
  · exact xk_ran ktx_a5 (by omega) (by omega)
  by_cases h6 : c < 112
  · exact xk_ran ktx_a6 (by omega) (by omega)
  by_cases h7 : c < 128
  · exact xk_ran ktx_a7 (by omega) (by omega)
  by_cases h8 : c < 144
  · exact xk_ran ktx_a8 (by omega) (by omega)
  by_cases h9 : c < 160
  · exact xk_ran ktx_a9 (by omega) (by omega)
  by_cases h10 : c < 176
  · exact xk_ran ktx_a10 (by omega) (by omega)
  by_cases h11 : c < 192
  · exact xk_ran ktx_a11 (by omega) (by omega)
  by_cases h12 : c < 208
  · exact xk_ran ktx_a12 (by omega) (by omega)
  by_cases h13 : c < 224
  · exact xk_ran ktx_a13 (by omega) (by omega)
  by_cases h14 : c < 240
  · exact xk_ran ktx_a14 (by omega) (by omega)
  by_cases h15 : c < 256
  · exact xk_ran ktx_a15 (by omega) (by omega)
  by_cases h16 : c < 272
  · exact xk_ran ktx_a16 (by omega) (by omega)
  by_cases h17 : c < 288
  · exact xk_ran ktx_a17 (by omega) (by omega)
  by_cases h18 : c < 304
  · exact xk_ran ktx_a18 (by omega) (by omega)
  by_cases h19 : c < 320
  · exact xk_ran ktx_a19 (by omega) (by omega)
  by_cases h20 : c < 336
  · exact xk_ran ktx_a20 (by omega) (by omega)
  by_cases h21 : c < 352
  · exact xk_ran ktx_a21 (by omega) (by omega)
  by_cases h22 : c < 368
  · exact xk_ran ktx_a22 (by omega) (by omega)
  by_cases h23 : c < 384
  · exact xk_ran ktx_a23 (by omega) (by omega)
  by_cases h24 : c < 400
  · exact xk_ran ktx_a24 (by omega) (by omega)
  by_cases h25 : c < 416
  · exact xk_ran ktx_a25 (by omega) (by omega)
  by_cases h26 : c < 432
  · exact xk_ran ktx_a26 (by omega) (by omega)
  by_cases h27 : c < 448
  · exact xk_ran ktx_a27 (by omega) (by omega)
  by_cases h28 : c < 464
  · exact xk_ran ktx_a28 (by omega) (by omega)
  by_cases h29 : c < 480
  · exact xk_ran ktx_a29 (by omega) (by omega)
  by_cases h30 : c < 496
  · exact xk_ran ktx_a30 (by omega) (by omega)
  by_cases h31 : c < 512
  · exact xk_ran ktx_a31 (by omega) (by omega)
  exact xk_ran ktx_a32 (by omega) (by omega)
