/-! ===== the law's wrappers, told exactly ===== -/
def kw_dig (x : Nat) : xk_K := ([(2, 0, 0), (0, (0, ((x / 4 : Nat) : Int))), (0, (0, ((x % 4 : Nat) : Int)))], kg_T (0, (129, 0)), some (0, (0, 0)), kg_F (x % 4), (400 + x / 4, 457, xn 1 (x / 4)), (3, 53))
def kw_dig_c (x : Nat) : List xk_Q := [(9, (99, 0), kx_dig (x / 4) (x % 4))]
def kw_dig_b (x : Nat) : Bool := xk_okb ce_11 cm_ms (kw_dig_c x) kco_111 cm_111.1 kwh 13 13 (kw_dig x)
theorem kw_dig_a0 : (List.range 16).all (fun c => kw_dig_b (0 + c)) = true := by decide +kernel
theorem kw_dig_a1 : (List.range 16).all (fun c => kw_dig_b (16 + c)) = true := by decide +kernel
theorem kw_dig_a2 : (List.range 16).all (fun c => kw_dig_b (32 + c)) = true := by decide +kernel
theorem kw_dig_a3 : (List.range 16).all (fun c => kw_dig_b (48 + c)) = true := by decide +kernel
theorem kw_dig_a4 : (List.range 16).all (fun c => kw_dig_b (64 + c)) = true := by decide +kernel
theorem kw_dig_a5 : (List.range 16).all (fun c => kw_dig_b (80 + c)) = true := by decide +kernel
theorem kw_dig_a6 : (List.range 16).all (fun c => kw_dig_b (96 + c)) = true := by decide +kernel
theorem kw_dig_a7 : (List.range 16).all (fun c => kw_dig_b (112 + c)) = true := by decide +kernel
theorem kw_dig_a8 : (List.range 16).all (fun c => kw_dig_b (128 + c)) = true := by decide +kernel
theorem kw_dig_a9 : (List.range 16).all (fun c => kw_dig_b (144 + c)) = true := by decide +kernel
theorem kw_dig_a10 : (List.range 16).all (fun c => kw_dig_b (160 + c)) = true := by decide +kernel
theorem kw_dig_a11 : (List.range 16).all (fun c => kw_dig_b (176 + c)) = true := by decide +kernel
theorem kw_dig_a12 : (List.range 16).all (fun c => kw_dig_b (192 + c)) = true := by decide +kernel
theorem kw_dig_a13 : (List.range 16).all (fun c => kw_dig_b (208 + c)) = true := by decide +kernel
theorem kw_dig_a14 : (List.range 16).all (fun c => kw_dig_b (224 + c)) = true := by decide +kernel
theorem kw_dig_a15 : (List.range 16).all (fun c => kw_dig_b (240 + c)) = true := by decide +kernel
theorem kw_dig_a16 : (List.range 16).all (fun c => kw_dig_b (256 + c)) = true := by decide +kernel
theorem kw_dig_a17 : (List.range 16).all (fun c => kw_dig_b (272 + c)) = true := by decide +kernel
theorem kw_dig_a18 : (List.range 16).all (fun c => kw_dig_b (288 + c)) = true := by decide +kernel
theorem kw_dig_a19 : (List.range 16).all (fun c => kw_dig_b (304 + c)) = true := by decide +kernel
theorem kw_dig_a20 : (List.range 16).all (fun c => kw_dig_b (320 + c)) = true := by decide +kernel
theorem kw_dig_a21 : (List.range 16).all (fun c => kw_dig_b (336 + c)) = true := by decide +kernel
theorem kw_dig_a22 : (List.range 16).all (fun c => kw_dig_b (352 + c)) = true := by decide +kernel
theorem kw_dig_a23 : (List.range 16).all (fun c => kw_dig_b (368 + c)) = true := by decide +kernel
theorem kw_dig_a24 : (List.range 16).all (fun c => kw_dig_b (384 + c)) = true := by decide +kernel
theorem kw_dig_a25 : (List.range 16).all (fun c => kw_dig_b (400 + c)) = true := by decide +kernel
theorem kw_dig_a26 : (List.range 16).all (fun c => kw_dig_b (416 + c)) = true := by decide +kernel
theorem kw_dig_a27 : (List.range 16).all (fun c => kw_dig_b (432 + c)) = true := by decide +kernel
theorem kw_dig_a28 : (List.range 16).all (fun c => kw_dig_b (448 + c)) = true := by decide +kernel
theorem kw_dig_a29 : (List.range 16).all (fun c => kw_dig_b (464 + c)) = true := by decide +kernel
theorem kw_dig_a30 : (List.range 16).all (fun c => kw_dig_b (480 + c)) = true := by decide +kernel
theorem kw_dig_a31 : (List.range 16).all (fun c => kw_dig_b (496 + c)) = true := by decide +kernel
theorem kw_dig_a32 : (List.range 4).all (fun c => kw_dig_b (512 + c)) = true := by decide +kernel
theorem kw_dig_all (c : Nat) (h0 : 0 ≤ c) (hc : c < 516) : kw_dig_b c = true := by
  by_cases h0 : c < 16
  · exact xk_ran kw_dig_a0 (by omega) (by omega)
  by_cases h1 : c < 32
  · exact xk_ran kw_dig_a1 (by omega) (by omega)
  by_cases h2 : c < 48
  · exact xk_ran kw_dig_a2 (by omega) (by omega)
  by_cases h3 : c < 64
  · exact xk_ran kw_dig_a3 (by omega) (by omega)
  by_cases h4 : c < 80
  · exact xk_ran kw_dig_a4 (by omega) (by omega)
  by_cases h5 : c < 96
  · exact xk_ran kw_dig_a5 (by omega) (by omega)
  by_cases h6 : c < 112
  · exact xk_ran kw_dig_a6 (by omega) (by omega)
  by_cases h7 : c < 128
  · exact xk_ran kw_dig_a7 (by omega) (by omega)
  by_cases h8 : c < 144
  · exact xk_ran kw_dig_a8 (by omega) (by omega)
  by_cases h9 : c < 160
  · exact xk_ran kw_dig_a9 (by omega) (by omega)
  by_cases h10 : c < 176
  · exact xk_ran kw_dig_a10 (by omega) (by omega)
  by_cases h11 : c < 192
  · exact xk_ran kw_dig_a11 (by omega) (by omega)
  by_cases h12 : c < 208
  · exact xk_ran kw_dig_a12 (by omega) (by omega)
  by_cases h13 : c < 224
  · exact xk_ran kw_dig_a13 (by omega) (by omega)
  by_cases h14 : c < 240
  · exact xk_ran kw_dig_a14 (by omega) (by omega)
  by_cases h15 : c < 256
  · exact xk_ran kw_dig_a15 (by omega) (by omega)
  by_cases h16 : c < 272
  · exact xk_ran kw_dig_a16 (by omega) (by omega)
  by_cases h17 : c < 288
  · exact xk_ran kw_dig_a17 (by omega) (by omega)
  by_cases h18 : c < 304
  · exact xk_ran kw_dig_a18 (by omega) (by omega)
  by_cases h19 : c < 320
  · exact xk_ran kw_dig_a19 (by omega) (by omega)
  by_cases h20 : c < 336
  · exact xk_ran kw_dig_a20 (by omega) (by omega)
  by_cases h21 : c < 352
  · exact xk_ran kw_dig_a21 (by omega) (by omega)
  by_cases h22 : c < 368
  · exact xk_ran kw_dig_a22 (by omega) (by omega)
  by_cases h23 : c < 384
  · exact xk_ran kw_dig_a23 (by omega) (by omega)
  by_cases h24 : c < 400
  · exact xk_ran kw_dig_a24 (by omega) (by omega)
  by_cases h25 : c < 416
  · exact xk_ran kw_dig_a25 (by omega) (by omega)
  by_cases h26 : c < 432
  · exact xk_ran kw_dig_a26 (by omega) (by omega)
  by_cases h27 : c < 448
  · exact xk_ran kw_dig_a27 (by omega) (by omega)
  by_cases h28 : c < 464
  · exact xk_ran kw_dig_a28 (by omega) (by omega)
  by_cases h29 : c < 480
  · exact xk_ran kw_dig_a29 (by omega) (by omega)
  by_cases h30 : c < 496
  · exact xk_ran kw_dig_a30 (by omega) (by omega)
  by_cases h31 : c < 512
  · exact xk_ran kw_dig_a31 (by omega) (by omega)
  exact xk_ran kw_dig_a32 (by omega) (by omega)
theorem kw_dig_ok {l : Launch} {Φ : Nat → Nat → List Int → Int} (H : kG Φ) {x : Nat} (hx : x < 516) : xk_Cd l Φ kwh (0, 2147483647) cm_111.1 (kw_dig x) := by
  have hb := kw_dig_all x (Nat.zero_le _) hx
  unfold kw_dig_b at hb
  have hc : xk_Cts l Φ kwh (0, 2147483647) cm_ms (kw_dig_c x) := xk_Cts.one cm_g9 (kx_dig_ok H (by omega) (by omega)) xk_Cts.nil
  exact xk_okb_ok (i := .ireturn) hb ce_ok11 rfl cm_ok ce_glob kco_111_ok hc rfl rfl
