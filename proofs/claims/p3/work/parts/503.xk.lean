/-! ===== exact contracts ===== -/
def kx_add (c : Nat) : xk_K := ([(2, 0, 0), (0, 1, 0)], [((0, 3), [(5, 0, 0), (2, 1, 0), (0, 0, (c : Int)), (5, 3, 0), (5, 4, 0), (5, 5, 0), (5, 6, 0), (5, 7, 0)]), ((1, 0), xi 2 256)], none, [((0, 3), [(5, 0, 0), (2, 1, 0), (0, 0, (c : Int) + 1), (5, 3, 0), (5, 4, 0), (5, 5, 0), (5, 6, 0), (5, 7, 0)]), ((1, 0), xi 2 c ++ (0, 1, 0) :: xi (3 + c) (255 - c))], (0, 257, []), (0, 0))
def kx_add_b (c : Nat) : Bool := xk_all1 ce_4 cm_ms [] kco_62 cm_62.1 kwd [30] 21 (kx_add c) []
theorem kx_add_a0 : (List.range 16).all (fun c => kx_add_b (0 + c)) = true := by decide +kernel
theorem kx_add_a1 : (List.range 16).all (fun c => kx_add_b (16 + c)) = true := by decide +kernel
theorem kx_add_a2 : (List.range 16).all (fun c => kx_add_b (32 + c)) = true := by decide +kernel
theorem kx_add_a3 : (List.range 16).all (fun c => kx_add_b (48 + c)) = true := by decide +kernel
theorem kx_add_a4 : (List.range 16).all (fun c => kx_add_b (64 + c)) = true := by decide +kernel
theorem kx_add_a5 : (List.range 16).all (fun c => kx_add_b (80 + c)) = true := by decide +kernel
theorem kx_add_a6 : (List.range 16).all (fun c => kx_add_b (96 + c)) = true := by decide +kernel
theorem kx_add_a7 : (List.range 16).all (fun c => kx_add_b (112 + c)) = true := by decide +kernel
theorem kx_add_a8 : (List.range 16).all (fun c => kx_add_b (128 + c)) = true := by decide +kernel
theorem kx_add_a9 : (List.range 16).all (fun c => kx_add_b (144 + c)) = true := by decide +kernel
theorem kx_add_a10 : (List.range 16).all (fun c => kx_add_b (160 + c)) = true := by decide +kernel
theorem kx_add_a11 : (List.range 16).all (fun c => kx_add_b (176 + c)) = true := by decide +kernel
theorem kx_add_a12 : (List.range 16).all (fun c => kx_add_b (192 + c)) = true := by decide +kernel
theorem kx_add_a13 : (List.range 16).all (fun c => kx_add_b (208 + c)) = true := by decide +kernel
theorem kx_add_a14 : (List.range 16).all (fun c => kx_add_b (224 + c)) = true := by decide +kernel
theorem kx_add_a15 : (List.range 16).all (fun c => kx_add_b (240 + c)) = true := by decide +kernel
theorem kx_add_all (c : Nat) (hc : c < 256) : kx_add_b c = true := by
  by_cases h0 : c < 16
  · exact xk_ran kx_add_a0 (by omega) (by omega)
  by_cases h1 : c < 32
  · exact xk_ran kx_add_a1 (by omega) (by omega)
  by_cases h2 : c < 48
  · exact xk_ran kx_add_a2 (by omega) (by omega)
  by_cases h3 : c < 64
  · exact xk_ran kx_add_a3 (by omega) (by omega)
  by_cases h4 : c < 80
  · exact xk_ran kx_add_a4 (by omega) (by omega)
  by_cases h5 : c < 96
  · exact xk_ran kx_add_a5 (by omega) (by omega)
  by_cases h6 : c < 112
  · exact xk_ran kx_add_a6 (by omega) (by omega)
  by_cases h7 : c < 128
  · exact xk_ran kx_add_a7 (by omega) (by omega)
  by_cases h8 : c < 144
  · exact xk_ran kx_add_a8 (by omega) (by omega)
  by_cases h9 : c < 160
  · exact xk_ran kx_add_a9 (by omega) (by omega)
  by_cases h10 : c < 176
  · exact xk_ran kx_add_a10 (by omega) (by omega)
  by_cases h11 : c < 192
  · exact xk_ran kx_add_a11 (by omega) (by omega)
  by_cases h12 : c < 208
  · exact xk_ran kx_add_a12 (by omega) (by omega)
  by_cases h13 : c < 224
  · exact xk_ran kx_add_a13 (by omega) (by omega)
  by_cases h14 : c < 240
  · exact xk_ran kx_add_a14 (by omega) (by omega)
  exact xk_ran kx_add_a15 (by omega) (by omega)
theorem kx_add_ok {l : Launch} {Φ : Nat → Nat → List Int → Int} (H : kH_2 Φ) (c : Nat) (hc : c < 256) : xk_Cd l Φ kwd (0, 2147483647) cm_62.1 (kx_add c) := xk_done2 (E := ce_4) (ms := cm_ms) (cod := kco_62) (show xk_all1 ce_4 cm_ms [] kco_62 cm_62.1 kwd [30] 21 (kx_add c) [] = true from kx_add_all c hc) (fun r inp => k0 H.1.1 r inp) ce_ok4 rfl cm_ok xk_Cts.nil ce_glob kco_62_ok
