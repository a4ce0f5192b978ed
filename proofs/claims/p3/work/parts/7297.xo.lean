/-! ===== agree ===== -/
def kg_q (k u i : Nat) : xk_K := if k = u then (if u = i then kx4 else kx1) else if k = i then kx2 else if u = i then kx3 else kx0
theorem kg_q_ok {l : Launch} {Φ : Nat → Nat → List Int → Int} (H : kX Φ) (k u i : Nat) : xk_Cd l Φ kwf (0, 2147483647) cm_46.1 (kg_q k u i) := by
  unfold kg_q
  split
  · split
    · exact kx4_ok H
    · exact kx1_ok H
  · split
    · exact kx2_ok H
    · split
      · exact kx3_ok H
      · exact kx0_ok H
def kg_da (x : Nat) : xk_K := ([(2, 0, 0), (0, (0, ((x / 16 : Nat) : Int))), (0, (0, ((x / 4 % 4 : Nat) : Int))), (0, (0, ((x % 4 : Nat) : Int)))], [((0, 0), [(5, 0, 0), (2, 1, 0), (5, 2, 0), (5, 3, 0), (5, 4, 0), (5, 5, 0), (2, 6, 0), (5, 7, 0), (5, 8, 0), (5, 9, 0), (5, 10, 0)]), ((1, 7), [(2, 2, 0), (2, 3, 0), (2, 4, 0), (2, 5, 0)]), ((1, 0), xi 1 32), ((1, 0), xi 33 32), ((1, 0), xi 65 32), ((1, 0), xi 97 32), ((0, 2), [(5, 6000, 0), (2, 7, 0), (5, 6002, 0), (5, 6003, 0), (5, 6004, 0), (5, 6005, 0), (5, 6006, 0)]), ((0, 4), [(5, 7000, 0), (2, 12, 0), (2, 8, 0), (2, 9, 0), (2, 10, 0), (2, 11, 0), (2, 13, 0), (2, 14, 0), (2, 15, 0), (2, 16, 0), (2, 17, 0), (2, 18, 0), (2, 19, 0)])] ++ (List.range 12).map (fun i => ((1, 1), xl (129 + 10 * i) 10)), none, [((0, 0), [(5, 0, 0), (2, 1, 0), (5, 2, 0), (5, 3, 0), (5, 4, 0), (5, 5, 0), (2, 6, 0), (5, 7, 0), (5, 8, 0), (5, 9, 0), (5, 10, 0)]), ((1, 7), [(2, 2, 0), (2, 3, 0), (2, 4, 0), (2, 5, 0)]), ((1, 0), xi (if 0 = x % 4 then 249 else 1) 32), ((1, 0), xi (if 1 = x % 4 then 249 else 33) 32), ((1, 0), xi (if 2 = x % 4 then 249 else 65) 32), ((1, 0), xi (if 3 = x % 4 then 249 else 97) 32), ((0, 2), [(5, 6000, 0), (2, 7, 0), (5, 6002, 0), (5, 6003, 0), (5, 6004, 0), (5, 6005, 0), (5, 6006, 0)]), ((0, 4), [(5, 7000, 0), (2, 12, 0), (2, 8, 0), (2, 9, 0), (2, 10, 0), (2, 11, 0), (2, 13, 0), (2, 14, 0), (2, 15, 0), (2, 16, 0), (2, 17, 0), (2, 18, 0), (2, 19, 0)])] ++ List.replicate 12 ((1, 1), List.replicate 10 (4, 0, 0)), (50, 248, xn (1 + 32 * (x / 16)) 32 ++ xn (1 + 32 * (x / 4 % 4)) 32), (3, 126))
def kg_da_c (x : Nat) : List xk_Q := [(5, (99, 0), kq_4 (x / 16)), (5, (99, 0), kq_4 (x / 4 % 4)), (5, (99, 0), kq_4 (x % 4)), (46, (99, 0), kg_q (x / 16) (x / 4 % 4) (x % 4))]
def kg_da_b (x : Nat) : Bool := xk_okb ce_0 cm_ms (kg_da_c x) kco_1 cm_1.1 kwf 30 43 (kg_da x)
theorem kg_da_a0 : (List.range 16).all (fun c => kg_da_b (0 + c)) = true := by decide +kernel
theorem kg_da_a1 : (List.range 16).all (fun c => kg_da_b (16 + c)) = true := by decide +kernel
theorem kg_da_a2 : (List.range 16).all (fun c => kg_da_b (32 + c)) = true := by decide +kernel
theorem kg_da_a3 : (List.range 16).all (fun c => kg_da_b (48 + c)) = true := by decide +kernel
theorem kg_da_all (c : Nat) (h0 : 0 ≤ c) (hc : c < 64) : kg_da_b c = true := by
  by_cases h0 : c < 16
  · exact xk_ran kg_da_a0 (by omega) (by omega)
  by_cases h1 : c < 32
  · exact xk_ran kg_da_a1 (by omega) (by omega)
  by_cases h2 : c < 48
  · exact xk_ran kg_da_a2 (by omega) (by omega)
  exact xk_ran kg_da_a3 (by omega) (by omega)
theorem kg_da_ok {l : Launch} {Φ : Nat → Nat → List Int → Int} (H : kX Φ) {x : Nat} (hx : x < 64) : xk_Cd l Φ kwf (0, 2147483647) cm_1.1 (kg_da x) := by
  have hb := kg_da_all x (Nat.zero_le _) hx
  unfold kg_da_b at hb
  have hc : xk_Cts l Φ kwf (0, 2147483647) cm_ms (kg_da_c x) := (xk_Cts.one cm_g5 ((kq_4_ok H.1.1.1.1.1.1.1.1.1.1.1.1.1.1.1.1 (x / 16) (by omega)).wd rfl) (xk_Cts.one cm_g5 ((kq_4_ok H.1.1.1.1.1.1.1.1.1.1.1.1.1.1.1.1 (x / 4 % 4) (by omega)).wd rfl) (xk_Cts.one cm_g5 ((kq_4_ok H.1.1.1.1.1.1.1.1.1.1.1.1.1.1.1.1 (x % 4) (by omega)).wd rfl) (xk_Cts.one cm_g46 (kg_q_ok H _ _ _) xk_Cts.nil))))
  exact xk_okb_ok (i := .return_) hb ce_ok0 rfl cm_ok ce_glob kco_1_ok hc rfl rfl
def kg_cp (i : Nat) : xk_K := ([(2, 0, 0), (0, (0, 320)), (0, (0, ((32 * i : Nat) : Int)))], [((0, 11), [(5, 0, 0), (5, 1, 0), (2, 1, 0), (5, 3, 0), (5, 4, 0), (5, 5, 0), (5, 6, 0), (5, 7, 0), (5, 8, 0), (5, 9, 0), (5, 10, 0), (5, 11, 0), (5, 12, 0), (5, 13, 0), (5, 14, 0), (5, 15, 0), (5, 16, 0), (5, 17, 0), (5, 18, 0), (5, 19, 0), (5, 20, 0), (5, 21, 0), (5, 22, 0), (5, 23, 0), (5, 24, 0), (5, 25, 0), (5, 26, 0), (5, 27, 0), (5, 28, 0), (5, 29, 0), (5, 30, 0), (5, 31, 0), (5, 32, 0), (5, 33, 0), (5, 34, 0), (5, 35, 0), (5, 36, 0)]), ((6000, 0), xi 1 352)], none, [((0, 11), [(5, 0, 0), (5, 1, 0), (2, 1, 0), (5, 3, 0), (5, 4, 0), (5, 5, 0), (5, 6, 0), (5, 7, 0), (5, 8, 0), (5, 9, 0), (5, 10, 0), (5, 11, 0), (5, 12, 0), (5, 13, 0), (5, 14, 0), (5, 15, 0), (5, 16, 0), (5, 17, 0), (5, 18, 0), (5, 19, 0), (5, 20, 0), (5, 21, 0), (5, 22, 0), (5, 23, 0), (5, 24, 0), (5, 25, 0), (5, 26, 0), (5, 27, 0), (5, 28, 0), (5, 29, 0), (5, 30, 0), (5, 31, 0), (5, 32, 0), (5, 33, 0), (5, 34, 0), (5, 35, 0), (5, 36, 0)]), ((6000, 0), xi 1 (32 * i) ++ xi 321 32 ++ xi (33 + 32 * i) (320 - 32 * i))], (0, 352, []), (0, 0))
def kg_cp_b (x : Nat) : Bool := xk_all1 ce_12 cm_ms [] kco_138 cm_138.1 kwg [30] 554 (kg_cp x) []
theorem kg_cp_a0 : (List.range 4).all (fun c => kg_cp_b (0 + c)) = true := by decide +kernel
theorem kg_cp_all (c : Nat) (h0 : 0 ≤ c) (hc : c < 4) : kg_cp_b c = true := by
  exact xk_ran kg_cp_a0 (by omega) (by omega)
theorem kg_cp_ok {l : Launch} {Φ : Nat → Nat → List Int → Int} (H : kR_0 Φ) {x : Nat} (hx : x < 4) : xk_Cd l Φ kwg (0, 2147483647) cm_138.1 (kg_cp x) := xk_done2 (E := ce_12) (ms := cm_ms) (cts := []) (cod := kco_138) (show xk_all1 ce_12 cm_ms [] kco_138 cm_138.1 kwg [30] 554 (kg_cp x) [] = true from kg_cp_all x (Nat.zero_le _) hx) (fun r inp => k0r H r inp) ce_ok12 rfl cm_ok xk_Cts.nil ce_glob kco_138_ok
theorem km_refusedr_ok {l : Launch} {Φ : Nat → Nat → List Int → Int} (H : kR_0 Φ) : xk_Cd l Φ kwg (0, 2147483647) cm_177.1 km_refused := xk_done2 (E := ce_12) (ms := cm_ms) (cts := []) (cod := kco_177) (stops := [14]) (f := 11) (tb := []) (by decide +kernel) (fun r inp => k0r H r inp) ce_ok12 rfl cm_ok xk_Cts.nil ce_glob kco_177_ok
theorem kg_z {l : Launch} {Φ : Nat → Nat → List Int → Int} (H : kR_0 Φ) {c : Nat} (hc : c < 4) : xk_Cd l Φ kwg (0, 2147483647) cm_153.1 (kz_4 c) := (kz_4_ok H c hc).wd rfl
def kg_y (k u : Nat) : xk_K := if k = 0 then ky0 u else if k = 1 then ky1 u else if k = 2 then ky2 u else ky3 u
theorem kg_y_ok {l : Launch} {Φ : Nat → Nat → List Int → Int} (H : kY Φ) {k u : Nat} (hk : k < 4) (hu : u < 4) : xk_Cd l Φ kwg (0, 2147483647) cm_175.1 (kg_y k u) := by
  match k, hk, u, hu with
  | 0, _, 0, _ => exact ky0_ok0 H
  | 0, _, 1, _ => exact ky0_ok1 H
  | 0, _, 2, _ => exact ky0_ok2 H
  | 0, _, 3, _ => exact ky0_ok3 H
  | 1, _, 0, _ => exact ky1_ok0 H
  | 1, _, 1, _ => exact ky1_ok1 H
  | 1, _, 2, _ => exact ky1_ok2 H
  | 1, _, 3, _ => exact ky1_ok3 H
  | 2, _, 0, _ => exact ky2_ok0 H
  | 2, _, 1, _ => exact ky2_ok1 H
  | 2, _, 2, _ => exact ky2_ok2 H
  | 2, _, 3, _ => exact ky2_ok3 H
  | 3, _, 0, _ => exact ky3_ok0 H
  | 3, _, 1, _ => exact ky3_ok1 H
  | 3, _, 2, _ => exact ky3_ok2 H
  | 3, _, 3, _ => exact ky3_ok3 H
def kg_ma (x : Nat) : xk_K := ([(2, 0, 0), (0, (0, ((x / 16 : Nat) : Int))), (0, (0, ((x / 4 % 4 : Nat) : Int))), (0, (0, ((x % 4 : Nat) : Int)))], [((0, 11), [(0, (1, 0)), (5, 1, 0), (2, 3, 0), (5, 3, 0), (5, 4, 0), (5, 5, 0), (5, 6, 0), (5, 7, 0), (5, 8, 0), (5, 9, 0), (2, 1, 0), (2, 2, 0), (5, 12, 0), (5, 13, 0), (5, 14, 0), (5, 15, 0), (5, 16, 0), (5, 17, 0), (5, 18, 0), (5, 19, 0), (5, 20, 0), (5, 21, 0), (5, 22, 0), (5, 23, 0), (5, 24, 0), (5, 25, 0), (5, 26, 0), (5, 27, 0), (5, 28, 0), (5, 29, 0), (5, 30, 0), (5, 31, 0), (5, 32, 0), (5, 33, 0), (5, 34, 0), (5, 35, 0), (5, 36, 0)]), ((1, 1), xl 2 256), ((1, 1), xl 258 31), ((6000, 0), xi 289 352)], none, [((0, 11), [(0, (0, 0)), (5, 1, 0), (2, 3, 0), (5, 3, 0), (5, 4, 0), (5, 5, 0), (5, 6, 0), (5, 7, 0), (5, 8, 0), (5, 9, 0), (2, 1, 0), (2, 2, 0), (5, 12, 0), (5, 13, 0), (5, 14, 0), (5, 15, 0), (5, 16, 0), (5, 17, 0), (5, 18, 0), (5, 19, 0), (5, 20, 0), (5, 21, 0), (5, 22, 0), (5, 23, 0), (5, 24, 0), (5, 25, 0), (5, 26, 0), (5, 27, 0), (5, 28, 0), (5, 29, 0), (5, 30, 0), (5, 31, 0), (5, 32, 0), (5, 33, 0), (5, 34, 0), (5, 35, 0), (5, 36, 0)]), ((1, 1), List.replicate 256 (4, 0, 0)), ((1, 1), List.replicate 31 (4, 0, 0)), ((6000, 0), xi 289 (32 * (x % 4)) ++ xi 641 32 ++ xi (321 + 32 * (x % 4)) (288 - 32 * (x % 4)) ++ List.replicate 32 (4, 0, 0))], (62 + x / 4 % 4, 640, xn (289 + 32 * (x / 16)) 32 ++ xn (289 + 32 * (x / 4 % 4)) 32), (4, 64))
def kg_ma_c (x : Nat) : List xk_Q := [(153, (99, 0), kz_4 (x / 16)), (153, (99, 0), kz_4 (x / 4 % 4)), (153, (99, 0), kz_4 (x % 4)), (177, (99, 0), km_refused), (175, (99, 0), kg_y (x / 16) (x / 4 % 4)), (138, (99, 0), kg_cp (x % 4))]
def kg_ma_b (x : Nat) : Bool := xk_okb ce_12 cm_ms (kg_ma_c x) kco_128 cm_128.1 kwg 37 62 (kg_ma x)
theorem kg_ma_a0 : (List.range 8).all (fun c => kg_ma_b (0 + c)) = true := by decide +kernel
theorem kg_ma_a1 : (List.range 8).all (fun c => kg_ma_b (8 + c)) = true := by decide +kernel
theorem kg_ma_a2 : (List.range 8).all (fun c => kg_ma_b (16 + c)) = true := by decide +kernel
theorem kg_ma_a3 : (List.range 8).all (fun c => kg_ma_b (24 + c)) = true := by decide +kernel
theorem kg_ma_a4 : (List.range 8).all (fun c => kg_ma_b (32 + c)) = true := by decide +kernel
theorem kg_ma_a5 : (List.range 8).all (fun c => kg_ma_b (40 + c)) = true := by decide +kernel
theorem kg_ma_a6 : (List.range 8).all (fun c => kg_ma_b (48 + c)) = true := by decide +kernel
theorem kg_ma_a7 : (List.range 8).all (fun c => kg_ma_b (56 + c)) = true := by decide +kernel
theorem kg_ma_all (c : Nat) (h0 : 0 ≤ c) (hc : c < 64) : kg_ma_b c = true := by
  by_cases h0 : c < 8
  · exact xk_ran kg_ma_a0 (by omega) (by omega)
  by_cases h1 : c < 16
  · exact xk_ran kg_ma_a1 (by omega) (by omega)
  by_cases h2 : c < 24
  · exact xk_ran kg_ma_a2 (by omega) (by omega)
  by_cases h3 : c < 32
  · exact xk_ran kg_ma_a3 (by omega) (by omega)
  by_cases h4 : c < 40
  · exact xk_ran kg_ma_a4 (by omega) (by omega)
  by_cases h5 : c < 48
  · exact xk_ran kg_ma_a5 (by omega) (by omega)
  by_cases h6 : c < 56
  · exact xk_ran kg_ma_a6 (by omega) (by omega)
  exact xk_ran kg_ma_a7 (by omega) (by omega)
theorem kg_ma_ok {l : Launch} {Φ : Nat → Nat → List Int → Int} (H : kY Φ) {x : Nat} (hx : x < 64) : xk_Cd l Φ kwg (0, 2147483647) cm_128.1 (kg_ma x) := by
  have hb := kg_ma_all x (Nat.zero_le _) hx
  unfold kg_ma_b at hb
  have hc : xk_Cts l Φ kwg (0, 2147483647) cm_ms (kg_ma_c x) := (xk_Cts.one cm_g153 (kg_z H.1.1.1.1.1.1.1.1.1.1.1.1.1.1.1.1.1.1.1.1.1.1.1.1.1.1.1.1.1.1.1.1.1.1.1.1.1.1.1.1.1.1.1.1.1 (by omega)) (xk_Cts.one cm_g153 (kg_z H.1.1.1.1.1.1.1.1.1.1.1.1.1.1.1.1.1.1.1.1.1.1.1.1.1.1.1.1.1.1.1.1.1.1.1.1.1.1.1.1.1.1.1.1.1 (by omega)) (xk_Cts.one cm_g153 (kg_z H.1.1.1.1.1.1.1.1.1.1.1.1.1.1.1.1.1.1.1.1.1.1.1.1.1.1.1.1.1.1.1.1.1.1.1.1.1.1.1.1.1.1.1.1.1 (by omega)) (xk_Cts.one cm_g177 (km_refusedr_ok H.1.1.1.1.1.1.1.1.1.1.1.1.1.1.1.1.1.1.1.1.1.1.1.1.1.1.1.1.1.1.1.1.1.1.1.1.1.1.1.1.1.1.1.1.1) (xk_Cts.one cm_g175 (kg_y_ok H (by omega) (by omega)) (xk_Cts.one cm_g138 (kg_cp_ok H.1.1.1.1.1.1.1.1.1.1.1.1.1.1.1.1.1.1.1.1.1.1.1.1.1.1.1.1.1.1.1.1.1.1.1.1.1.1.1.1.1.1.1.1.1 (by omega)) xk_Cts.nil))))))
  exact xk_okb_ok (i := .return_) hb ce_ok12 rfl cm_ok ce_glob kco_128_ok hc rfl rfl
