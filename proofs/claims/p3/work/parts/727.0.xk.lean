/-! ===== the reference: mac ===== -/
def kmr_T (f g : xk_V) : List xk_C := [((0, 11), [f, (5, 1, 0), (2, 6, 0), (2, 1, 0), (2, 7, 0), g, (2, 5, 0), (2, 3, 0), (2, 4, 0), (2, 2, 0), (5, 10, 0), (5, 11, 0), (5, 12, 0), (5, 13, 0), (5, 14, 0), (5, 15, 0), (5, 16, 0), (5, 17, 0), (5, 18, 0), (5, 19, 0), (5, 20, 0), (5, 21, 0), (5, 22, 0), (5, 23, 0), (5, 24, 0), (5, 25, 0), (5, 26, 0), (5, 27, 0), (5, 28, 0), (5, 29, 0), (5, 30, 0), (5, 31, 0), (5, 32, 0), (5, 33, 0), (5, 34, 0), (5, 35, 0), (5, 36, 0)]), ((512, 0), xi 3 192), ((1, 0), xi 195 64), ((1, 0), xi 259 8), ((1, 0), xi 267 8), kh_kc, ((6000, 0), xi 275 352), ((1, 0), xi 627 300)]
def kmr_mem (into : Nat) : List xk_V := (List.range 352).map (fun j => if 32 * into ≤ j ∧ j < 32 * into + 32 then (0, (927 + (j - 32 * into), 0)) else if (160 ≤ j ∧ j < 192) ∨ (224 ≤ j ∧ j < 256) then (4, (0, 0)) else (0, (275 + j, 0)))
def kmr_F (into : Nat) : List xk_C := (let f : xk_V := (0, (0, 0)); let g : xk_V := (4, (0, 0)); [((0, 11), [f, (5, 1, 0), (2, 6, 0), (2, 1, 0), (2, 7, 0), g, (2, 5, 0), (2, 3, 0), (2, 4, 0), (2, 2, 0), (5, 10, 0), (5, 11, 0), (5, 12, 0), (5, 13, 0), (5, 14, 0), (5, 15, 0), (5, 16, 0), (5, 17, 0), (5, 18, 0), (5, 19, 0), (5, 20, 0), (5, 21, 0), (5, 22, 0), (5, 23, 0), (5, 24, 0), (5, 25, 0), (5, 26, 0), (5, 27, 0), (5, 28, 0), (5, 29, 0), (5, 30, 0), (5, 31, 0), (5, 32, 0), (5, 33, 0), (5, 34, 0), (5, 35, 0), (5, 36, 0)]), ((512, 0), List.replicate 192 (4, 0, 0)), ((1, 0), List.replicate 64 (4, 0, 0)), ((1, 0), List.replicate 8 (4, 0, 0)), ((1, 0), List.replicate 8 (4, 0, 0)), kh_kc, ((6000, 0), kmr_mem into), ((1, 0), List.replicate 300 (4, 0, 0))])
def kmr_sk (m : Nat) : xk_K := if m = 0 then km_sayk0 else if m = 1 then km_sayk1 else if m = 2 then km_sayk2 else km_sayk3
def kmr_mk (k : Nat) : xk_K := if k = 0 then km_mark0 else if k = 1 then km_mark1 else if k = 2 then km_mark2 else km_mark3
def kmr_cp (i : Nat) : xk_K := if i = 0 then km_copy0 else if i = 1 then km_copy1 else if i = 2 then km_copy2 else km_copy3
def kmr_c (k m into : Nat) : List xk_Q := [(153, (99, 0), kz_4 k), (153, (99, 0), kz_4 m), (153, (99, 0), kz_4 into), (177, (99, 0), km_refused), (136, (99, 0), km_clear), (181, (5, 0), kmr_sk m), (166, (99, 0), kmr_mk k), (138, (99, 0), kmr_cp into)]
theorem kmr_sk_ok {l : Launch} {Φ : Nat → Nat → List Int → Int} (H : kH_37 Φ) {k : Nat} (hk : k < 4) : xk_Cd l Φ kwh (0, 2147483647) cm_181.1 (kmr_sk k) := by
  match k, hk with
  | 0, _ => exact (km_sayk0_ok H.1.1.1.1.1.1.1.1.1.1.1.1.1.1).wd rfl
  | 1, _ => exact (km_sayk1_ok H.1.1.1.1.1.1.1.1.1.1.1.1.1.1).wd rfl
  | 2, _ => exact (km_sayk2_ok H.1.1.1.1.1.1.1.1.1.1.1.1.1.1).wd rfl
  | 3, _ => exact (km_sayk3_ok H.1.1.1.1.1.1.1.1.1.1.1.1.1.1).wd rfl
theorem kmr_mk_ok {l : Launch} {Φ : Nat → Nat → List Int → Int} (H : kH_37 Φ) {k : Nat} (hk : k < 4) : xk_Cd l Φ kwh (0, 2147483647) cm_166.1 (kmr_mk k) := by
  match k, hk with
  | 0, _ => exact (km_mark0_ok H.1.1.1).wd rfl
  | 1, _ => exact (km_mark1_ok H.1.1).wd rfl
  | 2, _ => exact (km_mark2_ok H.1).wd rfl
  | 3, _ => exact (km_mark3_ok H).wd rfl
theorem kmr_cp_ok {l : Launch} {Φ : Nat → Nat → List Int → Int} (H : kH_37 Φ) {k : Nat} (hk : k < 4) : xk_Cd l Φ kwh (0, 2147483647) cm_138.1 (kmr_cp k) := by
  match k, hk with
  | 0, _ => exact (km_copy0_ok H).wd rfl
  | 1, _ => exact (km_copy1_ok H).wd rfl
  | 2, _ => exact (km_copy2_ok H).wd rfl
  | 3, _ => exact (km_copy3_ok H).wd rfl
theorem kmr_c_ok {l : Launch} {Φ : Nat → Nat → List Int → Int} (H : kH_37 Φ) {k m into : Nat} (hk : k < 4) (hm : m < 4) (hi : into < 4) : xk_Cts l Φ kwh (0, 2147483647) cm_ms (kmr_c k m into) := xk_Cts.one cm_g153 (kz_4_ok H.1.1.1.1.1.1.1.1.1.1.1.1.1.1.1.1.1.1.1.1.1.1.1.1.1.1.1.1.1.1.1.1.1.1.1.1.1 k hk) (xk_Cts.one cm_g153 (kz_4_ok H.1.1.1.1.1.1.1.1.1.1.1.1.1.1.1.1.1.1.1.1.1.1.1.1.1.1.1.1.1.1.1.1.1.1.1.1.1 m hm) (xk_Cts.one cm_g153 (kz_4_ok H.1.1.1.1.1.1.1.1.1.1.1.1.1.1.1.1.1.1.1.1.1.1.1.1.1.1.1.1.1.1.1.1.1.1.1.1.1 into hi) (xk_Cts.one cm_g177 ((km_refused_ok H.1.1.1.1.1.1.1.1.1.1.1.1.1.1).wd rfl) (xk_Cts.one cm_g136 ((km_clear_ok H.1.1.1.1.1.1.1.1.1.1.1.1.1.1).wd rfl) (xk_Cts.one cm_g181 (kmr_sk_ok H hm) (xk_Cts.one cm_g166 (kmr_mk_ok H hk) (xk_Cts.one cm_g138 (kmr_cp_ok H hi) xk_Cts.nil)))))))
def kmr_b (x : Nat) : Bool := xk_sg ce_12 cm_ms (kmr_c (x / 16) (x / 4 % 4) (x % 4)) kco_162 cm_162.1 4 65 kwh [70] 41 926 (0, [(0, (2, 0, 0)), (1, (0, (0, ((x / 16 : Nat) : Int)))), (2, (0, (0, ((x / 4 % 4 : Nat) : Int)))), (3, (0, (0, ((x % 4 : Nat) : Int))))], [], kmr_T (0, (1, 0)) (0, (2, 0)), [], 927) [(927, 1034 + x / 16, (xn (275 + 32 * (x / 16)) 32 ++ xn (275 + 32 * (x / 4 % 4)) 32).map (fun g => (g, 0)))] (fun g => if g ≤ 926 then (g, 0) else (15232 + 2 * (g - 927), 0)) 70 ([], [], kmr_F (x % 4))
theorem kmr_a0 : (List.range 8).all (fun c => kmr_b (0 + c)) = true := by decide +kernel
theorem kmr_a1 : (List.range 8).all (fun c => kmr_b (8 + c)) = true := by decide +kernel
theorem kmr_a2 : (List.range 8).all (fun c => kmr_b (16 + c)) = true := by decide +kernel
theorem kmr_a3 : (List.range 8).all (fun c => kmr_b (24 + c)) = true := by decide +kernel
theorem kmr_a4 : (List.range 8).all (fun c => kmr_b (32 + c)) = true := by decide +kernel
theorem kmr_a5 : (List.range 8).all (fun c => kmr_b (40 + c)) = true := by decide +kernel
theorem kmr_a6 : (List.range 8).all (fun c => kmr_b (48 + c)) = true := by decide +kernel
theorem kmr_a7 : (List.range 8).all (fun c => kmr_b (56 + c)) = true := by decide +kernel
theorem kmr_all (c : Nat) (h0 : 0 ≤ c) (hc : c < 64) : kmr_b c = true := by
  by_cases h0 : c < 8
  · exact xk_ran kmr_a0 (by omega) (by omega)
  by_cases h1 : c < 16
  · exact xk_ran kmr_a1 (by omega) (by omega)
  by_cases h2 : c < 24
  · exact xk_ran kmr_a2 (by omega) (by omega)
  by_cases h3 : c < 32
  · exact xk_ran kmr_a3 (by omega) (by omega)
  by_cases h4 : c < 40
  · exact xk_ran kmr_a4 (by omega) (by omega)
  by_cases h5 : c < 48
  · exact xk_ran kmr_a5 (by omega) (by omega)
  by_cases h6 : c < 56
  · exact xk_ran kmr_a6 (by omega) (by omega)
  exact xk_ran kmr_a7 (by omega) (by omega)
