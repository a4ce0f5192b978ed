/-! ===== the class: mac ===== -/
def kmc_T (f : xk_V) : List xk_C := [((0, 0), [(5, 0, 0), (2, 1, 0), (5, 2, 0), (5, 3, 0), (5, 4, 0), (5, 5, 0), (2, 6, 0), (5, 7, 0), (5, 8, 0), (5, 9, 0), (5, 10, 0)]), ((1, 7), [(2, 2, 0), (2, 3, 0), (2, 4, 0), (2, 5, 0)]), ((1, 0), xi 1 32), ((1, 0), xi 33 32), ((1, 0), xi 65 32), ((1, 0), xi 97 32), ((0, 2), [(2, 7, 0), (5, 6001, 0), (5, 6002, 0), (5, 6003, 0), (5, 6004, 0), (5, 6005, 0), (5, 6006, 0)]), ((0, 3), [(5, 7000, 0), (2, 8, 0), f, (2, 9, 0), (2, 10, 0), (2, 11, 0), (2, 12, 0), (5, 7007, 0)]), ((1, 0), xi 130 256), ((1, 0), xi 386 64), ((1, 0), xi 450 8), ((1, 0), xi 458 32), ((1, 0), xi 490 32)]
def kmc_row (into j : Nat) : xk_C := ((1, 0), xi (if j = into then 522 else 1 + 32 * j) 32)
def kmc_F (into : Nat) : List xk_C := (let f : xk_V := (4, (0, 0)); [((0, 0), [(5, 0, 0), (2, 1, 0), (5, 2, 0), (5, 3, 0), (5, 4, 0), (5, 5, 0), (2, 6, 0), (5, 7, 0), (5, 8, 0), (5, 9, 0), (5, 10, 0)]), ((1, 7), [(2, 2, 0), (2, 3, 0), (2, 4, 0), (2, 5, 0)]), kmc_row into 0, kmc_row into 1, kmc_row into 2, kmc_row into 3, ((0, 2), [(2, 7, 0), (5, 6001, 0), (5, 6002, 0), (5, 6003, 0), (5, 6004, 0), (5, 6005, 0), (5, 6006, 0)]), ((0, 3), [(5, 7000, 0), (2, 8, 0), f, (2, 9, 0), (2, 10, 0), (2, 11, 0), (2, 12, 0), (5, 7007, 0)]), ((1, 0), List.replicate 256 (4, 0, 0)), ((1, 0), List.replicate 64 (4, 0, 0)), ((1, 0), List.replicate 8 (4, 0, 0)), ((1, 0), List.replicate 32 (4, 0, 0)), ((1, 0), List.replicate 32 (4, 0, 0))])
def kmc_c (k m into : Nat) : List xk_Q := [(5, (99, 0), kq_4 k), (5, (99, 0), kq_4 m), (5, (99, 0), kq_4 into), (71, (99, 0), kx_smac), (63, (2, 64), kx_addrow), (67, (2, 96), kx_fmac)]
theorem kmc_c_ok {l : Launch} {Φ : Nat → Nat → List Int → Int} (H : kH_37 Φ) {k m into : Nat} (hk : k < 4) (hm : m < 4) (hi : into < 4) : xk_Cts l Φ kwh (0, 2147483647) cm_ms (kmc_c k m into) := xk_Cts.one cm_g5 (kq_4_ok H.1.1.1.1.1.1.1.1.1.1.1.1.1.1.1.1.1.1.1.1.1.1.1.1.1.1.1.1.1.1.1.1.1.1.1.1.1 k hk) (xk_Cts.one cm_g5 (kq_4_ok H.1.1.1.1.1.1.1.1.1.1.1.1.1.1.1.1.1.1.1.1.1.1.1.1.1.1.1.1.1.1.1.1.1.1.1.1.1 m hm) (xk_Cts.one cm_g5 (kq_4_ok H.1.1.1.1.1.1.1.1.1.1.1.1.1.1.1.1.1.1.1.1.1.1.1.1.1.1.1.1.1.1.1.1.1.1.1.1.1 into hi) (xk_Cts.one cm_g71 ((kx_smac_ok H.1.1.1.1.1.1.1.1.1.1.1.1.1.1.1.1.1.1.1.1.1.1.1.1.1.1.1.1.1.1.1.1).wd rfl) (xk_Cts.one cm_g63 ((kx_addrow_ok H.1.1.1.1.1.1.1.1.1.1.1.1.1.1.1.1.1.1.1.1.1.1.1.1.1.1.1.1.1.1.1.1).wd rfl) (xk_Cts.one cm_g67 ((kx_fmac_ok H.1.1.1.1.1.1.1.1.1.1.1.1.1.1.1.1.1.1.1.1.1.1.1.1.1.1.1).wd rfl) xk_Cts.nil)))))
def kmc_t (k m : Nat) : List xk_E := [(522, 1008, (xn (1 + 32 * k) 32).map (fun g => (g, 0))), (554, 1010, (xn 522 32).map (fun g => (g, 0)) ++ List.replicate 32 (0, 54) ++ (xn (1 + 32 * m) 32).map (fun g => (g, 0)) ++ (xn (1 + 32 * k) 32).map (fun g => (g, 0)))]
def kmc_b (x : Nat) : Bool := xk_sg ce_0 cm_ms (kmc_c (x / 16) (x / 4 % 4) (x % 4)) kco_16 cm_16.1 3 51 kwh [65] 39 521 (0, [(0, (2, 0, 0)), (1, (0, (0, ((x / 16 : Nat) : Int)))), (2, (0, (0, ((x / 4 % 4 : Nat) : Int)))), (3, (0, (0, ((x % 4 : Nat) : Int))))], [], kmc_T (0, (129, 0)), [], 522) (kmc_t (x / 16) (x / 4 % 4)) (fun g => if g ≤ 521 then (g, 0) else (14827 + 2 * (g - 522), 0)) 65 ([], [], kmc_F (x % 4))
theorem kmc_a0 : (List.range 16).all (fun c => kmc_b (0 + c)) = true := by decide +kernel
theorem kmc_a1 : (List.range 16).all (fun c => kmc_b (16 + c)) = true := by decide +kernel
theorem kmc_a2 : (List.range 16).all (fun c => kmc_b (32 + c)) = true := by decide +kernel
theorem kmc_a3 : (List.range 16).all (fun c => kmc_b (48 + c)) = true := by decide +kernel
theorem kmc_all (c : Nat) (h0 : 0 ≤ c) (hc : c < 64) : kmc_b c = true := by
  by_cases h0 : c < 16
  · exact xk_ran kmc_a0 (by omega) (by omega)
  by_cases h1 : c < 32
  · exact xk_ran kmc_a1 (by omega) (by omega)
  by_cases h2 : c < 48
  · exact xk_ran kmc_a2 (by omega) (by omega)
  exact xk_ran kmc_a3 (by omega) (by omega)
def kmc_fn (Φ : Nat → Nat → List Int → Int) (A B : List Int) : List Int := (List.range 32).map (fun i => Φ 10 (14273 + 2 * i) ((List.range 32).map (fun r => Φ 8 r A) ++ List.replicate 32 54 ++ B ++ A))
def kMc (Φ : Nat → Nat → List Int → Int) : Prop := kH_37 Φ ∧ ∀ r inp, Φ 1000 r inp = (kmc_fn Φ (inp.take 32) (inp.drop 32)).getD r 0
def kx_mac (k m into : Nat) : xk_K := ([(2, 0, 0), (0, (0, (k : Int))), (0, (0, (m : Int))), (0, (0, (into : Int)))], kmc_T (0, (129, 0)), none, kmc_F into, (1000, 521, xn (1 + 32 * k) 32 ++ xn (1 + 32 * m) 32), (3, 51))
theorem kx_mac_ok {l : Launch} {Φ : Nat → Nat → List Int → Int} (H : kMc Φ) {k m into : Nat} (hk : k < 4) (hm : m < 4) (hi : into < 4) : xk_Cd l Φ kwh (0, 2147483647) cm_16.1 (kx_mac k m into) := by
  have x1 : (16 * k + 4 * m + into) / 16 = k := by omega
  have x2 : (16 * k + 4 * m + into) / 4 % 4 = m := by omega
  have x3 : (16 * k + 4 * m + into) % 4 = into := by omega
  have hgd : xk_gd kwh (kx_mac k m into) = true ∧ (kx_mac k m into).1.all xk_kn = true ∧ (kx_mac k m into).1.all (xk_lw 521) = true ∧ xk_wo (kx_mac k m into).1 ≤ cm_16.1.2.2.1 := by
    have hall : (List.range 4).all (fun k => (List.range 4).all (fun m => (List.range 4).all (fun into => xk_gd kwh (kx_mac k m into) && ((kx_mac k m into).1.all xk_kn && ((kx_mac k m into).1.all (xk_lw 521) && decide (xk_wo (kx_mac k m into).1 ≤ cm_16.1.2.2.1)))))) = true := by decide +kernel
    have := List.all_eq_true.mp (List.all_eq_true.mp (List.all_eq_true.mp hall k (List.mem_range.mpr hk)) m (List.mem_range.mpr hm)) into (List.mem_range.mpr hi)
    simp only [Bool.and_eq_true, decide_eq_true_eq] at this
    exact this
  refine xk_okw (E := ce_0) (ms := cm_ms) (cod := kco_16) hgd.2.1 hgd.2.2.2 (by show (kmc_T (0, (129, 0))).all (fun c => c.2.all (fun v => decide (v.1 < 2 → v.2.1 ≤ 521))) = true; decide +kernel) hgd.2.2.1 hgd.1 ce_ok0 rfl cm_ok ce_glob kco_16_ok ?_
  intro p e R s m' args below meth c D AC S θ L ρ0 N hy
  have he := kmc_all (16 * k + 4 * m + into) (Nat.zero_le _) (by omega)
  unfold kmc_b at he
  rw [x1, x2, x3] at he
  refine xw_sg (ρ := ρ0) (hy.ct (kmc_c_ok H.1 hk hm hi)) he fun ρ1 h1 t1 => ?_
  have g1 := xk_cv (b := 522) (t := 8) (t1 _ List.mem_cons_self) (List.range 32) (by decide +kernel)
  have g2 := xk_cv (b := 554) (t := 10) (t1 _ (List.mem_cons_of_mem _ List.mem_cons_self)) ((List.range 32).map (fun i => 14273 + 2 * i)) (by decide +kernel)
  have low : ∀ {A : Nat}, A < 4 → ((xn (1 + 32 * A) 32).map (fun g => ((g, 0) : xk_O))).map (xk_ov ρ1) = (xn (1 + 32 * A) 32).map ρ0 := fun {A} hA => by
    unfold xn
    rw [List.map_map, List.map_map, List.map_map]
    refine List.map_congr_left fun j hj => ?_
    have hj := List.mem_range.mp hj
    show (if 1 + 32 * A + j = 0 then (0 : Int) else ρ1 (1 + 32 * A + j)) = ρ0 (1 + 32 * A + j)
    rw [if_neg (by omega), h1 _ (by omega)]
  rw [low hk] at g1
  have ea : ((xn 522 32).map (fun g => ((g, 0) : xk_O)) ++ List.replicate 32 ((0, 54) : xk_O) ++ (xn (1 + 32 * m) 32).map (fun g => ((g, 0) : xk_O)) ++ (xn (1 + 32 * k) 32).map (fun g => ((g, 0) : xk_O))).map (xk_ov ρ1) = (List.range 32).map (fun r => Φ 8 r ((xn (1 + 32 * k) 32).map ρ0)) ++ List.replicate 32 54 ++ (xn (1 + 32 * m) 32).map ρ0 ++ (xn (1 + 32 * k) 32).map ρ0 := by
    rw [List.map_append, List.map_append, List.map_append, low hk, low hm, ← g1]
    rfl
  rw [ea] at g2
  refine xw_fin (ls := []) hy rfl rfl (xk_refl3 (P := fun g => g ≤ 128 ∨ (522 ≤ g ∧ g < 554)) (by
    have hall : (List.range 4).all (fun into => (kmc_F into).all (fun c => c.2.all (xk_lw3 (fun g => g ≤ 128 ∨ (522 ≤ g ∧ g < 554))))) = true := by decide +kernel
    exact List.all_eq_true.mp hall into (List.mem_range.mpr hi)) fun g g0 hg => ?_)
  show _ = if g ≤ 521 then ρ0 g else Φ 1000 (g - 521 - 1) ((xn (1 + 32 * k) 32 ++ xn (1 + 32 * m) 32).map ρ0)
  show xk_ov ρ1 (if g ≤ 521 then ((g, 0) : xk_O) else (14827 + 2 * (g - 522), 0)) = _
  rcases hg with hg | hg
  · rw [if_pos (by omega), if_pos (by omega)]
    show (if g = 0 then (0 : Int) else ρ1 g) = _
    rw [if_neg (by omega), h1 g (by omega)]
  · rw [if_neg (by omega), if_neg (by omega), H.2]
    have e1 : ((xn (1 + 32 * k) 32 ++ xn (1 + 32 * m) 32).map ρ0).take 32 = (xn (1 + 32 * k) 32).map ρ0 := by
      rw [List.map_append]
      exact List.take_left' (by unfold xn; simp)
    have e2 : ((xn (1 + 32 * k) 32 ++ xn (1 + 32 * m) 32).map ρ0).drop 32 = (xn (1 + 32 * m) 32).map ρ0 := by
      rw [List.map_append]
      exact List.drop_left' (by unfold xn; simp)
    rw [e1, e2]
    obtain ⟨r, rfl⟩ : ∃ r, g = 522 + r := ⟨g - 522, by omega⟩
    have hr : r < 32 := by omega
    rw [Nat.add_sub_cancel_left, show 522 + r - 521 - 1 = r by omega]
    unfold kmc_fn
    have := congrArg (fun l : List Int => l.getD r 0) g2
    rw [List.map_map, List.map_map, List.getD_eq_getElem?_getD, List.getElem?_map, List.getElem?_range hr, List.getD_eq_getElem?_getD, List.getElem?_map, List.getElem?_range hr] at this
    rw [List.getD_eq_getElem?_getD, List.getElem?_map, List.getElem?_range hr]
    show (if 14827 + 2 * r = 0 then (0 : Int) else ρ1 (14827 + 2 * r)) = _
    rw [if_neg (by omega), show 14827 + 2 * r = 554 + (14273 + 2 * r) by omega]
    exact this
