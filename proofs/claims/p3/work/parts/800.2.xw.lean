/-! ===== the law's wrappers, told exactly ===== -/
def kw_mac (x : Nat) : xk_K := ([(2, 0, 0), (0, (0, ((x / 16 : Nat) : Int))), (0, (0, ((x / 4 % 4 : Nat) : Int))), (0, (0, ((x % 4 : Nat) : Int)))], kmc_T (0, (129, 0)), some (0, (0, 0)), kmc_F (x % 4), (1000, 521, xn (1 + 32 * (x / 16)) 32 ++ xn (1 + 32 * (x / 4 % 4)) 32), (4, 66))
def kw_mac_c (x : Nat) : List xk_Q := [(16, (99, 0), kx_mac (x / 16) (x / 4 % 4) (x % 4))]
def kw_mac_b (x : Nat) : Bool := xk_okb ce_11 cm_ms (kw_mac_c x) kco_116 cm_116.1 kwh 14 15 (kw_mac x)
theorem kw_mac_a0 : (List.range 16).all (fun c => kw_mac_b (0 + c)) = true := by decide +kernel
theorem kw_mac_a1 : (List.range 16).all (fun c => kw_mac_b (16 + c)) = true := by decide +kernel
theorem kw_mac_a2 : (List.range 16).all (fun c => kw_mac_b (32 + c)) = true := by decide +kernel
theorem kw_mac_a3 : (List.range 16).all (fun c => kw_mac_b (48 + c)) = true := by decide +kernel
theorem kw_mac_all (c : Nat) (h0 : 0 ≤ c) (hc : c < 64) : kw_mac_b c = true := by
  by_cases h0 : c < 16
  · exact xk_ran kw_mac_a0 (by omega) (by omega)
  by_cases h1 : c < 32
  · exact xk_ran kw_mac_a1 (by omega) (by omega)
  by_cases h2 : c < 48
  · exact xk_ran kw_mac_a2 (by omega) (by omega)
  exact xk_ran kw_mac_a3 (by omega) (by omega)
theorem kw_mac_ok {l : Launch} {Φ : Nat → Nat → List Int → Int} (H : kMc Φ) {x : Nat} (hx : x < 64) : xk_Cd l Φ kwh (0, 2147483647) cm_116.1 (kw_mac x) := by
  have hb := kw_mac_all x (Nat.zero_le _) hx
  unfold kw_mac_b at hb
  have hc : xk_Cts l Φ kwh (0, 2147483647) cm_ms (kw_mac_c x) := xk_Cts.one cm_g16 (kx_mac_ok H (by omega) (by omega) (by omega)) xk_Cts.nil
  exact xk_okb_ok (i := .ireturn) hb ce_ok11 rfl cm_ok ce_glob kco_116_ok hc rfl rfl
