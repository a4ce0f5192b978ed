/-! ===== the law's wrappers, told exactly ===== -/
def kw_agr (x : Nat) : xk_K := ([(2, 0, 0), (0, (0, ((x / 16 : Nat) : Int))), (0, (0, ((x / 4 % 4 : Nat) : Int))), (0, (0, ((x % 4 : Nat) : Int)))], (kg_da x).2.1, some (0, (0, 0)), (kg_da x).2.2.2.1, (kg_da x).2.2.2.2.1, (4, 141))
def kw_agr_c (x : Nat) : List xk_Q := [(1, (99, 0), kg_da x)]
def kw_agr_b (x : Nat) : Bool := xk_okb ce_11 cm_ms (kw_agr_c x) kco_106 cm_106.1 kwf 14 15 (kw_agr x)
theorem kw_agr_a0 : (List.range 16).all (fun c => kw_agr_b (0 + c)) = true := by decide +kernel
theorem kw_agr_a1 : (List.range 16).all (fun c => kw_agr_b (16 + c)) = true := by decide +kernel
theorem kw_agr_a2 : (List.range 16).all (fun c => kw_agr_b (32 + c)) = true := by decide +kernel
theorem kw_agr_a3 : (List.range 16).all (fun c => kw_agr_b (48 + c)) = true := by decide +kernel
theorem kw_agr_all (c : Nat) (h0 : 0 ≤ c) (hc : c < 64) : kw_agr_b c = true := by
  by_cases h0 : c < 16
  · exact xk_ran kw_agr_a0 (by omega) (by omega)
  by_cases h1 : c < 32
  · exact xk_ran kw_agr_a1 (by omega) (by omega)
  by_cases h2 : c < 48
  · exact xk_ran kw_agr_a2 (by omega) (by omega)
  exact xk_ran kw_agr_a3 (by omega) (by omega)
theorem kw_agr_ok {l : Launch} {Φ : Nat → Nat → List Int → Int} (H : kX Φ) {x : Nat} (hx : x < 64) : xk_Cd l Φ kwf (0, 2147483647) cm_106.1 (kw_agr x) := by
  have hb := kw_agr_all x (Nat.zero_le _) hx
  unfold kw_agr_b at hb
  have hc : xk_Cts l Φ kwf (0, 2147483647) cm_ms (kw_agr_c x) := xk_Cts.one cm_g1 (kg_da_ok H hx) xk_Cts.nil
  exact xk_okb_ok (i := .ireturn) hb ce_ok11 rfl cm_ok ce_glob kco_106_ok hc rfl rfl
