/-! ===== the law's wrappers, told exactly ===== -/
def kw_put (x : Nat) : xk_K := ([(2, 0, 0), (0, (0, ((x / 4 : Nat) : Int))), (0, (0, ((x % 4 : Nat) : Int))), (1, (1, 0))], (ke_dp x).2.1, some (0, (0, 0)), (ke_dp x).2.2.2.1, (1010, 129, [1]), (2, 32))
def kw_put_c (x : Nat) : List xk_Q := [(23, (99, 0), ke_dp x)]
def kw_put_b (x : Nat) : Bool := xk_okb ce_11 cm_ms (kw_put_c x) kco_120 cm_120.1 kwh 14 15 (kw_put x)
theorem kw_put_a0 : (List.range 16).all (fun c => kw_put_b (0 + c)) = true := by decide +kernel
theorem kw_put_all (c : Nat) (h0 : 0 ≤ c) (hc : c < 16) : kw_put_b c = true := by
  exact xk_ran kw_put_a0 (by omega) (by omega)
theorem kw_put_ok {l : Launch} {Φ : Nat → Nat → List Int → Int} (H : kE Φ) {x : Nat} (hx : x < 16) : xk_Cd l Φ kwh (0, 2147483647) cm_120.1 (kw_put x) := by
  have hb := kw_put_all x (Nat.zero_le _) hx
  unfold kw_put_b at hb
  have hc : xk_Cts l Φ kwh (0, 2147483647) cm_ms (kw_put_c x) := xk_Cts.one cm_g23 (ke_dp_ok H hx) xk_Cts.nil
  exact xk_okb_ok (i := .ireturn) hb ce_ok11 rfl cm_ok ce_glob kco_120_ok hc rfl rfl
def kw_get (x : Nat) : xk_K := ([(2, 0, 0), (0, (0, ((x / 4 : Nat) : Int))), (0, (0, ((x % 4 : Nat) : Int))), (2, 6, 0)], (ke_dg x).2.1 ++ [((1, 1), [(1, (129, 0))])], some (0, (0, 0)), (ke_dg x).2.2.2.1 ++ [((1, 1), [(1, (144, 0))])], (1011 + x % 4, 129, xn (1 + 32 * (x / 4) + 8 * (x % 4)) 8), (2, 32))
def kw_get_c (x : Nat) : List xk_Q := [(12, (99, 0), ke_dg x)]
def kw_get_b (x : Nat) : Bool := xk_okb ce_11 cm_ms (kw_get_c x) kco_113 cm_113.1 kwh 16 17 (kw_get x)
theorem kw_get_a0 : (List.range 16).all (fun c => kw_get_b (0 + c)) = true := by decide +kernel
theorem kw_get_all (c : Nat) (h0 : 0 ≤ c) (hc : c < 16) : kw_get_b c = true := by
  exact xk_ran kw_get_a0 (by omega) (by omega)
theorem kw_get_ok {l : Launch} {Φ : Nat → Nat → List Int → Int} (H : kE Φ) {x : Nat} (hx : x < 16) : xk_Cd l Φ kwh (0, 2147483647) cm_113.1 (kw_get x) := by
  have hb := kw_get_all x (Nat.zero_le _) hx
  unfold kw_get_b at hb
  have hc : xk_Cts l Φ kwh (0, 2147483647) cm_ms (kw_get_c x) := xk_Cts.one cm_g12 (ke_dg_ok H hx) xk_Cts.nil
  exact xk_okb_ok (i := .ireturn) hb ce_ok11 rfl cm_ok ce_glob kco_113_ok hc rfl rfl
