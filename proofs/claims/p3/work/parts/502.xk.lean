/-! ===== exact contracts ===== -/
def kx_mix : xk_K := ([(2, 0, 0)], [((0, 3), [(5, 0, 0), (5, 1, 0), (0, 1, 0), (2, 1, 0), (2, 2, 0), (5, 5, 0), (5, 6, 0), (5, 7, 0)]), ((1, 0), xi 2 64), ((1, 0), xi 66 8)], none, [((0, 3), [(5, 0, 0), (5, 1, 0), (0, 1, 0), (2, 1, 0), (2, 2, 0), (5, 5, 0), (5, 6, 0), (5, 7, 0)]), ((1, 0), xi 2 64), ((1, 0), xi 2506 8)], (5, 73, xn 2 72), (0, 0))
def kx_mix_g : List xk_E := xk_tb (xk_go ce_4 cm_ms [] kco_69 cm_69.1 kwd [309] 6898 kx_mix)
def kH_2 (Φ : Nat → Nat → List Int → Int) : Prop := kH_1 Φ ∧ kP Φ kwd 5 73 (xn 2 72) kx_mix_g
theorem kx_mix_ok {l : Launch} {Φ : Nat → Nat → List Int → Int} (H : kH_2 Φ) : xk_Cd l Φ kwd (0, 2147483647) cm_69.1 kx_mix := xk_done2 (E := ce_4) (ms := cm_ms) (cts := []) (cod := kco_69) (stops := [309]) (f := 6898) (tb := kx_mix_g) (by decide +kernel) H.2 ce_ok4 rfl cm_ok xk_Cts.nil ce_glob kco_69_ok
