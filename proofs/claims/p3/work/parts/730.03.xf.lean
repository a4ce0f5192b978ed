/-! ===== times ===== -/
def kr_tim6_13_12_w : Option xa_P := xa_mul (xa_lin (xn 209 16) xc_E16) (xa_lin (xn 193 16) xc_E16)
theorem kr_tim6_13_12_c : xc_ck (xs_flat kr_cs kr_tim6_13_12_g) (xc_b16 209 ++ xc_b16 193) (xc_o16 ((kr_tim6_13_12.2.2.2.1.getD 1 ((0, 0), [])).2) 6) xc_E16 xc_p kr_tim6_13_12_w = true := by decide +kernel
theorem kr_tim6_13_12_t : kr_tim6_13_12_g.all (xs_tok kr_cs) = true := by decide +kernel
theorem kr_tim6_13_12_f : xk_wf kwr 288 (xs_flat kr_cs kr_tim6_13_12_g) = true := by decide +kernel
