/-! ===== times ===== -/
def kr_tim5_13_10_w : Option xa_P := xa_mul (xa_lin (xn 209 16) xc_E16) (xa_lin (xn 161 16) xc_E16)
theorem kr_tim5_13_10_c : xc_ck (xs_flat kr_cs kr_tim5_13_10_g) (xc_b16 209 ++ xc_b16 161) (xc_o16 ((kr_tim5_13_10.2.2.2.1.getD 1 ((0, 0), [])).2) 5) xc_E16 xc_p kr_tim5_13_10_w = true := by decide +kernel
theorem kr_tim5_13_10_t : kr_tim5_13_10_g.all (xs_tok kr_cs) = true := by decide +kernel
theorem kr_tim5_13_10_f : xk_wf kwr 288 (xs_flat kr_cs kr_tim5_13_10_g) = true := by decide +kernel
