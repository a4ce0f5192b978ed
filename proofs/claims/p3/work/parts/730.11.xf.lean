/-! ===== times ===== -/
def kr_tim0_0_11_w : Option xa_P := xa_mul (xa_lin (xn 1 16) xc_E16) (xa_lin (xn 177 16) xc_E16)
theorem kr_tim0_0_11_c : xc_ck (xs_flat kr_cs kr_tim0_0_11_g) (xc_b16 1 ++ xc_b16 177) (xc_o16 ((kr_tim0_0_11.2.2.2.1.getD 1 ((0, 0), [])).2) 0) xc_E16 xc_p kr_tim0_0_11_w = true := by decide +kernel
theorem kr_tim0_0_11_t : kr_tim0_0_11_g.all (xs_tok kr_cs) = true := by decide +kernel
theorem kr_tim0_0_11_f : xk_wf kwr 288 (xs_flat kr_cs kr_tim0_0_11_g) = true := by decide +kernel
