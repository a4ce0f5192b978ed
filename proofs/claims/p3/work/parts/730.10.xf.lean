/-! ===== times ===== -/
def kr_tim11_11_1_w : Option xa_P := xa_mul (xa_lin (xn 177 16) xc_E16) (xa_lin (xn 17 16) xc_E16)
theorem kr_tim11_11_1_c : xc_ck (xs_flat kr_cs kr_tim11_11_1_g) (xc_b16 177 ++ xc_b16 17) (xc_o16 ((kr_tim11_11_1.2.2.2.1.getD 1 ((0, 0), [])).2) 11) xc_E16 xc_p kr_tim11_11_1_w = true := by decide +kernel
theorem kr_tim11_11_1_t : kr_tim11_11_1_g.all (xs_tok kr_cs) = true := by decide +kernel
theorem kr_tim11_11_1_f : xk_wf kwr 288 (xs_flat kr_cs kr_tim11_11_1_g) = true := by decide +kernel
