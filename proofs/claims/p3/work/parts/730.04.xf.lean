/-! ===== times ===== -/
def kr_tim2_13_13_w : Option xa_P := xa_mul (xa_lin (xn 209 16) xc_E16) (xa_lin (xn 209 16) xc_E16)
theorem kr_tim2_13_13_c : xc_ck (xs_flat kr_cs kr_tim2_13_13_g) (xc_b16 209) (xc_o16 ((kr_tim2_13_13.2.2.2.1.getD 1 ((0, 0), [])).2) 2) xc_E16 xc_p kr_tim2_13_13_w = true := by decide +kernel
theorem kr_tim2_13_13_t : kr_tim2_13_13_g.all (xs_tok kr_cs) = true := by decide +kernel
theorem kr_tim2_13_13_f : xk_wf kwr 288 (xs_flat kr_cs kr_tim2_13_13_g) = true := by decide +kernel
