/-! ===== times ===== -/
def kr_tim1_4_13_w : Option xa_P := xa_mul (xa_lin (xn 65 16) xc_E16) (xa_lin (xn 209 16) xc_E16)
theorem kr_tim1_4_13_c : xc_ck (xs_flat kr_cs kr_tim1_4_13_g) (xc_b16 65 ++ xc_b16 209) (xc_o16 ((kr_tim1_4_13.2.2.2.1.getD 1 ((0, 0), [])).2) 1) xc_E16 xc_p kr_tim1_4_13_w = true := by decide +kernel
theorem kr_tim1_4_13_t : kr_tim1_4_13_g.all (xs_tok kr_cs) = true := by decide +kernel
theorem kr_tim1_4_13_f : xk_wf kwr 288 (xs_flat kr_cs kr_tim1_4_13_g) = true := by decide +kernel
