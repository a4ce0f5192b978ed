/-! ===== times ===== -/
def kr_tim0_7_8_w : Option xa_P := xa_mul (xa_lin (xn 113 16) xc_E16) (xa_lin (xn 129 16) xc_E16)
theorem kr_tim0_7_8_c : xc_ck (xs_flat kr_cs kr_tim0_7_8_g) (xc_b16 113 ++ xc_b16 129) (xc_o16 ((kr_tim0_7_8.2.2.2.1.getD 1 ((0, 0), [])).2) 0) xc_E16 xc_p kr_tim0_7_8_w = true := by decide +kernel
theorem kr_tim0_7_8_t : kr_tim0_7_8_g.all (xs_tok kr_cs) = true := by decide +kernel
theorem kr_tim0_7_8_f : xk_wf kwr 288 (xs_flat kr_cs kr_tim0_7_8_g) = true := by decide +kernel
