/-! ===== plus ===== -/
def kr_plus10_0_1_1_w : Option xa_P := some (xa_add (xa_lin (xn 1 16) xc_E16) (xa_scl (1) (xa_lin (xn 17 16) xc_E16)))
theorem kr_plus10_0_1_1_c : xc_ck (xs_flat kr_cs kr_plus10_0_1_1_g) (xc_b16 1 ++ xc_b16 17) (xc_o16 ((kr_plus10_0_1_1.2.2.2.1.getD 1 ((0, 0), [])).2) 10) xc_E16 xc_p kr_plus10_0_1_1_w = true := by decide +kernel
theorem kr_plus10_0_1_1_t : kr_plus10_0_1_1_g.all (xs_tok kr_cs) = true := by decide +kernel
theorem kr_plus10_0_1_1_f : xk_wf kwr 257 (xs_flat kr_cs kr_plus10_0_1_1_g) = true := by decide +kernel
def kr_plus12_0_1_m1_w : Option xa_P := some (xa_add (xa_lin (xn 1 16) xc_E16) (xa_scl (-1) (xa_lin (xn 17 16) xc_E16)))
theorem kr_plus12_0_1_m1_c : xc_ck (xs_flat kr_cs kr_plus12_0_1_m1_g) (xc_b16 1 ++ xc_b16 17) (xc_o16 ((kr_plus12_0_1_m1.2.2.2.1.getD 1 ((0, 0), [])).2) 12) xc_E16 xc_p kr_plus12_0_1_m1_w = true := by decide +kernel
theorem kr_plus12_0_1_m1_t : kr_plus12_0_1_m1_g.all (xs_tok kr_cs) = true := by decide +kernel
theorem kr_plus12_0_1_m1_f : xk_wf kwr 257 (xs_flat kr_cs kr_plus12_0_1_m1_g) = true := by decide +kernel
def kr_plus4_7_8_m1_w : Option xa_P := some (xa_add (xa_lin (xn 113 16) xc_E16) (xa_scl (-1) (xa_lin (xn 129 16) xc_E16)))
theorem kr_plus4_7_8_m1_c : xc_ck (xs_flat kr_cs kr_plus4_7_8_m1_g) (xc_b16 113 ++ xc_b16 129) (xc_o16 ((kr_plus4_7_8_m1.2.2.2.1.getD 1 ((0, 0), [])).2) 4) xc_E16 xc_p kr_plus4_7_8_m1_w = true := by decide +kernel
theorem kr_plus4_7_8_m1_t : kr_plus4_7_8_m1_g.all (xs_tok kr_cs) = true := by decide +kernel
theorem kr_plus4_7_8_m1_f : xk_wf kwr 257 (xs_flat kr_cs kr_plus4_7_8_m1_g) = true := by decide +kernel
def kr_plus13_2_3_m1_w : Option xa_P := some (xa_add (xa_lin (xn 33 16) xc_E16) (xa_scl (-1) (xa_lin (xn 49 16) xc_E16)))
theorem kr_plus13_2_3_m1_c : xc_ck (xs_flat kr_cs kr_plus13_2_3_m1_g) (xc_b16 33 ++ xc_b16 49) (xc_o16 ((kr_plus13_2_3_m1.2.2.2.1.getD 1 ((0, 0), [])).2) 13) xc_E16 xc_p kr_plus13_2_3_m1_w = true := by decide +kernel
theorem kr_plus13_2_3_m1_t : kr_plus13_2_3_m1_g.all (xs_tok kr_cs) = true := by decide +kernel
theorem kr_plus13_2_3_m1_f : xk_wf kwr 257 (xs_flat kr_cs kr_plus13_2_3_m1_g) = true := by decide +kernel
def kr_plus13_2_3_1_w : Option xa_P := some (xa_add (xa_lin (xn 33 16) xc_E16) (xa_scl (1) (xa_lin (xn 49 16) xc_E16)))
theorem kr_plus13_2_3_1_c : xc_ck (xs_flat kr_cs kr_plus13_2_3_1_g) (xc_b16 33 ++ xc_b16 49) (xc_o16 ((kr_plus13_2_3_1.2.2.2.1.getD 1 ((0, 0), [])).2) 13) xc_E16 xc_p kr_plus13_2_3_1_w = true := by decide +kernel
theorem kr_plus13_2_3_1_t : kr_plus13_2_3_1_g.all (xs_tok kr_cs) = true := by decide +kernel
theorem kr_plus13_2_3_1_f : xk_wf kwr 257 (xs_flat kr_cs kr_plus13_2_3_1_g) = true := by decide +kernel
def kr_plus13_5_6_1_w : Option xa_P := some (xa_add (xa_lin (xn 81 16) xc_E16) (xa_scl (1) (xa_lin (xn 97 16) xc_E16)))
theorem kr_plus13_5_6_1_c : xc_ck (xs_flat kr_cs kr_plus13_5_6_1_g) (xc_b16 81 ++ xc_b16 97) (xc_o16 ((kr_plus13_5_6_1.2.2.2.1.getD 1 ((0, 0), [])).2) 13) xc_E16 xc_p kr_plus13_5_6_1_w = true := by decide +kernel
theorem kr_plus13_5_6_1_t : kr_plus13_5_6_1_g.all (xs_tok kr_cs) = true := by decide +kernel
theorem kr_plus13_5_6_1_f : xk_wf kwr 257 (xs_flat kr_cs kr_plus13_5_6_1_g) = true := by decide +kernel
def kr_plus13_5_6_m1_w : Option xa_P := some (xa_add (xa_lin (xn 81 16) xc_E16) (xa_scl (-1) (xa_lin (xn 97 16) xc_E16)))
theorem kr_plus13_5_6_m1_c : xc_ck (xs_flat kr_cs kr_plus13_5_6_m1_g) (xc_b16 81 ++ xc_b16 97) (xc_o16 ((kr_plus13_5_6_m1.2.2.2.1.getD 1 ((0, 0), [])).2) 13) xc_E16 xc_p kr_plus13_5_6_m1_w = true := by decide +kernel
theorem kr_plus13_5_6_m1_t : kr_plus13_5_6_m1_g.all (xs_tok kr_cs) = true := by decide +kernel
theorem kr_plus13_5_6_m1_f : xk_wf kwr 257 (xs_flat kr_cs kr_plus13_5_6_m1_g) = true := by decide +kernel
def kr_plus13_7_4_121665_w : Option xa_P := some (xa_add (xa_lin (xn 113 16) xc_E16) (xa_scl (121665) (xa_lin (xn 65 16) xc_E16)))
theorem kr_plus13_7_4_121665_c : xc_ck (xs_flat kr_cs kr_plus13_7_4_121665_g) (xc_b16 113 ++ xc_b16 65) (xc_o16 ((kr_plus13_7_4_121665.2.2.2.1.getD 1 ((0, 0), [])).2) 13) xc_E16 xc_p kr_plus13_7_4_121665_w = true := by decide +kernel
theorem kr_plus13_7_4_121665_t : kr_plus13_7_4_121665_g.all (xs_tok kr_cs) = true := by decide +kernel
theorem kr_plus13_7_4_121665_f : xk_wf kwr 257 (xs_flat kr_cs kr_plus13_7_4_121665_g) = true := by decide +kernel
