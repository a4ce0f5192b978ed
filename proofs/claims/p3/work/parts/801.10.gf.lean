/-! ===== tables call earlier ones ===== -/
theorem gf_R17 : gf_lw 17 kr_plus13_2_3_m1_g = true := by decide +kernel
theorem gf_R18 : gf_lw 18 kr_plus13_2_3_1_g = true := by decide +kernel
theorem gf_R19 : gf_lw 19 kr_plus13_5_6_1_g = true := by decide +kernel
theorem gf_R20 : gf_lw 20 kr_plus13_5_6_m1_g = true := by decide +kernel
theorem gf_R21 : gf_lw 21 kr_plus13_7_4_121665_g = true := by decide +kernel
theorem gf_R22 : gf_lw 22 kr_unp9_0_g = true := by decide +kernel
theorem gf_R23 : gf_lw 23 kr_unp2_0_g = true := by decide +kernel
theorem gf_R24 : gf_lw 24 kr_unp9_1_g = true := by decide +kernel
