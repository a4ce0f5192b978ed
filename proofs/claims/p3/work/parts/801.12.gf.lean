/-! ===== tables call earlier ones ===== -/
theorem gf_R33 : gf_lw 33 kr_tim6_13_12_g = true := by decide +kernel
theorem gf_R34 : gf_lw 34 kr_tim2_13_13_g = true := by decide +kernel
theorem gf_R35 : gf_lw 35 kr_tim13_13_13_g = true := by decide +kernel
theorem gf_R36 : gf_lw 36 kr_tim3_9_13_g = true := by decide +kernel
theorem gf_R37 : gf_lw 37 kr_tim0_7_8_g = true := by decide +kernel
theorem gf_R38 : gf_lw 38 kr_tim1_4_13_g = true := by decide +kernel
theorem gf_R39 : gf_lw 39 kr_tim11_11_11_g = true := by decide +kernel
theorem gf_R40 : gf_lw 40 kr_tim11_11_1_g = true := by decide +kernel
