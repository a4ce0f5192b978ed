/-! ===== tables call earlier ones ===== -/
theorem gf_R9 : gf_lw 9 kr_carry8_g = true := by decide +kernel
theorem gf_R10 : gf_lw 10 kr_carry10_g = true := by decide +kernel
theorem gf_R11 : gf_lw 11 kr_carry11_g = true := by decide +kernel
theorem gf_R12 : gf_lw 12 kr_carry12_g = true := by decide +kernel
theorem gf_R13 : gf_lw 13 kr_carry13_g = true := by decide +kernel
theorem gf_R14 : gf_lw 14 kr_plus10_0_1_1_g = true := by decide +kernel
theorem gf_R15 : gf_lw 15 kr_plus12_0_1_m1_g = true := by decide +kernel
theorem gf_R16 : gf_lw 16 kr_plus4_7_8_m1_g = true := by decide +kernel
