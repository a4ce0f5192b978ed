/-! ===== tables call earlier ones ===== -/
theorem gf_R25 : gf_lw 25 kr_unp2_1_g = true := by decide +kernel
theorem gf_R26 : gf_lw 26 kr_unp9_2_g = true := by decide +kernel
theorem gf_R27 : gf_lw 27 kr_unp2_2_g = true := by decide +kernel
theorem gf_R28 : gf_lw 28 kr_unp9_3_g = true := by decide +kernel
theorem gf_R29 : gf_lw 29 kr_unp2_3_g = true := by decide +kernel
theorem gf_R30 : gf_lw 30 kr_tim7_10_10_g = true := by decide +kernel
theorem gf_R31 : gf_lw 31 kr_tim8_12_12_g = true := by decide +kernel
theorem gf_R32 : gf_lw 32 kr_tim5_13_10_g = true := by decide +kernel
