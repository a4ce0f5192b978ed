/-! ===== tables call earlier ones ===== -/
theorem gf_R1 : gf_lw 1 kr_carry0_g = true := by decide +kernel
theorem gf_R2 : gf_lw 2 kr_carry1_g = true := by decide +kernel
theorem gf_R3 : gf_lw 3 kr_carry2_g = true := by decide +kernel
theorem gf_R4 : gf_lw 4 kr_carry3_g = true := by decide +kernel
theorem gf_R5 : gf_lw 5 kr_carry4_g = true := by decide +kernel
theorem gf_R6 : gf_lw 6 kr_carry5_g = true := by decide +kernel
theorem gf_R7 : gf_lw 7 kr_carry6_g = true := by decide +kernel
theorem gf_R8 : gf_lw 8 kr_carry7_g = true := by decide +kernel
