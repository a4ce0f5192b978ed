/-! ===== tables call earlier ones ===== -/
theorem gf_C1 : gf_lw 1 kc_mulD_g = true := by decide +kernel
theorem gf_C2 : gf_lw 2 kc_mulXX_g = true := by decide +kernel
theorem gf_C3 : gf_lw 3 kc_mulIX_g = true := by decide +kernel
theorem gf_C4 : gf_lw 4 kc_mulIY_g = true := by decide +kernel
theorem gf_C5 : gf_lw 5 kc_mulA_g = true := by decide +kernel
theorem gf_C6 : gf_lw 6 kc_addD_g = true := by decide +kernel
theorem gf_C7 : gf_lw 7 kc_addIY_g = true := by decide +kernel
theorem gf_C8 : gf_lw 8 kc_subD_g = true := by decide +kernel
