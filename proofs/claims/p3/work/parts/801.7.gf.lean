/-! ===== tables call earlier ones ===== -/
theorem gf_C9 : gf_lw 9 kc_scale_g = true := by decide +kernel
theorem gf_C10 : gf_lw 10 kc_reduce_g = true := by decide +kernel
theorem gf_C11 : gf_lw 11 kc_step_g = true := by decide +kernel
theorem gf_C12 : gf_lw 12 kc_read_g = true := by decide +kernel
theorem gf_C13 : gf_lw 13 kc_write_g = true := by decide +kernel
