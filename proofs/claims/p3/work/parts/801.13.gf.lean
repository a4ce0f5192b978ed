/-! ===== tables call earlier ones ===== -/
theorem gf_R41 : gf_lw 41 kr_tim0_0_11_g = true := by decide +kernel
