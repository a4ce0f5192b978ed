/-! ===== tables call earlier ones ===== -/
theorem gf_H9 : gf_lw 9 kx_fin96_g = true := by decide +kernel
theorem gf_H10 : gf_lw 10 kx_fmac_g = true := by decide +kernel
theorem gf_H11 : gf_lw 11 km_right7_g = true := by decide +kernel
theorem gf_H12 : gf_lw 12 km_right18_g = true := by decide +kernel
theorem gf_H13 : gf_lw 13 km_right17_g = true := by decide +kernel
theorem gf_H14 : gf_lw 14 km_right19_g = true := by decide +kernel
theorem gf_H15 : gf_lw 15 km_right6_g = true := by decide +kernel
theorem gf_H16 : gf_lw 16 km_right11_g = true := by decide +kernel
