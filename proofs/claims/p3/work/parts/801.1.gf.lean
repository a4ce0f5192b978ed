/-! ===== tables call earlier ones ===== -/
theorem gf_H1 : gf_lw 1 kx_fill0_g = true := by decide +kernel
theorem gf_H2 : gf_lw 2 kx_fill64_g = true := by decide +kernel
theorem gf_H3 : gf_lw 3 kx_fill128_g = true := by decide +kernel
theorem gf_H4 : gf_lw 4 kx_fill192_g = true := by decide +kernel
theorem gf_H5 : gf_lw 5 kx_mix_g = true := by decide +kernel
theorem gf_H6 : gf_lw 6 kx_pad54_g = true := by decide +kernel
theorem gf_H7 : gf_lw 7 kx_pad92_g = true := by decide +kernel
theorem gf_H8 : gf_lw 8 kx_smac_g = true := by decide +kernel
