/-! ===== tables call earlier ones ===== -/
theorem gf_H17 : gf_lw 17 km_right25_g = true := by decide +kernel
theorem gf_H18 : gf_lw 18 km_right2_g = true := by decide +kernel
theorem gf_H19 : gf_lw 19 km_right13_g = true := by decide +kernel
theorem gf_H20 : gf_lw 20 km_right22_g = true := by decide +kernel
theorem gf_H21 : gf_lw 21 km_block0_g = true := by decide +kernel
theorem gf_H22 : gf_lw 22 km_block64_g = true := by decide +kernel
theorem gf_H23 : gf_lw 23 km_block128_g = true := by decide +kernel
theorem gf_H24 : gf_lw 24 km_pad0_54_g = true := by decide +kernel
