/-! ===== tables call earlier ones ===== -/
theorem gf_H33 : gf_lw 33 km_row96_224_g = true := by decide +kernel
theorem gf_H34 : gf_lw 34 km_mark0_g = true := by decide +kernel
theorem gf_H35 : gf_lw 35 km_mark1_g = true := by decide +kernel
theorem gf_H36 : gf_lw 36 km_mark2_g = true := by decide +kernel
theorem gf_H37 : gf_lw 37 km_mark3_g = true := by decide +kernel
