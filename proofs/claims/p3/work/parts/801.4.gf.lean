/-! ===== tables call earlier ones ===== -/
theorem gf_H25 : gf_lw 25 km_pad0_92_g = true := by decide +kernel
theorem gf_H26 : gf_lw 26 km_pad1_54_g = true := by decide +kernel
theorem gf_H27 : gf_lw 27 km_pad1_92_g = true := by decide +kernel
theorem gf_H28 : gf_lw 28 km_pad2_54_g = true := by decide +kernel
theorem gf_H29 : gf_lw 29 km_pad2_92_g = true := by decide +kernel
theorem gf_H30 : gf_lw 30 km_pad3_54_g = true := by decide +kernel
theorem gf_H31 : gf_lw 31 km_pad3_92_g = true := by decide +kernel
theorem gf_H32 : gf_lw 32 km_row96_160_g = true := by decide +kernel
