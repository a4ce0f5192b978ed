/-! ===== the law ===== -/
theorem ck_meth_of {E : ck_E} {tab : List ck_D} {nS : Nat} {ms : List ck_MM} {cts : List (Nat × ck_Ct)} {nt : List (Nat × Nat × Nat)} {cod : List (List (Nat × Instr × Nat))} {M : ck_M} {K : ck_Ct} {lw : Bool} {ops : List (Nat × List ck_O)} {ann : List (Nat × ck_An)} {f : Nat}
    (h1 : (ck_resg K && K.1.all ck_kn && decide (ck_words K.1 ≤ M.2.2.1) && ck_ngA (ck_largs 0 K.1, [], ck_etag K.2.1) && ck_ex E tab nS ms cts nt cod M K lw ops ann none f (0, (ck_tgM (ck_largs 0 K.1), [], ck_etag K.2.1), 0, 0)) = true)
    (h2 : ∀ a ∈ ann, (ck_ngA a.2.1 && ck_ex E tab nS ms cts nt cod M K lw ops ann (some (a.2.2.1, a.2.1.1)) f (a.1, (ck_tgM a.2.1.1, a.2.1.2.1, a.2.1.2.2), a.2.2.2.1, a.2.2.2.2)) = true) : ck_meth E tab nS ms cts nt cod M K lw ops ann f = true := by
  unfold ck_meth
  rw [h1, Bool.true_and]
  exact List.all_eq_true.mpr h2
theorem kv_sf : kv_tab.all ck_sfD = true := by decide +kernel
theorem kt_20_s : ck_sfK kt_20 = true := by decide +kernel
theorem kt_22_s : ck_sfK kt_22 = true := by decide +kernel
theorem kt_320_s : ck_sfK kt_320 = true := by decide +kernel
theorem kt_321_s : ck_sfK kt_321 = true := by decide +kernel
theorem kt_89_s : ck_sfK kt_89 = true := by decide +kernel
theorem kt_323_s : ck_sfK kt_323 = true := by decide +kernel
theorem kt_324_s : ck_sfK kt_324 = true := by decide +kernel
theorem kt_327_s : ck_sfK kt_327 = true := by decide +kernel
theorem kt_328_s : ck_sfK kt_328 = true := by decide +kernel
theorem kt_330_s : ck_sfK kt_330 = true := by decide +kernel
theorem kt_331_s : ck_sfK kt_331 = true := by decide +kernel
theorem kt_333_s : ck_sfK kt_333 = true := by decide +kernel
theorem kt_334_s : ck_sfK kt_334 = true := by decide +kernel
theorem kt_303_s : ck_sfK kt_303 = true := by decide +kernel
theorem kt_304_s : ck_sfK kt_304 = true := by decide +kernel
theorem kt_35_s : ck_sfK kt_35 = true := by decide +kernel
theorem kt_306_s : ck_sfK kt_306 = true := by decide +kernel
theorem kt_307_s : ck_sfK kt_307 = true := by decide +kernel
theorem kt_310_s : ck_sfK kt_310 = true := by decide +kernel
theorem kt_312_s : ck_sfK kt_312 = true := by decide +kernel
theorem kt_314_s : ck_sfK kt_314 = true := by decide +kernel
theorem kt_315_s : ck_sfK kt_315 = true := by decide +kernel
theorem kt_317_s : ck_sfK kt_317 = true := by decide +kernel
theorem kt_318_s : ck_sfK kt_318 = true := by decide +kernel
theorem kt_282_s : ck_sfK kt_282 = true := by decide +kernel
theorem kt_283_s : ck_sfK kt_283 = true := by decide +kernel
theorem kt_285_s : ck_sfK kt_285 = true := by decide +kernel
theorem kt_286_s : ck_sfK kt_286 = true := by decide +kernel
theorem kt_288_s : ck_sfK kt_288 = true := by decide +kernel
theorem kt_289_s : ck_sfK kt_289 = true := by decide +kernel
theorem kt_291_s : ck_sfK kt_291 = true := by decide +kernel
theorem kt_292_s : ck_sfK kt_292 = true := by decide +kernel
theorem kt_294_s : ck_sfK kt_294 = true := by decide +kernel
theorem kt_295_s : ck_sfK kt_295 = true := by decide +kernel
theorem kt_297_s : ck_sfK kt_297 = true := by decide +kernel
theorem kt_298_s : ck_sfK kt_298 = true := by decide +kernel
theorem kt_300_s : ck_sfK kt_300 = true := by decide +kernel
theorem kt_301_s : ck_sfK kt_301 = true := by decide +kernel
theorem kt_261_s : ck_sfK kt_261 = true := by decide +kernel
theorem kt_262_s : ck_sfK kt_262 = true := by decide +kernel
theorem kt_264_s : ck_sfK kt_264 = true := by decide +kernel
theorem kt_265_s : ck_sfK kt_265 = true := by decide +kernel
theorem kt_267_s : ck_sfK kt_267 = true := by decide +kernel
theorem kt_268_s : ck_sfK kt_268 = true := by decide +kernel
theorem kt_270_s : ck_sfK kt_270 = true := by decide +kernel
theorem kt_271_s : ck_sfK kt_271 = true := by decide +kernel
theorem kt_273_s : ck_sfK kt_273 = true := by decide +kernel
theorem kt_274_s : ck_sfK kt_274 = true := by decide +kernel
theorem kt_276_s : ck_sfK kt_276 = true := by decide +kernel
theorem kt_277_s : ck_sfK kt_277 = true := by decide +kernel
theorem kt_279_s : ck_sfK kt_279 = true := by decide +kernel
theorem kt_280_s : ck_sfK kt_280 = true := by decide +kernel
theorem kt_241_s : ck_sfK kt_241 = true := by decide +kernel
theorem kt_243_s : ck_sfK kt_243 = true := by decide +kernel
theorem kt_246_s : ck_sfK kt_246 = true := by decide +kernel
theorem kt_248_s : ck_sfK kt_248 = true := by decide +kernel
theorem kt_250_s : ck_sfK kt_250 = true := by decide +kernel
theorem kt_251_s : ck_sfK kt_251 = true := by decide +kernel
theorem kt_253_s : ck_sfK kt_253 = true := by decide +kernel
theorem kt_254_s : ck_sfK kt_254 = true := by decide +kernel
theorem kt_257_s : ck_sfK kt_257 = true := by decide +kernel
theorem kt_259_s : ck_sfK kt_259 = true := by decide +kernel
theorem kt_213_s : ck_sfK kt_213 = true := by decide +kernel
theorem kt_215_s : ck_sfK kt_215 = true := by decide +kernel
theorem kt_216_s : ck_sfK kt_216 = true := by decide +kernel
theorem kt_220_s : ck_sfK kt_220 = true := by decide +kernel
theorem kt_222_s : ck_sfK kt_222 = true := by decide +kernel
theorem kt_223_s : ck_sfK kt_223 = true := by decide +kernel
theorem kt_225_s : ck_sfK kt_225 = true := by decide +kernel
theorem kt_226_s : ck_sfK kt_226 = true := by decide +kernel
theorem kt_227_s : ck_sfK kt_227 = true := by decide +kernel
theorem kt_229_s : ck_sfK kt_229 = true := by decide +kernel
theorem kt_230_s : ck_sfK kt_230 = true := by decide +kernel
theorem kt_231_s : ck_sfK kt_231 = true := by decide +kernel
theorem kt_233_s : ck_sfK kt_233 = true := by decide +kernel
theorem kt_234_s : ck_sfK kt_234 = true := by decide +kernel
theorem kt_235_s : ck_sfK kt_235 = true := by decide +kernel
theorem kt_237_s : ck_sfK kt_237 = true := by decide +kernel
theorem kt_238_s : ck_sfK kt_238 = true := by decide +kernel
theorem kt_193_s : ck_sfK kt_193 = true := by decide +kernel
theorem kt_194_s : ck_sfK kt_194 = true := by decide +kernel
theorem kt_197_s : ck_sfK kt_197 = true := by decide +kernel
theorem kt_199_s : ck_sfK kt_199 = true := by decide +kernel
theorem kt_201_s : ck_sfK kt_201 = true := by decide +kernel
theorem kt_202_s : ck_sfK kt_202 = true := by decide +kernel
theorem kt_204_s : ck_sfK kt_204 = true := by decide +kernel
theorem kt_205_s : ck_sfK kt_205 = true := by decide +kernel
theorem kt_207_s : ck_sfK kt_207 = true := by decide +kernel
theorem kt_208_s : ck_sfK kt_208 = true := by decide +kernel
theorem kt_210_s : ck_sfK kt_210 = true := by decide +kernel
theorem kt_211_s : ck_sfK kt_211 = true := by decide +kernel
theorem kt_86_s : ck_sfK kt_86 = true := by decide +kernel
theorem kt_88_s : ck_sfK kt_88 = true := by decide +kernel
theorem kt_91_s : ck_sfK kt_91 = true := by decide +kernel
theorem kt_92_s : ck_sfK kt_92 = true := by decide +kernel
theorem kt_94_s : ck_sfK kt_94 = true := by decide +kernel
theorem kt_96_s : ck_sfK kt_96 = true := by decide +kernel
theorem kt_130_s : ck_sfK kt_130 = true := by decide +kernel
theorem kt_161_s : ck_sfK kt_161 = true := by decide +kernel
theorem kt_163_s : ck_sfK kt_163 = true := by decide +kernel
theorem kt_164_s : ck_sfK kt_164 = true := by decide +kernel
theorem kt_166_s : ck_sfK kt_166 = true := by decide +kernel
theorem kt_167_s : ck_sfK kt_167 = true := by decide +kernel
theorem kt_169_s : ck_sfK kt_169 = true := by decide +kernel
theorem kt_170_s : ck_sfK kt_170 = true := by decide +kernel
theorem kt_172_s : ck_sfK kt_172 = true := by decide +kernel
theorem kt_173_s : ck_sfK kt_173 = true := by decide +kernel
theorem kt_175_s : ck_sfK kt_175 = true := by decide +kernel
theorem kt_176_s : ck_sfK kt_176 = true := by decide +kernel
theorem kt_178_s : ck_sfK kt_178 = true := by decide +kernel
theorem kt_179_s : ck_sfK kt_179 = true := by decide +kernel
theorem kt_181_s : ck_sfK kt_181 = true := by decide +kernel
theorem kt_182_s : ck_sfK kt_182 = true := by decide +kernel
theorem kt_184_s : ck_sfK kt_184 = true := by decide +kernel
theorem kt_185_s : ck_sfK kt_185 = true := by decide +kernel
theorem kt_187_s : ck_sfK kt_187 = true := by decide +kernel
theorem kt_188_s : ck_sfK kt_188 = true := by decide +kernel
theorem kt_190_s : ck_sfK kt_190 = true := by decide +kernel
theorem kt_191_s : ck_sfK kt_191 = true := by decide +kernel
theorem kt_83_s : ck_sfK kt_83 = true := by decide +kernel
theorem kt_84_s : ck_sfK kt_84 = true := by decide +kernel
theorem kt_80_s : ck_sfK kt_80 = true := by decide +kernel
theorem kt_81_s : ck_sfK kt_81 = true := by decide +kernel
theorem kt_66_s : ck_sfK kt_66 = true := by decide +kernel
theorem kt_68_s : ck_sfK kt_68 = true := by decide +kernel
theorem kt_71_s : ck_sfK kt_71 = true := by decide +kernel
theorem kt_73_s : ck_sfK kt_73 = true := by decide +kernel
theorem kt_76_s : ck_sfK kt_76 = true := by decide +kernel
theorem kt_78_s : ck_sfK kt_78 = true := by decide +kernel
theorem kt_62_s : ck_sfK kt_62 = true := by decide +kernel
theorem kt_63_s : ck_sfK kt_63 = true := by decide +kernel
theorem kt_59_s : ck_sfK kt_59 = true := by decide +kernel
theorem kt_60_s : ck_sfK kt_60 = true := by decide +kernel
theorem kt_56_s : ck_sfK kt_56 = true := by decide +kernel
theorem kt_57_s : ck_sfK kt_57 = true := by decide +kernel
theorem kt_51_s : ck_sfK kt_51 = true := by decide +kernel
theorem kt_52_s : ck_sfK kt_52 = true := by decide +kernel
theorem kt_53_s : ck_sfK kt_53 = true := by decide +kernel
theorem kt_55_s : ck_sfK kt_55 = true := by decide +kernel
theorem kt_48_s : ck_sfK kt_48 = true := by decide +kernel
theorem kt_49_s : ck_sfK kt_49 = true := by decide +kernel
theorem kt_46_s : ck_sfK kt_46 = true := by decide +kernel
theorem kt_47_s : ck_sfK kt_47 = true := by decide +kernel
theorem kt_43_s : ck_sfK kt_43 = true := by decide +kernel
theorem kt_44_s : ck_sfK kt_44 = true := by decide +kernel
theorem kt_40_s : ck_sfK kt_40 = true := by decide +kernel
theorem kt_41_s : ck_sfK kt_41 = true := by decide +kernel
theorem kt_37_s : ck_sfK kt_37 = true := by decide +kernel
theorem kt_38_s : ck_sfK kt_38 = true := by decide +kernel
theorem kt_31_s : ck_sfK kt_31 = true := by decide +kernel
theorem kt_34_s : ck_sfK kt_34 = true := by decide +kernel
def kcl_0 : ck_Ct := ([(kv_r 1 0), (kv_i 0 0)], [((5, 2), [])], [((5, 2), [])], .inl (some (kv_i 0 0)), (0, 0, 0, 0))
theorem kcl_0_ok {l : Launch} : ck_Ok l kv_tab 0 cm_0.1 kcl_0 := ck_done (E := ce_0) (ms := cm_ms) (cts := []) (nt := []) (cod := kco_0) (ops := []) (ann := []) (f := 9) (by decide +kernel) ce_ok0 rfl cm_ok (fun _ h => by cases h) ce_glob kco_0_ok
def kcl_1 : ck_Ct := ([(kv_r 1 0), (kv_i 0 0)], [((5, 2), [kv_F])], [((5, 2), [(kv_g (-2147483648) 2147483647 100 0)])], .inl (some (kv_g (-2147483648) 2147483647 100 0)), (0, 0, 0, 0))
theorem kcl_1_ok {l : Launch} : ck_Ok l kv_tab 1 cm_0.1 kcl_1 := ck_done (E := ce_0) (ms := cm_ms) (cts := []) (nt := []) (cod := kco_0) (ops := []) (ann := []) (f := 12) (by decide +kernel) ce_ok0 rfl cm_ok (fun _ h => by cases h) ce_glob kco_0_ok
def kcl_2 : ck_Ct := ([(kv_r 1 0), (kv_i 0 0)], [((5, 2), [kv_F, kv_F])], [((5, 2), [(kv_g (-2147483648) 2147483647 100 0), (kv_g (-2147483648) 2147483647 101 0)])], .inl (some (kv_g (-2147483648) 2147483647 100 0)), (0, 0, 0, 0))
theorem kcl_2_ok {l : Launch} : ck_Ok l kv_tab 2 cm_0.1 kcl_2 := ck_done (E := ce_0) (ms := cm_ms) (cts := []) (nt := []) (cod := kco_0) (ops := []) (ann := []) (f := 12) (by decide +kernel) ce_ok0 rfl cm_ok (fun _ h => by cases h) ce_glob kco_0_ok
def kcl_3 : ck_Ct := ([(kv_r 1 0), (kv_i 0 0)], [((5, 2), [kv_F, kv_F, kv_F])], [((5, 2), [(kv_g (-2147483648) 2147483647 100 0), (kv_g (-2147483648) 2147483647 101 0), (kv_g (-2147483648) 2147483647 102 0)])], .inl (some (kv_g (-2147483648) 2147483647 100 0)), (0, 0, 0, 0))
theorem kcl_3_ok {l : Launch} : ck_Ok l kv_tab 3 cm_0.1 kcl_3 := ck_done (E := ce_0) (ms := cm_ms) (cts := []) (nt := []) (cod := kco_0) (ops := []) (ann := []) (f := 12) (by decide +kernel) ce_ok0 rfl cm_ok (fun _ h => by cases h) ce_glob kco_0_ok
def kc_78 : ck_C := ((5, 2), [kv_F, kv_F, kv_F, kv_F])
def kc_79 : ck_C := ((5, 2), [(kv_g (-2147483648) 2147483647 100 0), (kv_g (-2147483648) 2147483647 101 0), (kv_g (-2147483648) 2147483647 102 0), (kv_g (-2147483648) 2147483647 103 0)])
def kcl_4 : ck_Ct := ([(kv_r 1 0), (kv_i 0 0)], [kc_78], [kc_79], .inl (some (kv_g (-2147483648) 2147483647 100 0)), (0, 0, 0, 0))
theorem kcl_4_ok {l : Launch} : ck_Ok l kv_tab 4 cm_0.1 kcl_4 := ck_done (E := ce_0) (ms := cm_ms) (cts := []) (nt := []) (cod := kco_0) (ops := []) (ann := []) (f := 12) (by decide +kernel) ce_ok0 rfl cm_ok (fun _ h => by cases h) ce_glob kco_0_ok
def kc_80 : ck_C := ((5, 2), [kv_F, kv_F, kv_F, kv_F, kv_F])
def kc_81 : ck_C := ((5, 2), [(kv_g (-2147483648) 2147483647 100 0), (kv_g (-2147483648) 2147483647 101 0), (kv_g (-2147483648) 2147483647 102 0), (kv_g (-2147483648) 2147483647 103 0), (kv_g (-2147483648) 2147483647 104 0)])
def kcl_5 : ck_Ct := ([(kv_r 1 0), (kv_i 0 0)], [kc_80], [kc_81], .inl (some (kv_g (-2147483648) 2147483647 100 0)), (0, 0, 0, 0))
theorem kcl_5_ok {l : Launch} : ck_Ok l kv_tab 5 cm_0.1 kcl_5 := ck_done (E := ce_0) (ms := cm_ms) (cts := []) (nt := []) (cod := kco_0) (ops := []) (ann := []) (f := 12) (by decide +kernel) ce_ok0 rfl cm_ok (fun _ h => by cases h) ce_glob kco_0_ok
def kc_82 : ck_C := ((5, 2), [kv_F, kv_F, kv_F, kv_F, kv_F, kv_F])
def kc_83 : ck_C := ((5, 2), [(kv_g (-2147483648) 2147483647 100 0), (kv_g (-2147483648) 2147483647 101 0), (kv_g (-2147483648) 2147483647 102 0), (kv_g (-2147483648) 2147483647 103 0), (kv_g (-2147483648) 2147483647 104 0), (kv_g (-2147483648) 2147483647 105 0)])
def kcl_6 : ck_Ct := ([(kv_r 1 0), (kv_i 0 0)], [kc_82], [kc_83], .inl (some (kv_g (-2147483648) 2147483647 100 0)), (0, 0, 0, 0))
theorem kcl_6_ok {l : Launch} : ck_Ok l kv_tab 6 cm_0.1 kcl_6 := ck_done (E := ce_0) (ms := cm_ms) (cts := []) (nt := []) (cod := kco_0) (ops := []) (ann := []) (f := 12) (by decide +kernel) ce_ok0 rfl cm_ok (fun _ h => by cases h) ce_glob kco_0_ok
def klw_M : ck_M := (x, code, 8, ret, [])
def kc_84 : ck_C := ((1, 4), [(kv_r 1 8), (kv_r 1 9), (kv_r 1 10), (kv_r 1 11)])
def kc_85 : ck_C := ((0, 11), [(kv_i 0 0), kv_F, (kv_r 2 30), (kv_r 2 32), (kv_r 2 33), (kv_i 0 0), (kv_r 2 34), (kv_r 2 4), (kv_r 2 4), (kv_r 2 3), (kv_r 2 12), (kv_r 2 13), (kv_i 8 8), (kv_r 2 39), (kv_r 1 13), (kv_r 2 1), (kv_r 2 42), (kv_r 2 41), (kv_i 0 0), (kv_r 2 35), (kv_r 2 35), (kv_r 2 40), (kv_r 2 40), (kv_r 2 40), (kv_r 2 40), (kv_r 2 35), (kv_r 2 35), (kv_r 2 35), (kv_r 2 35), (kv_r 2 36), (kv_r 2 35), (kv_r 2 35), (kv_r 2 35), (kv_r 2 14), (kv_i 0 0), (kv_r 2 37), (kv_r 2 38)])
def klw_0 : ck_Ct := ([(kv_r 1 0)], [((5, 2), [])], [((5, 2), []), kc_27, kc_84, ((2, 0), []), ((2, 0), []), ((2, 0), []), ((2, 0), []), ((2, 0), []), kc_16, kc_16, kc_16, kc_16, kc_85, kc_22, ((1, 1), [(kv_j 0 0)])], .inl (some (kv_i 1 1)), (6, 94, 557, 26186))
def klw_c0 : List (Nat × ck_Ct) := [(0, kcl_0), (20, kt_20), (22, kt_22)]
def klw_o0 : List (Nat × List ck_O) := []
def klw_n0 : List (Nat × ck_An) := []
theorem klw_e0 : (ck_resg klw_0 && klw_0.1.all ck_kn && decide (ck_words klw_0.1 ≤ klw_M.2.2.1) && ck_ngA (ck_largs 0 klw_0.1, [], ck_etag klw_0.2.1) && ck_ex ce_0 kv_tab 0 cm_ms klw_c0 [] kco_law klw_M klw_0 true klw_o0 klw_n0 none 30 (0, (ck_tgM (ck_largs 0 klw_0.1), [], ck_etag klw_0.2.1), 0, 0)) = true := by decide +kernel
theorem klw_m0 : ck_meth ce_0 kv_tab 0 cm_ms klw_c0 [] kco_law klw_M klw_0 true klw_o0 klw_n0 30 = true := ck_meth_of klw_e0 (fun _ h => by cases h)
theorem klw_h0_0 {l : Launch} : ∀ q ∈ ([(0, kcl_0), (20, kt_20), (22, kt_22)] : List (Nat × ck_Ct)), ∃ M' : ck_MM, cm_ms[q.1]? = some M' ∧ ck_Ok l kv_tab 0 M'.1 q.2 := (List.forall_mem_cons.mpr ⟨⟨_, cm_g0, kcl_0_ok⟩, (List.forall_mem_cons.mpr ⟨⟨_, cm_g20, kt_20_ok.nS kv_sf kt_20_s 0⟩, (List.forall_mem_cons.mpr ⟨⟨_, cm_g22, kt_22_ok.nS kv_sf kt_22_s 0⟩, (fun _ h => by cases h)⟩)⟩)⟩)
theorem klw_h0 {l : Launch} : ∀ q ∈ klw_c0, ∃ M' : ck_MM, cm_ms[q.1]? = some M' ∧ ck_Ok l kv_tab 0 M'.1 q.2 := klw_h0_0
def klw_1 : ck_Ct := ([(kv_r 1 0)], [((5, 2), [kv_F])], [((5, 2), [(kv_g (-2147483648) 2147483647 100 0)]), kc_27, kc_84, ((2, 0), []), ((2, 0), []), ((2, 0), []), ((2, 0), []), ((2, 0), []), kc_16, kc_16, kc_16, kc_16, kc_85, kc_22, ((1, 1), [(kv_j 0 0)])], .inl (some (kv_i 1 1)), (6, 94, 557, 26186))
def klw_c1 : List (Nat × ck_Ct) := [(0, kcl_1), (20, kt_20), (22, kt_22)]
def klw_o1 : List (Nat × List ck_O) := []
def klw_n1 : List (Nat × ck_An) := []
theorem klw_e1 : (ck_resg klw_1 && klw_1.1.all ck_kn && decide (ck_words klw_1.1 ≤ klw_M.2.2.1) && ck_ngA (ck_largs 0 klw_1.1, [], ck_etag klw_1.2.1) && ck_ex ce_0 kv_tab 1 cm_ms klw_c1 [] kco_law klw_M klw_1 true klw_o1 klw_n1 none 30 (0, (ck_tgM (ck_largs 0 klw_1.1), [], ck_etag klw_1.2.1), 0, 0)) = true := by decide +kernel
theorem klw_m1 : ck_meth ce_0 kv_tab 1 cm_ms klw_c1 [] kco_law klw_M klw_1 true klw_o1 klw_n1 30 = true := ck_meth_of klw_e1 (fun _ h => by cases h)
theorem klw_h1_0 {l : Launch} : ∀ q ∈ ([(0, kcl_1), (20, kt_20), (22, kt_22)] : List (Nat × ck_Ct)), ∃ M' : ck_MM, cm_ms[q.1]? = some M' ∧ ck_Ok l kv_tab 1 M'.1 q.2 := (List.forall_mem_cons.mpr ⟨⟨_, cm_g0, kcl_1_ok⟩, (List.forall_mem_cons.mpr ⟨⟨_, cm_g20, kt_20_ok.nS kv_sf kt_20_s 1⟩, (List.forall_mem_cons.mpr ⟨⟨_, cm_g22, kt_22_ok.nS kv_sf kt_22_s 1⟩, (fun _ h => by cases h)⟩)⟩)⟩)
theorem klw_h1 {l : Launch} : ∀ q ∈ klw_c1, ∃ M' : ck_MM, cm_ms[q.1]? = some M' ∧ ck_Ok l kv_tab 1 M'.1 q.2 := klw_h1_0
def klw_2 : ck_Ct := ([(kv_r 1 0)], [((5, 2), [kv_F, kv_F])], [((5, 2), [(kv_g (-2147483648) 2147483647 100 0), (kv_g (-2147483648) 2147483647 101 0)]), kc_27, kc_84, ((2, 0), []), ((2, 0), []), ((2, 0), []), ((2, 0), []), ((2, 0), []), kc_16, kc_16, kc_16, kc_16, kc_85, kc_22, ((1, 1), [(kv_j 0 0)])], .inl (some (kv_i 1 1)), (6, 94, 557, 26186))
def klw_c2 : List (Nat × ck_Ct) := [(0, kcl_2), (20, kt_20), (22, kt_22)]
def klw_o2 : List (Nat × List ck_O) := []
def klw_n2 : List (Nat × ck_An) := []
theorem klw_e2 : (ck_resg klw_2 && klw_2.1.all ck_kn && decide (ck_words klw_2.1 ≤ klw_M.2.2.1) && ck_ngA (ck_largs 0 klw_2.1, [], ck_etag klw_2.2.1) && ck_ex ce_0 kv_tab 2 cm_ms klw_c2 [] kco_law klw_M klw_2 true klw_o2 klw_n2 none 30 (0, (ck_tgM (ck_largs 0 klw_2.1), [], ck_etag klw_2.2.1), 0, 0)) = true := by decide +kernel
theorem klw_m2 : ck_meth ce_0 kv_tab 2 cm_ms klw_c2 [] kco_law klw_M klw_2 true klw_o2 klw_n2 30 = true := ck_meth_of klw_e2 (fun _ h => by cases h)
theorem klw_h2_0 {l : Launch} : ∀ q ∈ ([(0, kcl_2), (20, kt_20), (22, kt_22)] : List (Nat × ck_Ct)), ∃ M' : ck_MM, cm_ms[q.1]? = some M' ∧ ck_Ok l kv_tab 2 M'.1 q.2 := (List.forall_mem_cons.mpr ⟨⟨_, cm_g0, kcl_2_ok⟩, (List.forall_mem_cons.mpr ⟨⟨_, cm_g20, kt_20_ok.nS kv_sf kt_20_s 2⟩, (List.forall_mem_cons.mpr ⟨⟨_, cm_g22, kt_22_ok.nS kv_sf kt_22_s 2⟩, (fun _ h => by cases h)⟩)⟩)⟩)
theorem klw_h2 {l : Launch} : ∀ q ∈ klw_c2, ∃ M' : ck_MM, cm_ms[q.1]? = some M' ∧ ck_Ok l kv_tab 2 M'.1 q.2 := klw_h2_0
def klw_3 : ck_Ct := ([(kv_r 1 0)], [((5, 2), [kv_F, kv_F, kv_F])], [((5, 2), [(kv_g (-2147483648) 2147483647 100 0), (kv_g (-2147483648) 2147483647 101 0), (kv_g (-2147483648) 2147483647 102 0)]), kc_27, kc_84, ((2, 0), []), ((2, 0), []), ((2, 0), []), ((2, 0), []), ((2, 0), []), kc_16, kc_16, kc_16, kc_16, kc_85, kc_22, ((1, 1), [(kv_j 0 0)])], .inl (some (kv_i 1 1)), (6, 94, 557, 26186))
def klw_c3 : List (Nat × ck_Ct) := [(0, kcl_3), (20, kt_20), (22, kt_22)]
def klw_o3 : List (Nat × List ck_O) := []
def klw_n3 : List (Nat × ck_An) := []
theorem klw_e3 : (ck_resg klw_3 && klw_3.1.all ck_kn && decide (ck_words klw_3.1 ≤ klw_M.2.2.1) && ck_ngA (ck_largs 0 klw_3.1, [], ck_etag klw_3.2.1) && ck_ex ce_0 kv_tab 3 cm_ms klw_c3 [] kco_law klw_M klw_3 true klw_o3 klw_n3 none 30 (0, (ck_tgM (ck_largs 0 klw_3.1), [], ck_etag klw_3.2.1), 0, 0)) = true := by decide +kernel
theorem klw_m3 : ck_meth ce_0 kv_tab 3 cm_ms klw_c3 [] kco_law klw_M klw_3 true klw_o3 klw_n3 30 = true := ck_meth_of klw_e3 (fun _ h => by cases h)
theorem klw_h3_0 {l : Launch} : ∀ q ∈ ([(0, kcl_3), (20, kt_20), (22, kt_22)] : List (Nat × ck_Ct)), ∃ M' : ck_MM, cm_ms[q.1]? = some M' ∧ ck_Ok l kv_tab 3 M'.1 q.2 := (List.forall_mem_cons.mpr ⟨⟨_, cm_g0, kcl_3_ok⟩, (List.forall_mem_cons.mpr ⟨⟨_, cm_g20, kt_20_ok.nS kv_sf kt_20_s 3⟩, (List.forall_mem_cons.mpr ⟨⟨_, cm_g22, kt_22_ok.nS kv_sf kt_22_s 3⟩, (fun _ h => by cases h)⟩)⟩)⟩)
theorem klw_h3 {l : Launch} : ∀ q ∈ klw_c3, ∃ M' : ck_MM, cm_ms[q.1]? = some M' ∧ ck_Ok l kv_tab 3 M'.1 q.2 := klw_h3_0
def klw_4 : ck_Ct := ([(kv_r 1 0)], [kc_78], [kc_79, kc_27, kc_84, ((2, 0), []), ((2, 0), []), ((2, 0), []), ((2, 0), []), ((2, 0), []), kc_16, kc_16, kc_16, kc_16, kc_85, kc_22, ((1, 1), [(kv_j 0 0)])], .inl (some (kv_i 1 1)), (6, 94, 557, 26186))
def klw_c4 : List (Nat × ck_Ct) := [(0, kcl_4), (20, kt_20), (22, kt_22)]
def klw_o4 : List (Nat × List ck_O) := []
def klw_n4 : List (Nat × ck_An) := []
theorem klw_e4 : (ck_resg klw_4 && klw_4.1.all ck_kn && decide (ck_words klw_4.1 ≤ klw_M.2.2.1) && ck_ngA (ck_largs 0 klw_4.1, [], ck_etag klw_4.2.1) && ck_ex ce_0 kv_tab 4 cm_ms klw_c4 [] kco_law klw_M klw_4 true klw_o4 klw_n4 none 30 (0, (ck_tgM (ck_largs 0 klw_4.1), [], ck_etag klw_4.2.1), 0, 0)) = true := by decide +kernel
theorem klw_m4 : ck_meth ce_0 kv_tab 4 cm_ms klw_c4 [] kco_law klw_M klw_4 true klw_o4 klw_n4 30 = true := ck_meth_of klw_e4 (fun _ h => by cases h)
theorem klw_h4_0 {l : Launch} : ∀ q ∈ ([(0, kcl_4), (20, kt_20), (22, kt_22)] : List (Nat × ck_Ct)), ∃ M' : ck_MM, cm_ms[q.1]? = some M' ∧ ck_Ok l kv_tab 4 M'.1 q.2 := (List.forall_mem_cons.mpr ⟨⟨_, cm_g0, kcl_4_ok⟩, (List.forall_mem_cons.mpr ⟨⟨_, cm_g20, kt_20_ok.nS kv_sf kt_20_s 4⟩, (List.forall_mem_cons.mpr ⟨⟨_, cm_g22, kt_22_ok.nS kv_sf kt_22_s 4⟩, (fun _ h => by cases h)⟩)⟩)⟩)
theorem klw_h4 {l : Launch} : ∀ q ∈ klw_c4, ∃ M' : ck_MM, cm_ms[q.1]? = some M' ∧ ck_Ok l kv_tab 4 M'.1 q.2 := klw_h4_0
def klw_5 : ck_Ct := ([(kv_r 1 0)], [kc_80], [kc_81, kc_27, kc_84, ((2, 0), []), ((2, 0), []), ((2, 0), []), ((2, 0), []), ((2, 0), []), kc_16, kc_16, kc_16, kc_16, kc_85, kc_22, ((1, 1), [(kv_j 0 0)])], .inl (some (kv_i 1 1)), (6, 94, 557, 26186))
def klw_c5 : List (Nat × ck_Ct) := [(0, kcl_5), (20, kt_20), (22, kt_22)]
def klw_o5 : List (Nat × List ck_O) := []
def klw_n5 : List (Nat × ck_An) := []
theorem klw_e5 : (ck_resg klw_5 && klw_5.1.all ck_kn && decide (ck_words klw_5.1 ≤ klw_M.2.2.1) && ck_ngA (ck_largs 0 klw_5.1, [], ck_etag klw_5.2.1) && ck_ex ce_0 kv_tab 5 cm_ms klw_c5 [] kco_law klw_M klw_5 true klw_o5 klw_n5 none 30 (0, (ck_tgM (ck_largs 0 klw_5.1), [], ck_etag klw_5.2.1), 0, 0)) = true := by decide +kernel
theorem klw_m5 : ck_meth ce_0 kv_tab 5 cm_ms klw_c5 [] kco_law klw_M klw_5 true klw_o5 klw_n5 30 = true := ck_meth_of klw_e5 (fun _ h => by cases h)
theorem klw_h5_0 {l : Launch} : ∀ q ∈ ([(0, kcl_5), (20, kt_20), (22, kt_22)] : List (Nat × ck_Ct)), ∃ M' : ck_MM, cm_ms[q.1]? = some M' ∧ ck_Ok l kv_tab 5 M'.1 q.2 := (List.forall_mem_cons.mpr ⟨⟨_, cm_g0, kcl_5_ok⟩, (List.forall_mem_cons.mpr ⟨⟨_, cm_g20, kt_20_ok.nS kv_sf kt_20_s 5⟩, (List.forall_mem_cons.mpr ⟨⟨_, cm_g22, kt_22_ok.nS kv_sf kt_22_s 5⟩, (fun _ h => by cases h)⟩)⟩)⟩)
theorem klw_h5 {l : Launch} : ∀ q ∈ klw_c5, ∃ M' : ck_MM, cm_ms[q.1]? = some M' ∧ ck_Ok l kv_tab 5 M'.1 q.2 := klw_h5_0
def kc_86 : ck_C := ((0, 0), [kv_F, (kv_r 8 0), (kv_r 8 0), (kv_r 2 28), (kv_r 2 29), (kv_r 2 15), (kv_r 2 19), (kv_r 2 24), (kv_i 0 1), (kv_i 0 0), kv_F])
def kc_87 : ck_C := ((0, 11), [(kv_i 0 2), kv_F, (kv_r 8 0), (kv_r 2 32), (kv_r 2 33), (kv_i 0 34), (kv_r 2 34), (kv_r 2 4), (kv_r 2 4), (kv_r 2 3), (kv_r 2 12), (kv_r 2 13), kv_F, (kv_r 2 39), (kv_r 1 13), (kv_r 2 1), (kv_r 8 0), (kv_r 2 41), (kv_i 0 1), (kv_r 2 35), (kv_r 2 35), (kv_r 2 40), (kv_r 2 40), (kv_r 2 40), (kv_r 2 40), (kv_r 2 35), (kv_r 2 35), (kv_r 2 35), (kv_r 2 35), (kv_r 2 36), (kv_r 2 35), (kv_r 2 35), (kv_r 2 35), (kv_r 2 14), (kv_i 0 0), (kv_r 2 37), (kv_r 2 38)])
def kc_88 : ck_C := ((1, 0), [(kv_i 0 1), (kv_i 0 1), (kv_i 0 1), (kv_i 0 1)])
def klw_6 : ck_Ct := ([(kv_r 1 0)], [kc_82], [kc_83, kc_86, ((2, 0), []), ((2, 0), []), ((2, 0), []), ((2, 0), []), ((2, 0), []), ((2, 0), []), ((2, 0), []), ((2, 0), []), ((2, 0), []), ((2, 0), []), kc_87, kc_88, ((1, 1), [(kv_j 0 0)])], .inl (some (kv_i 1 1)), (9, 203, 558, 26192))
def klw_c6 : List (Nat × ck_Ct) := [(0, kcl_6), (20, kt_20), (22, kt_22), (150, kt_320), (151, kt_321), (29, kt_89), (150, kt_323), (151, kt_324), (150, kt_327), (151, kt_328), (150, kt_330), (151, kt_331), (150, kt_333), (151, kt_334), (145, kt_303), (146, kt_304), (29, kt_35), (145, kt_306), (146, kt_307), (145, kt_310), (146, kt_312), (145, kt_314), (146, kt_315), (145, kt_317), (146, kt_318), (142, kt_282), (143, kt_283), (142, kt_285), (143, kt_286), (142, kt_288), (143, kt_289), (142, kt_291), (143, kt_292), (142, kt_294), (143, kt_295), (142, kt_297), (143, kt_298), (142, kt_300), (143, kt_301), (139, kt_261), (140, kt_262), (139, kt_264), (140, kt_265), (139, kt_267), (140, kt_268), (139, kt_270), (140, kt_271), (139, kt_273), (140, kt_274), (139, kt_276), (140, kt_277), (139, kt_279), (140, kt_280), (136, kt_241), (137, kt_243), (136, kt_246), (137, kt_248), (136, kt_250), (137, kt_251), (136, kt_253), (137, kt_254), (136, kt_257), (137, kt_259), (132, kt_213), (133, kt_215), (29, kt_216), (132, kt_220), (133, kt_222), (29, kt_223), (132, kt_225), (133, kt_226), (29, kt_227), (132, kt_229), (133, kt_230), (29, kt_231), (132, kt_233), (133, kt_234), (29, kt_235), (132, kt_237), (133, kt_238), (128, kt_193), (129, kt_194), (128, kt_197), (129, kt_199), (128, kt_201), (129, kt_202), (128, kt_204), (129, kt_205), (128, kt_207), (129, kt_208), (128, kt_210), (129, kt_211), (65, kt_86), (66, kt_88), (65, kt_91), (66, kt_92), (65, kt_94), (66, kt_96), (65, kt_130), (66, kt_161), (65, kt_163), (66, kt_164), (65, kt_166), (66, kt_167), (65, kt_169), (66, kt_170), (65, kt_172), (66, kt_173), (65, kt_175), (66, kt_176), (65, kt_178), (66, kt_179), (65, kt_181), (66, kt_182), (65, kt_184), (66, kt_185), (65, kt_187), (66, kt_188), (65, kt_190), (66, kt_191), (62, kt_83), (63, kt_84), (59, kt_80), (60, kt_81), (56, kt_66), (57, kt_68), (56, kt_71), (57, kt_73), (56, kt_76), (57, kt_78), (53, kt_62), (54, kt_63), (50, kt_59), (51, kt_60), (47, kt_56), (48, kt_57), (45, kt_51), (46, kt_52), (46, kt_53), (45, kt_55), (42, kt_48), (43, kt_49), (40, kt_46), (41, kt_47), (37, kt_43), (38, kt_44), (34, kt_40), (35, kt_41), (31, kt_37), (32, kt_38), (25, kt_31), (28, kt_34)]
def klw_o6 : List (Nat × List ck_O) := [(148, [(5, 0, 0, 0, [(7, 1), (9, 8), (30, 31)]), (2, 0, 2, (-1), []), (2, 0, 2, 3, []), (2, 0, 3, (-1), []), (2, 0, 3, 3, [])]), (240, [(2, 0, 2, (-1), []), (2, 0, 2, 3, []), (2, 0, 3, (-1), []), (2, 0, 3, 3, [])]), (307, [(5, 0, 0, 0, [(7, 1), (9, 8), (30, 31)]), (2, 0, 2, (-1), []), (2, 0, 2, 3, []), (2, 0, 3, (-1), []), (2, 0, 3, 3, []), (2, 0, 4, (-1), []), (2, 0, 4, 3, [])]), (367, [(5, 0, 0, 0, [(7, 1), (9, 8), (30, 31)]), (2, 0, 2, (-1), []), (2, 0, 2, 3, []), (2, 0, 3, (-1), []), (2, 0, 3, 3, []), (2, 0, 4, (-1), []), (2, 0, 4, 3, [])]), (427, [(5, 0, 0, 0, [(7, 1), (9, 8), (30, 31)]), (2, 0, 2, (-1), []), (2, 0, 2, 128, []), (2, 0, 3, (-1), []), (2, 0, 3, 3, [])]), (475, [(5, 0, 0, 0, [(7, 1), (9, 8), (30, 31), (42, 41)]), (2, 0, 2, (-1), []), (2, 0, 2, 0, []), (2, 0, 2, 1, []), (2, 0, 2, 2, []), (2, 0, 2, 3, [])]), (531, [(2, 0, 2, (-1), []), (2, 0, 2, 0, []), (2, 0, 2, 1, []), (2, 0, 2, 2, []), (2, 0, 2, 3, [])]), (587, [(0, 8, 26, 0, []), (0, 9, 26, 0, []), (0, 10, 26, 0, []), (0, 11, 26, 0, []), (0, 2, 27, 0, []), (5, 0, 0, 0, [(7, 1), (9, 8), (30, 31)]), (2, 0, 2, (-1), []), (2, 0, 2, 0, []), (2, 0, 2, 1, []), (2, 0, 2, 2, []), (2, 0, 2, 3, []), (2, 0, 3, (-1), []), (2, 0, 3, 0, []), (2, 0, 3, 1, []), (2, 0, 3, 2, []), (2, 0, 3, 3, [])]), (835, [(2, 0, 2, (-1), []), (2, 0, 2, 3, [])])]
def klw_n6_148 : Nat × ck_An := (148, (([(0, (kv_r 1 0)), (1, (kv_r 1 1)), (2, (kv_r 1 12)), (3, (kv_r 1 14)), (4, (kv_i 1 1))], [], [kc_83, kc_27, kc_84, ((2, 0), []), ((2, 0), []), ((2, 0), []), ((2, 0), []), ((2, 0), []), kc_16, kc_16, kc_16, kc_16, kc_85, kc_22, ((1, 1), [(kv_j 0 0)])]), (41, []), 557, 26186))
def klw_n6_240 : Nat × ck_An := (240, (([(0, (kv_r 1 0)), (1, (kv_r 1 1)), (2, (kv_r 1 12)), (3, (kv_r 1 14)), (4, (kv_i 1 1))], [], [kc_83, kc_27, kc_84, ((2, 0), []), ((2, 0), []), ((2, 0), []), ((2, 0), []), ((2, 0), []), kc_16, kc_16, kc_16, kc_16, kc_85, kc_22, ((1, 1), [(kv_j 0 0)])]), (39, []), 557, 26186))
def klw_n6_307 : Nat × ck_An := (307, (([(0, (kv_r 1 0)), (1, (kv_r 1 1)), (2, (kv_r 1 12)), (3, (kv_r 1 14)), (4, (kv_i 1 1))], [], [kc_83, kc_27, kc_84, ((2, 0), []), ((2, 0), []), ((2, 0), []), ((2, 0), []), ((2, 0), []), kc_16, kc_16, kc_16, kc_16, kc_85, kc_22, ((1, 1), [(kv_j 0 0)])]), (37, []), 557, 26186))
def klw_n6_367 : Nat × ck_An := (367, (([(0, (kv_r 1 0)), (1, (kv_r 1 1)), (2, (kv_r 1 12)), (3, (kv_r 1 14)), (4, (kv_i 1 1))], [], [kc_83, kc_27, kc_84, ((2, 0), []), ((2, 0), []), ((2, 0), []), ((2, 0), []), ((2, 0), []), kc_16, kc_16, kc_16, kc_16, kc_85, kc_22, ((1, 1), [(kv_j 0 0)])]), (35, []), 557, 26186))
def klw_n6_427 : Nat × ck_An := (427, (([(0, (kv_r 1 0)), (1, (kv_r 1 1)), (2, (kv_r 1 12)), (3, (kv_r 1 14)), (4, (kv_i 1 1))], [], [kc_83, kc_27, kc_84, ((2, 0), []), ((2, 0), []), ((2, 0), []), ((2, 0), []), ((2, 0), []), kc_16, kc_16, kc_16, kc_16, kc_85, kc_22, ((1, 1), [(kv_j 0 0)])]), (33, []), 557, 26186))
def klw_n6_475 : Nat × ck_An := (475, (([(0, (kv_r 1 0)), (1, (kv_r 1 1)), (2, (kv_r 1 12)), (3, (kv_r 1 14)), (4, (kv_i 1 1))], [], [kc_83, kc_27, kc_84, ((2, 0), []), ((2, 0), []), ((2, 0), []), ((2, 0), []), ((2, 0), []), kc_16, kc_16, kc_16, kc_16, kc_85, kc_22, ((1, 1), [(kv_j 0 0)])]), (31, []), 557, 26186))
def klw_n6_531 : Nat × ck_An := (531, (([(0, (kv_r 1 0)), (1, (kv_r 1 1)), (2, (kv_r 1 12)), (3, (kv_r 1 14)), (4, (kv_i 1 1))], [], [kc_83, kc_27, kc_84, ((2, 0), []), ((2, 0), []), ((2, 0), []), ((2, 0), []), ((2, 0), []), kc_16, kc_16, kc_16, kc_16, kc_85, kc_22, ((1, 1), [(kv_j 0 0)])]), (29, []), 557, 26186))
def klw_n6_587 : Nat × ck_An := (587, (([(0, (kv_r 1 0)), (1, (kv_r 1 1)), (2, (kv_r 1 12)), (3, (kv_r 1 14)), (4, (kv_i 1 1))], [], [kc_83, kc_27, kc_84, ((2, 0), []), ((2, 0), []), ((2, 0), []), ((2, 0), []), ((2, 0), []), kc_16, kc_16, kc_16, kc_16, kc_85, kc_22, ((1, 1), [(kv_j 0 0)])]), (27, []), 557, 26186))
def klw_n6_655 : Nat × ck_An := (655, (([(0, (kv_r 1 0)), (1, (kv_r 1 1)), (2, (kv_r 1 12)), (3, (kv_r 1 14)), (4, (kv_i 1 1))], [], [kc_83, kc_27, kc_84, ((2, 0), []), ((2, 0), []), ((2, 0), []), ((2, 0), []), ((2, 0), []), kc_16, kc_16, kc_16, kc_16, kc_85, kc_22, ((1, 1), [(kv_j 0 0)])]), (25, []), 557, 26186))
def klw_n6_755 : Nat × ck_An := (755, (([(0, (kv_r 1 0)), (1, (kv_r 1 1)), (2, (kv_r 1 12)), (3, (kv_r 1 14)), (4, (kv_i 1 1))], [], [kc_83, kc_27, kc_84, ((2, 0), []), ((2, 0), []), ((2, 0), []), ((2, 0), []), ((2, 0), []), kc_16, kc_16, kc_16, kc_16, kc_85, kc_22, ((1, 1), [(kv_j 0 0)])]), (23, []), 557, 26186))
def klw_n6_835 : Nat × ck_An := (835, (([(0, (kv_r 1 0)), (1, (kv_r 1 1)), (2, (kv_r 1 12)), (3, (kv_r 1 14)), (4, (kv_i 1 1))], [], [kc_83, kc_27, kc_84, ((2, 0), []), ((2, 0), []), ((2, 0), []), ((2, 0), []), ((2, 0), []), kc_16, kc_16, kc_16, kc_16, kc_85, kc_22, ((1, 1), [(kv_j 0 0)])]), (21, []), 557, 26186))
def klw_n6_903 : Nat × ck_An := (903, (([(0, (kv_r 1 0)), (1, (kv_r 1 1)), (2, (kv_r 1 12)), (3, (kv_r 1 14)), (4, (kv_i 1 1))], [], [kc_83, kc_27, kc_84, ((2, 0), []), ((2, 0), []), ((2, 0), []), ((2, 0), []), ((2, 0), []), kc_16, kc_16, kc_16, kc_16, kc_85, kc_22, ((1, 1), [(kv_j 0 0)])]), (19, []), 557, 26186))
def klw_n6_971 : Nat × ck_An := (971, (([(0, (kv_r 1 0)), (1, (kv_r 1 1)), (2, (kv_r 1 12)), (3, (kv_r 1 14)), (4, (kv_i 1 1))], [], [kc_83, kc_27, kc_84, ((2, 0), []), ((2, 0), []), ((2, 0), []), ((2, 0), []), ((2, 0), []), kc_16, kc_16, kc_16, kc_16, kc_85, kc_22, ((1, 1), [(kv_j 0 0)])]), (17, []), 557, 26186))
def klw_n6_1026 : Nat × ck_An := (1026, (([(0, (kv_r 1 0)), (1, (kv_r 1 1)), (2, (kv_r 1 12)), (3, (kv_r 1 14)), (4, (kv_i 1 1))], [], [kc_83, kc_27, kc_84, ((2, 0), []), ((2, 0), []), ((2, 0), []), ((2, 0), []), ((2, 0), []), kc_16, kc_16, kc_16, kc_16, kc_85, kc_22, ((1, 1), [(kv_j 0 0)])]), (15, []), 557, 26186))
def klw_n6_1039 : Nat × ck_An := (1039, (([(0, (kv_r 1 0)), (1, (kv_r 1 1)), (2, (kv_r 1 12)), (3, (kv_r 1 14)), (4, (kv_i 1 1))], [], [kc_83, kc_27, kc_84, ((2, 0), []), ((2, 0), []), ((2, 0), []), ((2, 0), []), ((2, 0), []), kc_16, kc_16, kc_16, kc_16, kc_85, kc_22, ((1, 1), [(kv_j 0 0)])]), (13, []), 557, 26186))
def klw_n6_1123 : Nat × ck_An := (1123, (([(0, (kv_r 1 0)), (1, (kv_r 1 1)), (2, (kv_r 1 12)), (3, (kv_r 1 14)), (4, (kv_i 1 1))], [], [kc_83, kc_27, kc_84, ((2, 0), []), ((2, 0), []), ((2, 0), []), ((2, 0), []), ((2, 0), []), kc_16, kc_16, kc_16, kc_16, kc_85, kc_22, ((1, 1), [(kv_j 0 0)])]), (11, []), 557, 26186))
def klw_n6_1136 : Nat × ck_An := (1136, (([(0, (kv_r 1 0)), (1, (kv_r 1 1)), (2, (kv_r 1 12)), (3, (kv_r 1 14)), (4, (kv_i 1 1))], [], [kc_83, kc_27, kc_84, ((2, 0), []), ((2, 0), []), ((2, 0), []), ((2, 0), []), ((2, 0), []), kc_16, kc_16, kc_16, kc_16, kc_85, kc_22, ((1, 1), [(kv_j 0 0)])]), (9, []), 557, 26186))
def klw_n6_1192 : Nat × ck_An := (1192, (([(0, (kv_r 1 0)), (1, (kv_r 1 1)), (2, (kv_r 1 12)), (3, (kv_r 1 14)), (4, (kv_i 1 1))], [], [kc_83, kc_27, kc_84, ((2, 0), []), ((2, 0), []), ((2, 0), []), ((2, 0), []), ((2, 0), []), kc_16, kc_16, kc_16, kc_16, kc_85, kc_22, ((1, 1), [(kv_j 0 0)])]), (7, []), 557, 26186))
def klw_n6_1260 : Nat × ck_An := (1260, (([(0, (kv_r 1 0)), (1, (kv_r 1 1)), (2, (kv_r 1 12)), (3, (kv_r 1 14)), (4, (kv_i 1 1))], [], [kc_83, kc_27, kc_84, ((2, 0), []), ((2, 0), []), ((2, 0), []), ((2, 0), []), ((2, 0), []), kc_16, kc_16, kc_16, kc_16, kc_85, kc_22, ((1, 1), [(kv_j 0 0)])]), (5, []), 557, 26186))
def klw_n6_1328 : Nat × ck_An := (1328, (([(0, (kv_r 1 0)), (1, (kv_r 1 1)), (2, (kv_r 1 12)), (3, (kv_r 1 14)), (4, (kv_i 1 1))], [], [kc_83, kc_27, kc_84, ((2, 0), []), ((2, 0), []), ((2, 0), []), ((2, 0), []), ((2, 0), []), kc_16, kc_16, kc_16, kc_16, kc_85, kc_22, ((1, 1), [(kv_j 0 0)])]), (3, []), 557, 26186))
def klw_n6_1403 : Nat × ck_An := (1403, (([(0, (kv_r 1 0)), (1, (kv_r 1 1)), (2, (kv_r 1 12)), (3, (kv_r 1 14)), (4, (kv_i 1 1))], [], [kc_83, kc_27, kc_84, ((2, 0), []), ((2, 0), []), ((2, 0), []), ((2, 0), []), ((2, 0), []), kc_16, kc_16, kc_16, kc_16, kc_85, kc_22, ((1, 1), [(kv_j 0 0)])]), (1, []), 557, 26186))
def klw_n6 : List (Nat × ck_An) := [klw_n6_148, klw_n6_240, klw_n6_307, klw_n6_367, klw_n6_427, klw_n6_475, klw_n6_531, klw_n6_587, klw_n6_655, klw_n6_755, klw_n6_835, klw_n6_903, klw_n6_971, klw_n6_1026, klw_n6_1039, klw_n6_1123, klw_n6_1136, klw_n6_1192, klw_n6_1260, klw_n6_1328, klw_n6_1403]
theorem klw_e6 : (ck_resg klw_6 && klw_6.1.all ck_kn && decide (ck_words klw_6.1 ≤ klw_M.2.2.1) && ck_ngA (ck_largs 0 klw_6.1, [], ck_etag klw_6.2.1) && ck_ex ce_0 kv_tab 6 cm_ms klw_c6 [] kco_law klw_M klw_6 true klw_o6 klw_n6 none 77 (0, (ck_tgM (ck_largs 0 klw_6.1), [], ck_etag klw_6.2.1), 0, 0)) = true := by decide +kernel
theorem klw_s6_148 : (ck_ngA klw_n6_148.2.1 && ck_ex ce_0 kv_tab 6 cm_ms klw_c6 [] kco_law klw_M klw_6 true klw_o6 klw_n6 (some (klw_n6_148.2.2.1, klw_n6_148.2.1.1)) 77 (klw_n6_148.1, (ck_tgM klw_n6_148.2.1.1, klw_n6_148.2.1.2.1, klw_n6_148.2.1.2.2), klw_n6_148.2.2.2.1, klw_n6_148.2.2.2.2)) = true := by decide +kernel
theorem klw_s6_240 : (ck_ngA klw_n6_240.2.1 && ck_ex ce_0 kv_tab 6 cm_ms klw_c6 [] kco_law klw_M klw_6 true klw_o6 klw_n6 (some (klw_n6_240.2.2.1, klw_n6_240.2.1.1)) 77 (klw_n6_240.1, (ck_tgM klw_n6_240.2.1.1, klw_n6_240.2.1.2.1, klw_n6_240.2.1.2.2), klw_n6_240.2.2.2.1, klw_n6_240.2.2.2.2)) = true := by decide +kernel
theorem klw_s6_307 : (ck_ngA klw_n6_307.2.1 && ck_ex ce_0 kv_tab 6 cm_ms klw_c6 [] kco_law klw_M klw_6 true klw_o6 klw_n6 (some (klw_n6_307.2.2.1, klw_n6_307.2.1.1)) 77 (klw_n6_307.1, (ck_tgM klw_n6_307.2.1.1, klw_n6_307.2.1.2.1, klw_n6_307.2.1.2.2), klw_n6_307.2.2.2.1, klw_n6_307.2.2.2.2)) = true := by decide +kernel
theorem klw_s6_367 : (ck_ngA klw_n6_367.2.1 && ck_ex ce_0 kv_tab 6 cm_ms klw_c6 [] kco_law klw_M klw_6 true klw_o6 klw_n6 (some (klw_n6_367.2.2.1, klw_n6_367.2.1.1)) 77 (klw_n6_367.1, (ck_tgM klw_n6_367.2.1.1, klw_n6_367.2.1.2.1, klw_n6_367.2.1.2.2), klw_n6_367.2.2.2.1, klw_n6_367.2.2.2.2)) = true := by decide +kernel
theorem klw_s6_427 : (ck_ngA klw_n6_427.2.1 && ck_ex ce_0 kv_tab 6 cm_ms klw_c6 [] kco_law klw_M klw_6 true klw_o6 klw_n6 (some (klw_n6_427.2.2.1, klw_n6_427.2.1.1)) 77 (klw_n6_427.1, (ck_tgM klw_n6_427.2.1.1, klw_n6_427.2.1.2.1, klw_n6_427.2.1.2.2), klw_n6_427.2.2.2.1, klw_n6_427.2.2.2.2)) = true := by decide +kernel
theorem klw_s6_475 : (ck_ngA klw_n6_475.2.1 && ck_ex ce_0 kv_tab 6 cm_ms klw_c6 [] kco_law klw_M klw_6 true klw_o6 klw_n6 (some (klw_n6_475.2.2.1, klw_n6_475.2.1.1)) 77 (klw_n6_475.1, (ck_tgM klw_n6_475.2.1.1, klw_n6_475.2.1.2.1, klw_n6_475.2.1.2.2), klw_n6_475.2.2.2.1, klw_n6_475.2.2.2.2)) = true := by decide +kernel
theorem klw_s6_531 : (ck_ngA klw_n6_531.2.1 && ck_ex ce_0 kv_tab 6 cm_ms klw_c6 [] kco_law klw_M klw_6 true klw_o6 klw_n6 (some (klw_n6_531.2.2.1, klw_n6_531.2.1.1)) 77 (klw_n6_531.1, (ck_tgM klw_n6_531.2.1.1, klw_n6_531.2.1.2.1, klw_n6_531.2.1.2.2), klw_n6_531.2.2.2.1, klw_n6_531.2.2.2.2)) = true := by decide +kernel
theorem klw_s6_587 : (ck_ngA klw_n6_587.2.1 && ck_ex ce_0 kv_tab 6 cm_ms klw_c6 [] kco_law klw_M klw_6 true klw_o6 klw_n6 (some (klw_n6_587.2.2.1, klw_n6_587.2.1.1)) 77 (klw_n6_587.1, (ck_tgM klw_n6_587.2.1.1, klw_n6_587.2.1.2.1, klw_n6_587.2.1.2.2), klw_n6_587.2.2.2.1, klw_n6_587.2.2.2.2)) = true := by decide +kernel
theorem klw_s6_655 : (ck_ngA klw_n6_655.2.1 && ck_ex ce_0 kv_tab 6 cm_ms klw_c6 [] kco_law klw_M klw_6 true klw_o6 klw_n6 (some (klw_n6_655.2.2.1, klw_n6_655.2.1.1)) 77 (klw_n6_655.1, (ck_tgM klw_n6_655.2.1.1, klw_n6_655.2.1.2.1, klw_n6_655.2.1.2.2), klw_n6_655.2.2.2.1, klw_n6_655.2.2.2.2)) = true := by decide +kernel
theorem klw_s6_755 : (ck_ngA klw_n6_755.2.1 && ck_ex ce_0 kv_tab 6 cm_ms klw_c6 [] kco_law klw_M klw_6 true klw_o6 klw_n6 (some (klw_n6_755.2.2.1, klw_n6_755.2.1.1)) 77 (klw_n6_755.1, (ck_tgM klw_n6_755.2.1.1, klw_n6_755.2.1.2.1, klw_n6_755.2.1.2.2), klw_n6_755.2.2.2.1, klw_n6_755.2.2.2.2)) = true := by decide +kernel
theorem klw_s6_835 : (ck_ngA klw_n6_835.2.1 && ck_ex ce_0 kv_tab 6 cm_ms klw_c6 [] kco_law klw_M klw_6 true klw_o6 klw_n6 (some (klw_n6_835.2.2.1, klw_n6_835.2.1.1)) 77 (klw_n6_835.1, (ck_tgM klw_n6_835.2.1.1, klw_n6_835.2.1.2.1, klw_n6_835.2.1.2.2), klw_n6_835.2.2.2.1, klw_n6_835.2.2.2.2)) = true := by decide +kernel
theorem klw_s6_903 : (ck_ngA klw_n6_903.2.1 && ck_ex ce_0 kv_tab 6 cm_ms klw_c6 [] kco_law klw_M klw_6 true klw_o6 klw_n6 (some (klw_n6_903.2.2.1, klw_n6_903.2.1.1)) 77 (klw_n6_903.1, (ck_tgM klw_n6_903.2.1.1, klw_n6_903.2.1.2.1, klw_n6_903.2.1.2.2), klw_n6_903.2.2.2.1, klw_n6_903.2.2.2.2)) = true := by decide +kernel
theorem klw_s6_971 : (ck_ngA klw_n6_971.2.1 && ck_ex ce_0 kv_tab 6 cm_ms klw_c6 [] kco_law klw_M klw_6 true klw_o6 klw_n6 (some (klw_n6_971.2.2.1, klw_n6_971.2.1.1)) 77 (klw_n6_971.1, (ck_tgM klw_n6_971.2.1.1, klw_n6_971.2.1.2.1, klw_n6_971.2.1.2.2), klw_n6_971.2.2.2.1, klw_n6_971.2.2.2.2)) = true := by decide +kernel
theorem klw_s6_1026 : (ck_ngA klw_n6_1026.2.1 && ck_ex ce_0 kv_tab 6 cm_ms klw_c6 [] kco_law klw_M klw_6 true klw_o6 klw_n6 (some (klw_n6_1026.2.2.1, klw_n6_1026.2.1.1)) 77 (klw_n6_1026.1, (ck_tgM klw_n6_1026.2.1.1, klw_n6_1026.2.1.2.1, klw_n6_1026.2.1.2.2), klw_n6_1026.2.2.2.1, klw_n6_1026.2.2.2.2)) = true := by decide +kernel
theorem klw_s6_1039 : (ck_ngA klw_n6_1039.2.1 && ck_ex ce_0 kv_tab 6 cm_ms klw_c6 [] kco_law klw_M klw_6 true klw_o6 klw_n6 (some (klw_n6_1039.2.2.1, klw_n6_1039.2.1.1)) 77 (klw_n6_1039.1, (ck_tgM klw_n6_1039.2.1.1, klw_n6_1039.2.1.2.1, klw_n6_1039.2.1.2.2), klw_n6_1039.2.2.2.1, klw_n6_1039.2.2.2.2)) = true := by decide +kernel
theorem klw_s6_1123 : (ck_ngA klw_n6_1123.2.1 && ck_ex ce_0 kv_tab 6 cm_ms klw_c6 [] kco_law klw_M klw_6 true klw_o6 klw_n6 (some (klw_n6_1123.2.2.1, klw_n6_1123.2.1.1)) 77 (klw_n6_1123.1, (ck_tgM klw_n6_1123.2.1.1, klw_n6_1123.2.1.2.1, klw_n6_1123.2.1.2.2), klw_n6_1123.2.2.2.1, klw_n6_1123.2.2.2.2)) = true := by decide +kernel
theorem klw_s6_1136 : (ck_ngA klw_n6_1136.2.1 && ck_ex ce_0 kv_tab 6 cm_ms klw_c6 [] kco_law klw_M klw_6 true klw_o6 klw_n6 (some (klw_n6_1136.2.2.1, klw_n6_1136.2.1.1)) 77 (klw_n6_1136.1, (ck_tgM klw_n6_1136.2.1.1, klw_n6_1136.2.1.2.1, klw_n6_1136.2.1.2.2), klw_n6_1136.2.2.2.1, klw_n6_1136.2.2.2.2)) = true := by decide +kernel
theorem klw_s6_1192 : (ck_ngA klw_n6_1192.2.1 && ck_ex ce_0 kv_tab 6 cm_ms klw_c6 [] kco_law klw_M klw_6 true klw_o6 klw_n6 (some (klw_n6_1192.2.2.1, klw_n6_1192.2.1.1)) 77 (klw_n6_1192.1, (ck_tgM klw_n6_1192.2.1.1, klw_n6_1192.2.1.2.1, klw_n6_1192.2.1.2.2), klw_n6_1192.2.2.2.1, klw_n6_1192.2.2.2.2)) = true := by decide +kernel
theorem klw_s6_1260 : (ck_ngA klw_n6_1260.2.1 && ck_ex ce_0 kv_tab 6 cm_ms klw_c6 [] kco_law klw_M klw_6 true klw_o6 klw_n6 (some (klw_n6_1260.2.2.1, klw_n6_1260.2.1.1)) 77 (klw_n6_1260.1, (ck_tgM klw_n6_1260.2.1.1, klw_n6_1260.2.1.2.1, klw_n6_1260.2.1.2.2), klw_n6_1260.2.2.2.1, klw_n6_1260.2.2.2.2)) = true := by decide +kernel
theorem klw_s6_1328 : (ck_ngA klw_n6_1328.2.1 && ck_ex ce_0 kv_tab 6 cm_ms klw_c6 [] kco_law klw_M klw_6 true klw_o6 klw_n6 (some (klw_n6_1328.2.2.1, klw_n6_1328.2.1.1)) 77 (klw_n6_1328.1, (ck_tgM klw_n6_1328.2.1.1, klw_n6_1328.2.1.2.1, klw_n6_1328.2.1.2.2), klw_n6_1328.2.2.2.1, klw_n6_1328.2.2.2.2)) = true := by decide +kernel
theorem klw_s6_1403 : (ck_ngA klw_n6_1403.2.1 && ck_ex ce_0 kv_tab 6 cm_ms klw_c6 [] kco_law klw_M klw_6 true klw_o6 klw_n6 (some (klw_n6_1403.2.2.1, klw_n6_1403.2.1.1)) 77 (klw_n6_1403.1, (ck_tgM klw_n6_1403.2.1.1, klw_n6_1403.2.1.2.1, klw_n6_1403.2.1.2.2), klw_n6_1403.2.2.2.1, klw_n6_1403.2.2.2.2)) = true := by decide +kernel
theorem klw_m6 : ck_meth ce_0 kv_tab 6 cm_ms klw_c6 [] kco_law klw_M klw_6 true klw_o6 klw_n6 77 = true := ck_meth_of klw_e6 (List.forall_mem_cons.mpr ⟨klw_s6_148, (List.forall_mem_cons.mpr ⟨klw_s6_240, (List.forall_mem_cons.mpr ⟨klw_s6_307, (List.forall_mem_cons.mpr ⟨klw_s6_367, (List.forall_mem_cons.mpr ⟨klw_s6_427, (List.forall_mem_cons.mpr ⟨klw_s6_475, (List.forall_mem_cons.mpr ⟨klw_s6_531, (List.forall_mem_cons.mpr ⟨klw_s6_587, (List.forall_mem_cons.mpr ⟨klw_s6_655, (List.forall_mem_cons.mpr ⟨klw_s6_755, (List.forall_mem_cons.mpr ⟨klw_s6_835, (List.forall_mem_cons.mpr ⟨klw_s6_903, (List.forall_mem_cons.mpr ⟨klw_s6_971, (List.forall_mem_cons.mpr ⟨klw_s6_1026, (List.forall_mem_cons.mpr ⟨klw_s6_1039, (List.forall_mem_cons.mpr ⟨klw_s6_1123, (List.forall_mem_cons.mpr ⟨klw_s6_1136, (List.forall_mem_cons.mpr ⟨klw_s6_1192, (List.forall_mem_cons.mpr ⟨klw_s6_1260, (List.forall_mem_cons.mpr ⟨klw_s6_1328, (List.forall_mem_cons.mpr ⟨klw_s6_1403, (fun _ h => by cases h)⟩)⟩)⟩)⟩)⟩)⟩)⟩)⟩)⟩)⟩)⟩)⟩)⟩)⟩)⟩)⟩)⟩)⟩)⟩)⟩)⟩)
theorem klw_h6_0 {l : Launch} : ∀ q ∈ ([(0, kcl_6), (20, kt_20), (22, kt_22), (150, kt_320), (151, kt_321), (29, kt_89), (150, kt_323), (151, kt_324), (150, kt_327), (151, kt_328), (150, kt_330), (151, kt_331), (150, kt_333), (151, kt_334), (145, kt_303), (146, kt_304), (29, kt_35), (145, kt_306), (146, kt_307), (145, kt_310)] : List (Nat × ck_Ct)), ∃ M' : ck_MM, cm_ms[q.1]? = some M' ∧ ck_Ok l kv_tab 6 M'.1 q.2 := (List.forall_mem_cons.mpr ⟨⟨_, cm_g0, kcl_6_ok⟩, (List.forall_mem_cons.mpr ⟨⟨_, cm_g20, kt_20_ok.nS kv_sf kt_20_s 6⟩, (List.forall_mem_cons.mpr ⟨⟨_, cm_g22, kt_22_ok.nS kv_sf kt_22_s 6⟩, (List.forall_mem_cons.mpr ⟨⟨_, cm_g150, kt_320_ok.nS kv_sf kt_320_s 6⟩, (List.forall_mem_cons.mpr ⟨⟨_, cm_g151, kt_321_ok.nS kv_sf kt_321_s 6⟩, (List.forall_mem_cons.mpr ⟨⟨_, cm_g29, kt_89_ok.nS kv_sf kt_89_s 6⟩, (List.forall_mem_cons.mpr ⟨⟨_, cm_g150, kt_323_ok.nS kv_sf kt_323_s 6⟩, (List.forall_mem_cons.mpr ⟨⟨_, cm_g151, kt_324_ok.nS kv_sf kt_324_s 6⟩, (List.forall_mem_cons.mpr ⟨⟨_, cm_g150, kt_327_ok.nS kv_sf kt_327_s 6⟩, (List.forall_mem_cons.mpr ⟨⟨_, cm_g151, kt_328_ok.nS kv_sf kt_328_s 6⟩, (List.forall_mem_cons.mpr ⟨⟨_, cm_g150, kt_330_ok.nS kv_sf kt_330_s 6⟩, (List.forall_mem_cons.mpr ⟨⟨_, cm_g151, kt_331_ok.nS kv_sf kt_331_s 6⟩, (List.forall_mem_cons.mpr ⟨⟨_, cm_g150, kt_333_ok.nS kv_sf kt_333_s 6⟩, (List.forall_mem_cons.mpr ⟨⟨_, cm_g151, kt_334_ok.nS kv_sf kt_334_s 6⟩, (List.forall_mem_cons.mpr ⟨⟨_, cm_g145, kt_303_ok.nS kv_sf kt_303_s 6⟩, (List.forall_mem_cons.mpr ⟨⟨_, cm_g146, kt_304_ok.nS kv_sf kt_304_s 6⟩, (List.forall_mem_cons.mpr ⟨⟨_, cm_g29, kt_35_ok.nS kv_sf kt_35_s 6⟩, (List.forall_mem_cons.mpr ⟨⟨_, cm_g145, kt_306_ok.nS kv_sf kt_306_s 6⟩, (List.forall_mem_cons.mpr ⟨⟨_, cm_g146, kt_307_ok.nS kv_sf kt_307_s 6⟩, (List.forall_mem_cons.mpr ⟨⟨_, cm_g145, kt_310_ok.nS kv_sf kt_310_s 6⟩, (fun _ h => by cases h)⟩)⟩)⟩)⟩)⟩)⟩)⟩)⟩)⟩)⟩)⟩)⟩)⟩)⟩)⟩)⟩)⟩)⟩)⟩)⟩)
theorem klw_h6_1 {l : Launch} : ∀ q ∈ ([(146, kt_312), (145, kt_314), (146, kt_315), (145, kt_317), (146, kt_318), (142, kt_282), (143, kt_283), (142, kt_285), (143, kt_286), (142, kt_288), (143, kt_289), (142, kt_291), (143, kt_292), (142, kt_294), (143, kt_295), (142, kt_297), (143, kt_298), (142, kt_300), (143, kt_301), (139, kt_261)] : List (Nat × ck_Ct)), ∃ M' : ck_MM, cm_ms[q.1]? = some M' ∧ ck_Ok l kv_tab 6 M'.1 q.2 := (List.forall_mem_cons.mpr ⟨⟨_, cm_g146, kt_312_ok.nS kv_sf kt_312_s 6⟩, (List.forall_mem_cons.mpr ⟨⟨_, cm_g145, kt_314_ok.nS kv_sf kt_314_s 6⟩, (List.forall_mem_cons.mpr ⟨⟨_, cm_g146, kt_315_ok.nS kv_sf kt_315_s 6⟩, (List.forall_mem_cons.mpr ⟨⟨_, cm_g145, kt_317_ok.nS kv_sf kt_317_s 6⟩, (List.forall_mem_cons.mpr ⟨⟨_, cm_g146, kt_318_ok.nS kv_sf kt_318_s 6⟩, (List.forall_mem_cons.mpr ⟨⟨_, cm_g142, kt_282_ok.nS kv_sf kt_282_s 6⟩, (List.forall_mem_cons.mpr ⟨⟨_, cm_g143, kt_283_ok.nS kv_sf kt_283_s 6⟩, (List.forall_mem_cons.mpr ⟨⟨_, cm_g142, kt_285_ok.nS kv_sf kt_285_s 6⟩, (List.forall_mem_cons.mpr ⟨⟨_, cm_g143, kt_286_ok.nS kv_sf kt_286_s 6⟩, (List.forall_mem_cons.mpr ⟨⟨_, cm_g142, kt_288_ok.nS kv_sf kt_288_s 6⟩, (List.forall_mem_cons.mpr ⟨⟨_, cm_g143, kt_289_ok.nS kv_sf kt_289_s 6⟩, (List.forall_mem_cons.mpr ⟨⟨_, cm_g142, kt_291_ok.nS kv_sf kt_291_s 6⟩, (List.forall_mem_cons.mpr ⟨⟨_, cm_g143, kt_292_ok.nS kv_sf kt_292_s 6⟩, (List.forall_mem_cons.mpr ⟨⟨_, cm_g142, kt_294_ok.nS kv_sf kt_294_s 6⟩, (List.forall_mem_cons.mpr ⟨⟨_, cm_g143, kt_295_ok.nS kv_sf kt_295_s 6⟩, (List.forall_mem_cons.mpr ⟨⟨_, cm_g142, kt_297_ok.nS kv_sf kt_297_s 6⟩, (List.forall_mem_cons.mpr ⟨⟨_, cm_g143, kt_298_ok.nS kv_sf kt_298_s 6⟩, (List.forall_mem_cons.mpr ⟨⟨_, cm_g142, kt_300_ok.nS kv_sf kt_300_s 6⟩, (List.forall_mem_cons.mpr ⟨⟨_, cm_g143, kt_301_ok.nS kv_sf kt_301_s 6⟩, (List.forall_mem_cons.mpr ⟨⟨_, cm_g139, kt_261_ok.nS kv_sf kt_261_s 6⟩, (fun _ h => by cases h)⟩)⟩)⟩)⟩)⟩)⟩)⟩)⟩)⟩)⟩)⟩)⟩)⟩)⟩)⟩)⟩)⟩)⟩)⟩)⟩)
theorem klw_h6_2 {l : Launch} : ∀ q ∈ ([(140, kt_262), (139, kt_264), (140, kt_265), (139, kt_267), (140, kt_268), (139, kt_270), (140, kt_271), (139, kt_273), (140, kt_274), (139, kt_276), (140, kt_277), (139, kt_279), (140, kt_280), (136, kt_241), (137, kt_243), (136, kt_246), (137, kt_248), (136, kt_250), (137, kt_251), (136, kt_253)] : List (Nat × ck_Ct)), ∃ M' : ck_MM, cm_ms[q.1]? = some M' ∧ ck_Ok l kv_tab 6 M'.1 q.2 := (List.forall_mem_cons.mpr ⟨⟨_, cm_g140, kt_262_ok.nS kv_sf kt_262_s 6⟩, (List.forall_mem_cons.mpr ⟨⟨_, cm_g139, kt_264_ok.nS kv_sf kt_264_s 6⟩, (List.forall_mem_cons.mpr ⟨⟨_, cm_g140, kt_265_ok.nS kv_sf kt_265_s 6⟩, (List.forall_mem_cons.mpr ⟨⟨_, cm_g139, kt_267_ok.nS kv_sf kt_267_s 6⟩, (List.forall_mem_cons.mpr ⟨⟨_, cm_g140, kt_268_ok.nS kv_sf kt_268_s 6⟩, (List.forall_mem_cons.mpr ⟨⟨_, cm_g139, kt_270_ok.nS kv_sf kt_270_s 6⟩, (List.forall_mem_cons.mpr ⟨⟨_, cm_g140, kt_271_ok.nS kv_sf kt_271_s 6⟩, (List.forall_mem_cons.mpr ⟨⟨_, cm_g139, kt_273_ok.nS kv_sf kt_273_s 6⟩, (List.forall_mem_cons.mpr ⟨⟨_, cm_g140, kt_274_ok.nS kv_sf kt_274_s 6⟩, (List.forall_mem_cons.mpr ⟨⟨_, cm_g139, kt_276_ok.nS kv_sf kt_276_s 6⟩, (List.forall_mem_cons.mpr ⟨⟨_, cm_g140, kt_277_ok.nS kv_sf kt_277_s 6⟩, (List.forall_mem_cons.mpr ⟨⟨_, cm_g139, kt_279_ok.nS kv_sf kt_279_s 6⟩, (List.forall_mem_cons.mpr ⟨⟨_, cm_g140, kt_280_ok.nS kv_sf kt_280_s 6⟩, (List.forall_mem_cons.mpr ⟨⟨_, cm_g136, kt_241_ok.nS kv_sf kt_241_s 6⟩, (List.forall_mem_cons.mpr ⟨⟨_, cm_g137, kt_243_ok.nS kv_sf kt_243_s 6⟩, (List.forall_mem_cons.mpr ⟨⟨_, cm_g136, kt_246_ok.nS kv_sf kt_246_s 6⟩, (List.forall_mem_cons.mpr ⟨⟨_, cm_g137, kt_248_ok.nS kv_sf kt_248_s 6⟩, (List.forall_mem_cons.mpr ⟨⟨_, cm_g136, kt_250_ok.nS kv_sf kt_250_s 6⟩, (List.forall_mem_cons.mpr ⟨⟨_, cm_g137, kt_251_ok.nS kv_sf kt_251_s 6⟩, (List.forall_mem_cons.mpr ⟨⟨_, cm_g136, kt_253_ok.nS kv_sf kt_253_s 6⟩, (fun _ h => by cases h)⟩)⟩)⟩)⟩)⟩)⟩)⟩)⟩)⟩)⟩)⟩)⟩)⟩)⟩)⟩)⟩)⟩)⟩)⟩)⟩)
theorem klw_h6_3 {l : Launch} : ∀ q ∈ ([(137, kt_254), (136, kt_257), (137, kt_259), (132, kt_213), (133, kt_215), (29, kt_216), (132, kt_220), (133, kt_222), (29, kt_223), (132, kt_225), (133, kt_226), (29, kt_227), (132, kt_229), (133, kt_230), (29, kt_231), (132, kt_233), (133, kt_234), (29, kt_235), (132, kt_237), (133, kt_238)] : List (Nat × ck_Ct)), ∃ M' : ck_MM, cm_ms[q.1]? = some M' ∧ ck_Ok l kv_tab 6 M'.1 q.2 := (List.forall_mem_cons.mpr ⟨⟨_, cm_g137, kt_254_ok.nS kv_sf kt_254_s 6⟩, (List.forall_mem_cons.mpr ⟨⟨_, cm_g136, kt_257_ok.nS kv_sf kt_257_s 6⟩, (List.forall_mem_cons.mpr ⟨⟨_, cm_g137, kt_259_ok.nS kv_sf kt_259_s 6⟩, (List.forall_mem_cons.mpr ⟨⟨_, cm_g132, kt_213_ok.nS kv_sf kt_213_s 6⟩, (List.forall_mem_cons.mpr ⟨⟨_, cm_g133, kt_215_ok.nS kv_sf kt_215_s 6⟩, (List.forall_mem_cons.mpr ⟨⟨_, cm_g29, kt_216_ok.nS kv_sf kt_216_s 6⟩, (List.forall_mem_cons.mpr ⟨⟨_, cm_g132, kt_220_ok.nS kv_sf kt_220_s 6⟩, (List.forall_mem_cons.mpr ⟨⟨_, cm_g133, kt_222_ok.nS kv_sf kt_222_s 6⟩, (List.forall_mem_cons.mpr ⟨⟨_, cm_g29, kt_223_ok.nS kv_sf kt_223_s 6⟩, (List.forall_mem_cons.mpr ⟨⟨_, cm_g132, kt_225_ok.nS kv_sf kt_225_s 6⟩, (List.forall_mem_cons.mpr ⟨⟨_, cm_g133, kt_226_ok.nS kv_sf kt_226_s 6⟩, (List.forall_mem_cons.mpr ⟨⟨_, cm_g29, kt_227_ok.nS kv_sf kt_227_s 6⟩, (List.forall_mem_cons.mpr ⟨⟨_, cm_g132, kt_229_ok.nS kv_sf kt_229_s 6⟩, (List.forall_mem_cons.mpr ⟨⟨_, cm_g133, kt_230_ok.nS kv_sf kt_230_s 6⟩, (List.forall_mem_cons.mpr ⟨⟨_, cm_g29, kt_231_ok.nS kv_sf kt_231_s 6⟩, (List.forall_mem_cons.mpr ⟨⟨_, cm_g132, kt_233_ok.nS kv_sf kt_233_s 6⟩, (List.forall_mem_cons.mpr ⟨⟨_, cm_g133, kt_234_ok.nS kv_sf kt_234_s 6⟩, (List.forall_mem_cons.mpr ⟨⟨_, cm_g29, kt_235_ok.nS kv_sf kt_235_s 6⟩, (List.forall_mem_cons.mpr ⟨⟨_, cm_g132, kt_237_ok.nS kv_sf kt_237_s 6⟩, (List.forall_mem_cons.mpr ⟨⟨_, cm_g133, kt_238_ok.nS kv_sf kt_238_s 6⟩, (fun _ h => by cases h)⟩)⟩)⟩)⟩)⟩)⟩)⟩)⟩)⟩)⟩)⟩)⟩)⟩)⟩)⟩)⟩)⟩)⟩)⟩)⟩)
theorem klw_h6_4 {l : Launch} : ∀ q ∈ ([(128, kt_193), (129, kt_194), (128, kt_197), (129, kt_199), (128, kt_201), (129, kt_202), (128, kt_204), (129, kt_205), (128, kt_207), (129, kt_208), (128, kt_210), (129, kt_211), (65, kt_86), (66, kt_88), (65, kt_91), (66, kt_92), (65, kt_94), (66, kt_96), (65, kt_130), (66, kt_161)] : List (Nat × ck_Ct)), ∃ M' : ck_MM, cm_ms[q.1]? = some M' ∧ ck_Ok l kv_tab 6 M'.1 q.2 := (List.forall_mem_cons.mpr ⟨⟨_, cm_g128, kt_193_ok.nS kv_sf kt_193_s 6⟩, (List.forall_mem_cons.mpr ⟨⟨_, cm_g129, kt_194_ok.nS kv_sf kt_194_s 6⟩, (List.forall_mem_cons.mpr ⟨⟨_, cm_g128, kt_197_ok.nS kv_sf kt_197_s 6⟩, (List.forall_mem_cons.mpr ⟨⟨_, cm_g129, kt_199_ok.nS kv_sf kt_199_s 6⟩, (List.forall_mem_cons.mpr ⟨⟨_, cm_g128, kt_201_ok.nS kv_sf kt_201_s 6⟩, (List.forall_mem_cons.mpr ⟨⟨_, cm_g129, kt_202_ok.nS kv_sf kt_202_s 6⟩, (List.forall_mem_cons.mpr ⟨⟨_, cm_g128, kt_204_ok.nS kv_sf kt_204_s 6⟩, (List.forall_mem_cons.mpr ⟨⟨_, cm_g129, kt_205_ok.nS kv_sf kt_205_s 6⟩, (List.forall_mem_cons.mpr ⟨⟨_, cm_g128, kt_207_ok.nS kv_sf kt_207_s 6⟩, (List.forall_mem_cons.mpr ⟨⟨_, cm_g129, kt_208_ok.nS kv_sf kt_208_s 6⟩, (List.forall_mem_cons.mpr ⟨⟨_, cm_g128, kt_210_ok.nS kv_sf kt_210_s 6⟩, (List.forall_mem_cons.mpr ⟨⟨_, cm_g129, kt_211_ok.nS kv_sf kt_211_s 6⟩, (List.forall_mem_cons.mpr ⟨⟨_, cm_g65, kt_86_ok.nS kv_sf kt_86_s 6⟩, (List.forall_mem_cons.mpr ⟨⟨_, cm_g66, kt_88_ok.nS kv_sf kt_88_s 6⟩, (List.forall_mem_cons.mpr ⟨⟨_, cm_g65, kt_91_ok.nS kv_sf kt_91_s 6⟩, (List.forall_mem_cons.mpr ⟨⟨_, cm_g66, kt_92_ok.nS kv_sf kt_92_s 6⟩, (List.forall_mem_cons.mpr ⟨⟨_, cm_g65, kt_94_ok.nS kv_sf kt_94_s 6⟩, (List.forall_mem_cons.mpr ⟨⟨_, cm_g66, kt_96_ok.nS kv_sf kt_96_s 6⟩, (List.forall_mem_cons.mpr ⟨⟨_, cm_g65, kt_130_ok.nS kv_sf kt_130_s 6⟩, (List.forall_mem_cons.mpr ⟨⟨_, cm_g66, kt_161_ok.nS kv_sf kt_161_s 6⟩, (fun _ h => by cases h)⟩)⟩)⟩)⟩)⟩)⟩)⟩)⟩)⟩)⟩)⟩)⟩)⟩)⟩)⟩)⟩)⟩)⟩)⟩)⟩)
theorem klw_h6_5 {l : Launch} : ∀ q ∈ ([(65, kt_163), (66, kt_164), (65, kt_166), (66, kt_167), (65, kt_169), (66, kt_170), (65, kt_172), (66, kt_173), (65, kt_175), (66, kt_176), (65, kt_178), (66, kt_179), (65, kt_181), (66, kt_182), (65, kt_184), (66, kt_185), (65, kt_187), (66, kt_188), (65, kt_190), (66, kt_191)] : List (Nat × ck_Ct)), ∃ M' : ck_MM, cm_ms[q.1]? = some M' ∧ ck_Ok l kv_tab 6 M'.1 q.2 := (List.forall_mem_cons.mpr ⟨⟨_, cm_g65, kt_163_ok.nS kv_sf kt_163_s 6⟩, (List.forall_mem_cons.mpr ⟨⟨_, cm_g66, kt_164_ok.nS kv_sf kt_164_s 6⟩, (List.forall_mem_cons.mpr ⟨⟨_, cm_g65, kt_166_ok.nS kv_sf kt_166_s 6⟩, (List.forall_mem_cons.mpr ⟨⟨_, cm_g66, kt_167_ok.nS kv_sf kt_167_s 6⟩, (List.forall_mem_cons.mpr ⟨⟨_, cm_g65, kt_169_ok.nS kv_sf kt_169_s 6⟩, (List.forall_mem_cons.mpr ⟨⟨_, cm_g66, kt_170_ok.nS kv_sf kt_170_s 6⟩, (List.forall_mem_cons.mpr ⟨⟨_, cm_g65, kt_172_ok.nS kv_sf kt_172_s 6⟩, (List.forall_mem_cons.mpr ⟨⟨_, cm_g66, kt_173_ok.nS kv_sf kt_173_s 6⟩, (List.forall_mem_cons.mpr ⟨⟨_, cm_g65, kt_175_ok.nS kv_sf kt_175_s 6⟩, (List.forall_mem_cons.mpr ⟨⟨_, cm_g66, kt_176_ok.nS kv_sf kt_176_s 6⟩, (List.forall_mem_cons.mpr ⟨⟨_, cm_g65, kt_178_ok.nS kv_sf kt_178_s 6⟩, (List.forall_mem_cons.mpr ⟨⟨_, cm_g66, kt_179_ok.nS kv_sf kt_179_s 6⟩, (List.forall_mem_cons.mpr ⟨⟨_, cm_g65, kt_181_ok.nS kv_sf kt_181_s 6⟩, (List.forall_mem_cons.mpr ⟨⟨_, cm_g66, kt_182_ok.nS kv_sf kt_182_s 6⟩, (List.forall_mem_cons.mpr ⟨⟨_, cm_g65, kt_184_ok.nS kv_sf kt_184_s 6⟩, (List.forall_mem_cons.mpr ⟨⟨_, cm_g66, kt_185_ok.nS kv_sf kt_185_s 6⟩, (List.forall_mem_cons.mpr ⟨⟨_, cm_g65, kt_187_ok.nS kv_sf kt_187_s 6⟩, (List.forall_mem_cons.mpr ⟨⟨_, cm_g66, kt_188_ok.nS kv_sf kt_188_s 6⟩, (List.forall_mem_cons.mpr ⟨⟨_, cm_g65, kt_190_ok.nS kv_sf kt_190_s 6⟩, (List.forall_mem_cons.mpr ⟨⟨_, cm_g66, kt_191_ok.nS kv_sf kt_191_s 6⟩, (fun _ h => by cases h)⟩)⟩)⟩)⟩)⟩)⟩)⟩)⟩)⟩)⟩)⟩)⟩)⟩)⟩)⟩)⟩)⟩)⟩)⟩)⟩)
theorem klw_h6_6 {l : Launch} : ∀ q ∈ ([(62, kt_83), (63, kt_84), (59, kt_80), (60, kt_81), (56, kt_66), (57, kt_68), (56, kt_71), (57, kt_73), (56, kt_76), (57, kt_78), (53, kt_62), (54, kt_63), (50, kt_59), (51, kt_60), (47, kt_56), (48, kt_57), (45, kt_51), (46, kt_52), (46, kt_53), (45, kt_55)] : List (Nat × ck_Ct)), ∃ M' : ck_MM, cm_ms[q.1]? = some M' ∧ ck_Ok l kv_tab 6 M'.1 q.2 := (List.forall_mem_cons.mpr ⟨⟨_, cm_g62, kt_83_ok.nS kv_sf kt_83_s 6⟩, (List.forall_mem_cons.mpr ⟨⟨_, cm_g63, kt_84_ok.nS kv_sf kt_84_s 6⟩, (List.forall_mem_cons.mpr ⟨⟨_, cm_g59, kt_80_ok.nS kv_sf kt_80_s 6⟩, (List.forall_mem_cons.mpr ⟨⟨_, cm_g60, kt_81_ok.nS kv_sf kt_81_s 6⟩, (List.forall_mem_cons.mpr ⟨⟨_, cm_g56, kt_66_ok.nS kv_sf kt_66_s 6⟩, (List.forall_mem_cons.mpr ⟨⟨_, cm_g57, kt_68_ok.nS kv_sf kt_68_s 6⟩, (List.forall_mem_cons.mpr ⟨⟨_, cm_g56, kt_71_ok.nS kv_sf kt_71_s 6⟩, (List.forall_mem_cons.mpr ⟨⟨_, cm_g57, kt_73_ok.nS kv_sf kt_73_s 6⟩, (List.forall_mem_cons.mpr ⟨⟨_, cm_g56, kt_76_ok.nS kv_sf kt_76_s 6⟩, (List.forall_mem_cons.mpr ⟨⟨_, cm_g57, kt_78_ok.nS kv_sf kt_78_s 6⟩, (List.forall_mem_cons.mpr ⟨⟨_, cm_g53, kt_62_ok.nS kv_sf kt_62_s 6⟩, (List.forall_mem_cons.mpr ⟨⟨_, cm_g54, kt_63_ok.nS kv_sf kt_63_s 6⟩, (List.forall_mem_cons.mpr ⟨⟨_, cm_g50, kt_59_ok.nS kv_sf kt_59_s 6⟩, (List.forall_mem_cons.mpr ⟨⟨_, cm_g51, kt_60_ok.nS kv_sf kt_60_s 6⟩, (List.forall_mem_cons.mpr ⟨⟨_, cm_g47, kt_56_ok.nS kv_sf kt_56_s 6⟩, (List.forall_mem_cons.mpr ⟨⟨_, cm_g48, kt_57_ok.nS kv_sf kt_57_s 6⟩, (List.forall_mem_cons.mpr ⟨⟨_, cm_g45, kt_51_ok.nS kv_sf kt_51_s 6⟩, (List.forall_mem_cons.mpr ⟨⟨_, cm_g46, kt_52_ok.nS kv_sf kt_52_s 6⟩, (List.forall_mem_cons.mpr ⟨⟨_, cm_g46, kt_53_ok.nS kv_sf kt_53_s 6⟩, (List.forall_mem_cons.mpr ⟨⟨_, cm_g45, kt_55_ok.nS kv_sf kt_55_s 6⟩, (fun _ h => by cases h)⟩)⟩)⟩)⟩)⟩)⟩)⟩)⟩)⟩)⟩)⟩)⟩)⟩)⟩)⟩)⟩)⟩)⟩)⟩)⟩)
theorem klw_h6_7 {l : Launch} : ∀ q ∈ ([(42, kt_48), (43, kt_49), (40, kt_46), (41, kt_47), (37, kt_43), (38, kt_44), (34, kt_40), (35, kt_41), (31, kt_37), (32, kt_38), (25, kt_31), (28, kt_34)] : List (Nat × ck_Ct)), ∃ M' : ck_MM, cm_ms[q.1]? = some M' ∧ ck_Ok l kv_tab 6 M'.1 q.2 := (List.forall_mem_cons.mpr ⟨⟨_, cm_g42, kt_48_ok.nS kv_sf kt_48_s 6⟩, (List.forall_mem_cons.mpr ⟨⟨_, cm_g43, kt_49_ok.nS kv_sf kt_49_s 6⟩, (List.forall_mem_cons.mpr ⟨⟨_, cm_g40, kt_46_ok.nS kv_sf kt_46_s 6⟩, (List.forall_mem_cons.mpr ⟨⟨_, cm_g41, kt_47_ok.nS kv_sf kt_47_s 6⟩, (List.forall_mem_cons.mpr ⟨⟨_, cm_g37, kt_43_ok.nS kv_sf kt_43_s 6⟩, (List.forall_mem_cons.mpr ⟨⟨_, cm_g38, kt_44_ok.nS kv_sf kt_44_s 6⟩, (List.forall_mem_cons.mpr ⟨⟨_, cm_g34, kt_40_ok.nS kv_sf kt_40_s 6⟩, (List.forall_mem_cons.mpr ⟨⟨_, cm_g35, kt_41_ok.nS kv_sf kt_41_s 6⟩, (List.forall_mem_cons.mpr ⟨⟨_, cm_g31, kt_37_ok.nS kv_sf kt_37_s 6⟩, (List.forall_mem_cons.mpr ⟨⟨_, cm_g32, kt_38_ok.nS kv_sf kt_38_s 6⟩, (List.forall_mem_cons.mpr ⟨⟨_, cm_g25, kt_31_ok.nS kv_sf kt_31_s 6⟩, (List.forall_mem_cons.mpr ⟨⟨_, cm_g28, kt_34_ok.nS kv_sf kt_34_s 6⟩, (fun _ h => by cases h)⟩)⟩)⟩)⟩)⟩)⟩)⟩)⟩)⟩)⟩)⟩)⟩)
theorem klw_h6 {l : Launch} : ∀ q ∈ klw_c6, ∃ M' : ck_MM, cm_ms[q.1]? = some M' ∧ ck_Ok l kv_tab 6 M'.1 q.2 := (List.forall_mem_append.mpr ⟨klw_h6_0, (List.forall_mem_append.mpr ⟨klw_h6_1, (List.forall_mem_append.mpr ⟨klw_h6_2, (List.forall_mem_append.mpr ⟨klw_h6_3, (List.forall_mem_append.mpr ⟨klw_h6_4, (List.forall_mem_append.mpr ⟨klw_h6_5, (List.forall_mem_append.mpr ⟨klw_h6_6, klw_h6_7⟩)⟩)⟩)⟩)⟩)⟩)⟩)
