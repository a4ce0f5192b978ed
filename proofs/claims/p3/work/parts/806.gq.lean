/-! ===== the calls that two contracts tell ===== -/
def gq_0_1_K : ck_Ct := ([], gs_29.2.2, [], .inl none, (3, 49, 0, 0))
def gq_0_1_y : ck_N := (186, ([(0, (gv_r 1 0)), (1, (gv_r 1 1)), (2, (gv_r 1 12)), (3, (gv_r 1 16)), (4, (gv_g 1 2556 149 0))], [(gv_i 0 0)], [gc_201, gc_71, gc_192, ((2, 0), []), ((2, 0), []), ((2, 0), []), ((2, 0), []), ((2, 0), []), gc_16, gc_16, gc_16, gc_16, gc_195, ((2, 0), []), gc_28, gc_29, ((1, 1), [gv_L])]), 0, 0)
set_option maxRecDepth 100000 in
theorem gq_0_1_m : gck_cal ce_11 gv_tab cm_ms [(120, gt_784)] glw_M gq_0_1_K [] gt_784.2.2 (.invokestatic 98) 3 183 gs_29 0 0 = some [gq_0_1_y] := by rfl
theorem gq_0_1_e : ck_leA gq_0_1_y.2.1 gp_i0_2_B = true := by decide +kernel
def gq_0_2_K : ck_Ct := ([], gs_30.2.2, [], .inl none, (2, 31, 0, 0))
def gq_0_2_y : ck_N := (226, ([(0, (gv_r 1 0)), (1, (gv_r 1 1)), (2, (gv_r 1 12)), (3, (gv_r 1 16)), (4, (gv_g 1 2556 149 0)), (5, (gv_i 0 0))], [], [gc_201, gc_71, gc_192, ((2, 0), []), ((2, 0), []), ((2, 0), []), ((2, 0), []), ((2, 0), []), gc_16, gc_16, gc_16, gc_16, gc_202, ((2, 0), []), gc_28, gc_29, ((1, 1), [gv_L])]), 0, 0)
set_option maxRecDepth 100000 in
theorem gq_0_2_m : gck_cal ce_11 gv_tab cm_ms [(174, gt_785)] glw_M gq_0_2_K [] gt_785.2.2 (.invokevirtual 101) 3 223 gs_30 0 0 = some [gq_0_2_y] := by rfl
theorem gq_0_2_e : ck_leA gq_0_2_y.2.1 gp_i0_3_B = true := by decide +kernel
def gq_1_1_K : ck_Ct := ([], gs_31.2.2, [], .inl none, (3, 48, 0, 0))
def gq_1_1_y : ck_N := (246, ([(0, (gv_r 1 0)), (1, (gv_r 1 1)), (2, (gv_r 1 12)), (3, (gv_r 1 16)), (4, (gv_g 1 2556 149 0))], [(gv_i 0 0)], [gc_201, gc_71, gc_192, ((2, 0), []), ((2, 0), []), ((2, 0), []), ((2, 0), []), ((2, 0), []), gc_16, gc_16, gc_16, gc_16, gc_195, ((2, 0), []), gc_28, gc_29, ((1, 1), [gv_L])]), 0, 0)
set_option maxRecDepth 100000 in
theorem gq_1_1_m : gck_cal ce_11 gv_tab cm_ms [(113, gt_801)] glw_M gq_1_1_K [] gt_801.2.2 (.invokestatic 102) 3 243 gs_31 0 0 = some [gq_1_1_y] := by rfl
theorem gq_1_1_e : ck_leA gq_1_1_y.2.1 gp_i1_2_B = true := by decide +kernel
def gq_1_2_K : ck_Ct := ([], gs_32.2.2, [], .inl none, (2, 30, 0, 0))
def gq_1_2_y : ck_N := (264, ([(0, (gv_r 1 0)), (1, (gv_r 1 1)), (2, (gv_r 1 12)), (3, (gv_r 1 16)), (4, (gv_g 1 2556 149 0)), (5, (gv_i 0 0))], [gv_L], [gc_201, gc_71, gc_192, ((2, 0), []), ((2, 0), []), ((2, 0), []), ((2, 0), []), ((2, 0), []), gc_16, gc_16, gc_16, gc_16, gc_202, ((2, 0), []), gc_28, gc_29, ((1, 1), [gv_L])]), 0, 0)
set_option maxRecDepth 100000 in
theorem gq_1_2_m : gck_cal ce_11 gv_tab cm_ms [(148, gt_802)] glw_M gq_1_2_K [] gt_802.2.2 (.invokevirtual 105) 3 261 gs_32 0 0 = some [gq_1_2_y] := by rfl
def gs_39 : ck_A := ([(0, (gv_r 1 0)), (1, (gv_r 1 1)), (2, (gv_r 1 12)), (3, (gv_r 1 16)), (4, (gv_g 1 2556 149 0)), (5, (gv_i 0 0)), (6, gv_L)], [(gv_r 1 12)], [gc_201, gc_71, gc_192, ((2, 0), []), ((2, 0), []), ((2, 0), []), ((2, 0), []), ((2, 0), []), gc_16, gc_16, gc_16, gc_16, gc_202, ((2, 0), []), gc_28, gc_29, ((1, 1), [gv_L])])
def gq_1_3_K : ck_Ct := ([], gs_39.2.2, [], .inl none, (1, 12, 0, 0))
def gq_1_3_y : ck_N := (270, ([(0, (gv_r 1 0)), (1, (gv_r 1 1)), (2, (gv_r 1 12)), (3, (gv_r 1 16)), (4, (gv_g 1 2556 149 0)), (5, (gv_i 0 0)), (6, gv_L)], [(gv_i 0 0)], [gc_201, gc_71, gc_192, ((2, 0), []), ((2, 0), []), ((2, 0), []), ((2, 0), []), ((2, 0), []), gc_16, gc_16, gc_16, gc_16, gc_202, ((2, 0), []), gc_28, gc_29, ((1, 1), [gv_L])]), 0, 0)
set_option maxRecDepth 100000 in
theorem gq_1_3_m : gck_cal ce_11 gv_tab cm_ms [(188, gt_789)] glw_M gq_1_3_K [] gt_789.2.2 (.invokevirtual 106) 3 267 gs_39 0 0 = some [gq_1_3_y] := by rfl
def gp_i1_3_c : List (Nat × ck_Kt) := []
theorem gp_i1_3_h {l : Launch} : ∀ q ∈ gp_i1_3_c, ∃ M' : ck_MM, cm_ms[q.1]? = some M' ∧ gck_Ok l gv_tab (1, 2561) M'.1 q.2 := (fun _ h => by cases h)
def gp_i1_3_B : ck_A := ([(0, (gv_r 1 0)), (1, (gv_r 1 1)), (2, (gv_r 1 12)), (3, (gv_r 1 16)), (4, (gv_g 1 2556 149 0)), (5, (gv_i 0 0)), (6, gv_L)], [], [gc_201, gc_71, gc_192, ((2, 0), []), ((2, 0), []), ((2, 0), []), ((2, 0), []), ((2, 0), []), gc_16, gc_16, gc_16, gc_16, gc_202, ((2, 0), []), gc_28, gc_29, ((1, 1), [gv_L])])
def gp_i1_3_K : ck_Ct := ([], gp_i1_3_B.2.2, [], .inl none, (0, 0, 0, 0))
def gp_i1_3_w : List Nat := []
def gp_i1_3_n : List (Nat × ck_An) := [(33, (gs_7, (0, []), 0, 0))]
def gp_i1_3_l : List (List ck_C × (Option ck_V ⊕ Nat)) := []
theorem gp_i1_3_m : gck_ex ce_11 gv_tab (1, 2561) true cm_ms gp_i1_3_c [] kco_law glw_M gp_i1_3_K gp_i1_3_l gp_i1_3_w [] gp_i1_3_n none 6 (293, gp_i1_3_B, 0, 0) = true := by decide +kernel
theorem gq_1_3_e : ck_leA (gq_1_3_y.2.1.1, [], gq_1_3_y.2.1.2.2) gp_i1_3_B = true := by decide +kernel
theorem gq_1_2_e : ck_leA (gq_1_2_y.2.1.1, [], gq_1_2_y.2.1.2.2) (gs_39.1.filter (fun q => !(q.1 == 6)), [], gs_39.2.2) = true := by decide +kernel
def gq_2_1_K : ck_Ct := ([], gs_33.2.2, [], .inl none, (5, 157, 0, 0))
def gq_2_1_y : ck_N := (318, ([(0, (gv_r 1 0)), (1, (gv_r 1 1)), (2, (gv_r 1 12)), (3, (gv_r 1 16)), (4, (gv_g 1 2556 149 0))], [(gv_i 0 0)], [gc_205, gc_71, gc_192, ((2, 0), []), ((2, 0), []), ((2, 0), []), ((2, 0), []), ((2, 0), []), gc_16, gc_16, gc_16, gc_16, gc_195, ((2, 0), []), gc_28, gc_29, ((1, 1), [gv_L])]), 0, 0)
set_option maxRecDepth 100000 in
theorem gq_2_1_m : gck_cal ce_11 gv_tab cm_ms [(106, gt_826)] glw_M gq_2_1_K [] gt_826.2.2 (.invokestatic 110) 3 315 gs_33 0 0 = some [gq_2_1_y] := by rfl
theorem gq_2_1_e : ck_leA gq_2_1_y.2.1 gp_i2_2_B = true := by decide +kernel
def gq_2_2_K : ck_Ct := ([], gs_34.2.2, [], .inl none, (5, 79, 0, 0))
def gq_2_2_y : ck_N := (342, ([(0, (gv_r 1 0)), (1, (gv_r 1 1)), (2, (gv_r 1 12)), (3, (gv_r 1 16)), (4, (gv_g 1 2556 149 0)), (5, (gv_i 0 0))], [], [gc_205, gc_71, gc_192, ((2, 0), []), ((2, 0), []), ((2, 0), []), ((2, 0), []), ((2, 0), []), gc_16, gc_16, gc_16, gc_16, gc_202, ((2, 0), []), gc_28, gc_29, ((1, 1), [gv_L])]), 0, 0)
set_option maxRecDepth 100000 in
theorem gq_2_2_m : gck_cal ce_11 gv_tab cm_ms [(128, gt_828)] glw_M gq_2_2_K [] gt_828.2.2 (.invokevirtual 113) 3 339 gs_34 0 0 = some [gq_2_2_y] := by rfl
theorem gq_2_2_e : ck_leA gq_2_2_y.2.1 gp_i2_3_B = true := by decide +kernel
def gq_3_1_K : ck_Ct := ([], gs_35.2.2, [], .inl none, (5, 82, 0, 0))
def gq_3_1_y : ck_N := (367, ([(0, (gv_r 1 0)), (1, (gv_r 1 1)), (2, (gv_r 1 12)), (3, (gv_r 1 16)), (4, (gv_g 1 2556 149 0))], [(gv_i 0 0)], [gc_205, gc_71, gc_192, ((2, 0), []), ((2, 0), []), ((2, 0), []), ((2, 0), []), ((2, 0), []), gc_16, gc_16, gc_16, gc_16, gc_195, ((2, 0), []), gc_28, gc_29, ((1, 1), [gv_L])]), 0, 0)
set_option maxRecDepth 100000 in
theorem gq_3_1_m : gck_cal ce_11 gv_tab cm_ms [(116, gt_853)] glw_M gq_3_1_K [] gt_853.2.2 (.invokestatic 114) 3 364 gs_35 0 0 = some [gq_3_1_y] := by rfl
theorem gq_3_1_e : ck_leA gq_3_1_y.2.1 gp_i3_2_B = true := by decide +kernel
def gq_3_2_K : ck_Ct := ([], gs_36.2.2, [], .inl none, (5, 80, 0, 0))
def gq_3_2_y : ck_N := (391, ([(0, (gv_r 1 0)), (1, (gv_r 1 1)), (2, (gv_r 1 12)), (3, (gv_r 1 16)), (4, (gv_g 1 2556 149 0)), (5, (gv_i 0 0))], [], [gc_205, gc_71, gc_192, ((2, 0), []), ((2, 0), []), ((2, 0), []), ((2, 0), []), ((2, 0), []), gc_16, gc_16, gc_16, gc_16, gc_206, ((2, 0), []), gc_28, gc_29, ((1, 1), [gv_L])]), 0, 0)
set_option maxRecDepth 100000 in
theorem gq_3_2_m : gck_cal ce_11 gv_tab cm_ms [(162, gt_854)] glw_M gq_3_2_K [] gt_854.2.2 (.invokevirtual 116) 3 388 gs_36 0 0 = some [gq_3_2_y] := by rfl
theorem gq_3_2_e : ck_leA gq_3_2_y.2.1 gp_i3_3_B = true := by decide +kernel
def gq_4_1_K : ck_Ct := ([], gs_37.2.2, [], .inl none, (4, 68, 0, 0))
def gq_4_1_y : ck_N := (410, ([(0, (gv_r 1 0)), (1, (gv_r 1 1)), (2, (gv_r 1 12)), (3, (gv_r 1 16)), (4, (gv_g 1 2556 149 0))], [(gv_i 0 0)], [gc_210, gc_71, gc_192, ((2, 0), []), ((2, 0), []), ((2, 0), []), ((2, 0), []), ((2, 0), []), gc_16, gc_16, gc_16, gc_16, gc_195, ((2, 0), []), gc_28, gc_29, ((1, 1), [gv_L])]), 0, 0)
set_option maxRecDepth 100000 in
theorem gq_4_1_m : gck_cal ce_11 gv_tab cm_ms [(111, gt_874)] glw_M gq_4_1_K [] gt_874.2.2 (.invokestatic 117) 3 407 gs_37 0 0 = some [gq_4_1_y] := by rfl
theorem gq_4_1_e : ck_leA gq_4_1_y.2.1 gp_i4_2_B = true := by decide +kernel
def gq_4_2_K : ck_Ct := ([], gs_38.2.2, [], .inl none, (4, 65, 0, 0))
def gq_4_2_y : ck_N := (428, ([(0, (gv_r 1 0)), (1, (gv_r 1 1)), (2, (gv_r 1 12)), (3, (gv_r 1 16)), (4, (gv_g 1 2556 149 0)), (5, (gv_i 0 0))], [], [gc_210, gc_71, gc_192, ((2, 0), []), ((2, 0), []), ((2, 0), []), ((2, 0), []), ((2, 0), []), gc_16, gc_16, gc_16, gc_16, gc_202, ((2, 0), []), gc_28, gc_29, ((1, 1), [gv_L])]), 0, 0)
set_option maxRecDepth 100000 in
theorem gq_4_2_m : gck_cal ce_11 gv_tab cm_ms [(140, gt_876)] glw_M gq_4_2_K [] gt_876.2.2 (.invokevirtual 120) 3 425 gs_38 0 0 = some [gq_4_2_y] := by rfl
theorem gq_4_2_e : ck_leA gq_4_2_y.2.1 gp_i4_3_B = true := by decide +kernel
