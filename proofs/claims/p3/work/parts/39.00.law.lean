/-! ===== the law's pieces ===== -/
def glw_M : ck_M := (x, code, 8, ret, [])
def gp_a0_c : List (Nat × ck_Kt) := [(109, gcl_0)]
theorem gp_a0_h {l : Launch} : ∀ q ∈ gp_a0_c, ∃ M' : ck_MM, cm_ms[q.1]? = some M' ∧ gck_Ok l gv_tab (0, 0) M'.1 q.2 := (List.forall_mem_cons.mpr ⟨⟨_, cm_g109, gcl_0_ok⟩, (fun _ h => by cases h)⟩)
def gp_a0_B : ck_A := ([(0, (gv_r 1 0))], [], [((5, 2), [])])
def gp_a0_K : ck_Ct := ([(gv_r 1 0)], [((5, 2), [])], [], .inl none, (1, 15, 1, 11))
def gp_a0_w : List Nat := []
def gs_0 : ck_A := ([(0, (gv_r 1 0))], [(gv_i 0 0), (gv_r 1 1), (gv_r 1 1)], [((5, 2), []), gc_22])
def gp_a0_n : List (Nat × ck_An) := [(9, (gs_0, (0, []), 1, 11))]
def gp_a0_l : List (List ck_C × (Option ck_V ⊕ Nat)) := []
theorem gp_a0_m : gck_ex ce_11 gv_tab (0, 0) false cm_ms gp_a0_c [] kco_law glw_M gp_a0_K gp_a0_l gp_a0_w [] gp_a0_n none 8 (0, gp_a0_B, 0, 0) = true := by decide +kernel
def gp_b0_c : List (Nat × ck_Kt) := [(109, gcl_0), (0, gt_20)]
theorem gp_b0_h {l : Launch} : ∀ q ∈ gp_b0_c, ∃ M' : ck_MM, cm_ms[q.1]? = some M' ∧ gck_Ok l gv_tab (0, 0) M'.1 q.2 := (List.forall_mem_cons.mpr ⟨⟨_, cm_g109, gcl_0_ok⟩, (List.forall_mem_cons.mpr ⟨⟨_, cm_g0, gt_20_ok.wid (Nat.zero_le _) (by decide)⟩, (fun _ h => by cases h)⟩)⟩)
def gp_b0_B : ck_A := ([(0, (gv_r 1 0))], [(gv_i 0 0), (gv_r 1 1), (gv_r 1 1)], [((5, 2), []), gc_22])
def gp_b0_K : ck_Ct := ([], gp_b0_B.2.2, [], .inl none, (6, 94, 524, 14555))
def gp_b0_w : List Nat := [1, 2, 4, 7, 31, 32, 2013]
def gc_191 : ck_C := ((0, 0), [gv_F, (gv_r 2 13), (gv_r 1 2), (gv_r 2 44), (gv_r 2 45), (gv_r 2 31), (gv_r 2 35), (gv_r 2 39), (gv_i 0 0), (gv_i 0 0), gv_F])
def gc_192 : ck_C := ((1, 4), [(gv_r 1 8), (gv_r 1 9), (gv_r 1 10), (gv_r 1 11)])
def gs_1 : ck_A := ([(0, (gv_r 1 0)), (1, (gv_r 1 1))], [(gv_i 0 0), (gv_r 1 12), (gv_r 1 12)], [((5, 2), []), gc_191, gc_192, ((2, 0), []), ((2, 0), []), ((2, 0), []), ((2, 0), []), ((2, 0), []), gc_25, gc_25, gc_25, gc_25, gc_66])
def gp_b0_n : List (Nat × ck_An) := [(22, (gs_1, (0, []), 524, 14555))]
def gp_b0_l : List (List ck_C × (Option ck_V ⊕ Nat)) := []
theorem gp_b0_m : gck_ex ce_11 gv_tab (0, 0) false cm_ms gp_b0_c [] kco_law glw_M gp_b0_K gp_b0_l gp_b0_w [] gp_b0_n none 10 (9, gp_b0_B, 0, 0) = true := by decide +kernel
def gp_c0_c : List (Nat × ck_Kt) := [(126, gt_39)]
theorem gp_c0_h {l : Launch} : ∀ q ∈ gp_c0_c, ∃ M' : ck_MM, cm_ms[q.1]? = some M' ∧ gck_Ok l gv_tab (0, 0) M'.1 q.2 := (List.forall_mem_cons.mpr ⟨⟨_, cm_g126, gt_39_ok.wid (Nat.zero_le _) (by decide)⟩, (fun _ h => by cases h)⟩)
def gp_c0_B : ck_A := ([(0, (gv_r 1 0)), (1, (gv_r 1 1))], [(gv_i 0 0), (gv_r 1 12), (gv_r 1 12)], [((5, 2), []), gc_191, gc_192, ((2, 0), []), ((2, 0), []), ((2, 0), []), ((2, 0), []), ((2, 0), []), gc_25, gc_25, gc_25, gc_25, gc_66])
def gp_c0_K : ck_Ct := ([], gp_c0_B.2.2, [], .inl none, (2, 31, 31, 11619))
def gp_c0_w : List Nat := [1046, 2046]
def gc_193 : ck_C := ((0, 11), [(gv_i 0 0), gv_F, (gv_r 2 46), (gv_r 2 47), (gv_r 2 48), (gv_i 0 0), (gv_r 1 13), (gv_r 2 53), (gv_r 2 63), (gv_r 2 52), (gv_r 2 15), (gv_r 2 16), (gv_i 8 8), (gv_r 2 60), (gv_r 1 14), (gv_r 2 54), (gv_r 2 62), (gv_r 2 62), (gv_i 0 0), (gv_r 2 58), (gv_r 2 58), (gv_r 2 61), (gv_r 2 61), (gv_r 2 61), (gv_r 2 61), (gv_r 2 50), (gv_r 2 50), (gv_r 2 50), (gv_r 1 15), (gv_r 2 51), (gv_r 2 50), (gv_r 2 50), (gv_r 2 59), (gv_r 2 17), (gv_i 0 0), (gv_r 2 55), (gv_r 2 56)])
def gs_2 : ck_A := ([(0, (gv_r 1 0)), (1, (gv_r 1 1))], [(gv_r 1 12)], [((5, 2), []), gc_191, gc_192, ((2, 0), []), ((2, 0), []), ((2, 0), []), ((2, 0), []), ((2, 0), []), gc_25, gc_25, gc_25, gc_25, gc_193, gc_68, gc_28, gc_29])
def gp_c0_n : List (Nat × ck_An) := [(25, (gs_2, (0, []), 31, 11619))]
def gp_c0_l : List (List ck_C × (Option ck_V ⊕ Nat)) := []
theorem gp_c0_m : gck_ex ce_11 gv_tab (0, 0) false cm_ms gp_c0_c [] kco_law glw_M gp_c0_K gp_c0_l gp_c0_w [] gp_c0_n none 4 (22, gp_c0_B, 0, 0) = true := by decide +kernel
def gp_d0_c : List (Nat × ck_Kt) := []
theorem gp_d0_h {l : Launch} : ∀ q ∈ gp_d0_c, ∃ M' : ck_MM, cm_ms[q.1]? = some M' ∧ gck_Ok l gv_tab (0, 0) M'.1 q.2 := (fun _ h => by cases h)
def gc_194 : ck_C := ((0, 11), [(gv_i 0 0), gv_F, (gv_r 2 46), (gv_r 2 47), (gv_r 2 48), (gv_i 0 0), (gv_r 2 49), (gv_r 2 53), (gv_r 2 63), (gv_r 2 52), (gv_r 2 15), (gv_r 2 16), (gv_i 8 8), (gv_r 2 60), (gv_r 1 14), (gv_r 2 54), (gv_r 2 62), (gv_r 2 62), (gv_i 0 0), (gv_r 2 58), (gv_r 2 58), (gv_r 2 61), (gv_r 2 61), (gv_r 2 61), (gv_r 2 61), (gv_r 2 50), (gv_r 2 50), (gv_r 2 50), (gv_r 1 15), (gv_r 2 51), (gv_r 2 50), (gv_r 2 50), (gv_r 2 59), (gv_r 2 17), (gv_i 0 0), (gv_r 2 55), (gv_r 2 56)])
def gp_d0_B : ck_A := ([(0, (gv_r 1 0)), (1, (gv_r 1 1))], [(gv_r 1 12)], [((5, 2), []), gc_191, gc_192, ((2, 0), []), ((2, 0), []), ((2, 0), []), ((2, 0), []), ((2, 0), []), gc_25, gc_25, gc_25, gc_25, gc_194, ((2, 0), []), gc_28, gc_29])
def gp_d0_K : ck_Ct := ([], gp_d0_B.2.2, [], .inl none, (0, 0, 1, 1))
def gp_d0_w : List Nat := []
def gp_d0_n : List (Nat × ck_An) := []
def gp_d0_l : List (List ck_C × (Option ck_V ⊕ Nat)) := [([((2, 0), []), ((2, 0), []), ((2, 0), []), ((2, 0), []), ((2, 0), []), ((2, 0), []), ((2, 0), []), ((2, 0), []), ((2, 0), []), ((2, 0), []), ((2, 0), []), ((2, 0), []), ((2, 0), []), ((2, 0), []), ((2, 0), []), ((2, 0), [])], .inl (some (gv_i 1 1)))]
theorem gp_d0_m : gck_ex ce_11 gv_tab (0, 0) false cm_ms gp_d0_c [] kco_law glw_M gp_d0_K gp_d0_l gp_d0_w [] gp_d0_n none 17 (25, gp_d0_B, 0, 0) = true := by decide +kernel
def gp_a1_c : List (Nat × ck_Kt) := [(109, gcl_1)]
theorem gp_a1_h {l : Launch} : ∀ q ∈ gp_a1_c, ∃ M' : ck_MM, cm_ms[q.1]? = some M' ∧ gck_Ok l gv_tab (1, 2561) M'.1 q.2 := (List.forall_mem_cons.mpr ⟨⟨_, cm_g109, gcl_1_ok⟩, (fun _ h => by cases h)⟩)
def gp_a1_B : ck_A := ([(0, (gv_r 1 0))], [], [((5, 2), [(gv_g (-2147483648) 2147483647 100 0)])])
def gp_a1_K : ck_Ct := ([(gv_r 1 0)], [((5, 2), [gv_F])], [], .inl none, (1, 15, 1, 11))
def gp_a1_w : List Nat := []
def gs_3 : ck_A := ([(0, (gv_r 1 0))], [gv_F, (gv_r 1 1), (gv_r 1 1)], [((5, 2), [gv_F]), gc_22])
def gp_a1_n : List (Nat × ck_An) := [(9, (gs_3, (0, []), 1, 11))]
def gp_a1_l : List (List ck_C × (Option ck_V ⊕ Nat)) := []
theorem gp_a1_m : gck_ex ce_11 gv_tab (1, 2561) false cm_ms gp_a1_c [] kco_law glw_M gp_a1_K gp_a1_l gp_a1_w [] gp_a1_n none 8 (0, gp_a1_B, 0, 0) = true := by decide +kernel
def gp_b1_c : List (Nat × ck_Kt) := [(0, gt_20), (109, gcl_1)]
theorem gp_b1_h {l : Launch} : ∀ q ∈ gp_b1_c, ∃ M' : ck_MM, cm_ms[q.1]? = some M' ∧ gck_Ok l gv_tab (1, 2561) M'.1 q.2 := (List.forall_mem_cons.mpr ⟨⟨_, cm_g0, gt_20_ok.wid (Nat.zero_le _) (by decide)⟩, (List.forall_mem_cons.mpr ⟨⟨_, cm_g109, gcl_1_ok⟩, (fun _ h => by cases h)⟩)⟩)
def gp_b1_B : ck_A := ([(0, (gv_r 1 0))], [gv_F, (gv_r 1 1), (gv_r 1 1)], [((5, 2), [gv_F]), gc_22])
def gp_b1_K : ck_Ct := ([], gp_b1_B.2.2, [], .inl none, (6, 94, 524, 14555))
def gp_b1_w : List Nat := [1, 2, 4, 7, 31, 32, 2013]
def gs_4 : ck_A := ([(0, (gv_r 1 0)), (1, (gv_r 1 1))], [gv_F, (gv_r 1 12), (gv_r 1 12)], [((5, 2), [gv_F]), gc_191, gc_192, ((2, 0), []), ((2, 0), []), ((2, 0), []), ((2, 0), []), ((2, 0), []), gc_25, gc_25, gc_25, gc_25, gc_66])
def gp_b1_n : List (Nat × ck_An) := [(22, (gs_4, (0, []), 524, 14555))]
def gp_b1_l : List (List ck_C × (Option ck_V ⊕ Nat)) := []
theorem gp_b1_m : gck_ex ce_11 gv_tab (1, 2561) false cm_ms gp_b1_c [] kco_law glw_M gp_b1_K gp_b1_l gp_b1_w [] gp_b1_n none 10 (9, gp_b1_B, 0, 0) = true := by decide +kernel
def gp_c1_c : List (Nat × ck_Kt) := [(126, gt_39)]
theorem gp_c1_h {l : Launch} : ∀ q ∈ gp_c1_c, ∃ M' : ck_MM, cm_ms[q.1]? = some M' ∧ gck_Ok l gv_tab (1, 2561) M'.1 q.2 := (List.forall_mem_cons.mpr ⟨⟨_, cm_g126, gt_39_ok.wid (Nat.zero_le _) (by decide)⟩, (fun _ h => by cases h)⟩)
def gp_c1_B : ck_A := ([(0, (gv_r 1 0)), (1, (gv_r 1 1))], [gv_F, (gv_r 1 12), (gv_r 1 12)], [((5, 2), [gv_F]), gc_191, gc_192, ((2, 0), []), ((2, 0), []), ((2, 0), []), ((2, 0), []), ((2, 0), []), gc_25, gc_25, gc_25, gc_25, gc_66])
def gp_c1_K : ck_Ct := ([], gp_c1_B.2.2, [], .inl none, (2, 31, 31, 11619))
def gp_c1_w : List Nat := [1046, 2046]
def gs_5 : ck_A := ([(0, (gv_r 1 0)), (1, (gv_r 1 1))], [(gv_r 1 12)], [((5, 2), [gv_F]), gc_191, gc_192, ((2, 0), []), ((2, 0), []), ((2, 0), []), ((2, 0), []), ((2, 0), []), gc_25, gc_25, gc_25, gc_25, gc_193, gc_68, gc_28, gc_29])
def gp_c1_n : List (Nat × ck_An) := [(25, (gs_5, (0, []), 31, 11619))]
def gp_c1_l : List (List ck_C × (Option ck_V ⊕ Nat)) := []
theorem gp_c1_m : gck_ex ce_11 gv_tab (1, 2561) false cm_ms gp_c1_c [] kco_law glw_M gp_c1_K gp_c1_l gp_c1_w [] gp_c1_n none 4 (22, gp_c1_B, 0, 0) = true := by decide +kernel
def gp_d1_c : List (Nat × ck_Kt) := []
theorem gp_d1_h {l : Launch} : ∀ q ∈ gp_d1_c, ∃ M' : ck_MM, cm_ms[q.1]? = some M' ∧ gck_Ok l gv_tab (1, 2561) M'.1 q.2 := (fun _ h => by cases h)
def gp_d1_B : ck_A := ([(0, (gv_r 1 0)), (1, (gv_r 1 1))], [(gv_r 1 12)], [((5, 2), [gv_F]), gc_191, gc_192, ((2, 0), []), ((2, 0), []), ((2, 0), []), ((2, 0), []), ((2, 0), []), gc_25, gc_25, gc_25, gc_25, gc_194, ((2, 0), []), gc_28, gc_29])
def gp_d1_K : ck_Ct := ([], gp_d1_B.2.2, [], .inl none, (0, 0, 1, 1))
def gp_d1_w : List Nat := []
def gc_195 : ck_C := ((0, 11), [gv_F, gv_F, (gv_r 2 46), (gv_r 2 47), (gv_r 2 48), (gv_i 0 300), (gv_r 2 49), (gv_r 2 53), (gv_r 2 63), (gv_r 2 52), (gv_r 2 15), (gv_r 2 16), gv_F, (gv_r 2 60), (gv_r 1 14), (gv_r 2 54), (gv_r 2 62), (gv_r 2 62), (gv_i 0 8), (gv_r 2 58), (gv_r 2 58), (gv_r 2 61), (gv_r 2 61), (gv_r 2 61), (gv_r 2 61), (gv_r 2 50), (gv_r 2 50), (gv_r 2 50), (gv_r 1 15), (gv_r 2 51), (gv_r 2 50), (gv_r 2 50), (gv_r 2 59), (gv_r 2 17), (gv_i 0 48), (gv_r 2 55), (gv_r 2 56)])
def gs_6 : ck_A := ([(0, (gv_r 1 0)), (1, (gv_r 1 1)), (2, (gv_r 1 12)), (3, (gv_r 1 16)), (4, (gv_i 1 1))], [], [((5, 2), [gv_F]), gc_71, gc_192, ((2, 0), []), ((2, 0), []), ((2, 0), []), ((2, 0), []), ((2, 0), []), gc_16, gc_16, gc_16, gc_16, gc_195, ((2, 0), []), gc_28, gc_29, ((1, 1), [gv_L])])
def gp_d1_n : List (Nat × ck_An) := [(33, (gs_6, (0, []), 1, 1))]
def gp_d1_l : List (List ck_C × (Option ck_V ⊕ Nat)) := []
theorem gp_d1_m : gck_ex ce_11 gv_tab (1, 2561) false cm_ms gp_d1_c [] kco_law glw_M gp_d1_K gp_d1_l gp_d1_w [] gp_d1_n none 9 (25, gp_d1_B, 0, 0) = true := by decide +kernel
def gp_h_c : List (Nat × ck_Kt) := []
theorem gp_h_h {l : Launch} : ∀ q ∈ gp_h_c, ∃ M' : ck_MM, cm_ms[q.1]? = some M' ∧ gck_Ok l gv_tab (1, 2561) M'.1 q.2 := (fun _ h => by cases h)
def gc_196 : ck_C := ((6, 2), [gv_F, (gv_g (-2147483648) 2147483647 144 0), (gv_g (-2147483648) 2147483647 145 0), (gv_g (-2147483648) 2147483647 146 0), (gv_g (-2147483648) 2147483647 147 0)])
def gp_h_B : ck_A := ([(0, (gv_r 1 0)), (1, (gv_r 1 1)), (2, (gv_r 1 12)), (3, (gv_r 1 16)), (4, (gv_g 1 2556 149 0))], [], [gc_196, gc_71, gc_192, ((2, 0), []), ((2, 0), []), ((2, 0), []), ((2, 0), []), ((2, 0), []), gc_16, gc_16, gc_16, gc_16, gc_195, ((2, 0), []), gc_28, gc_29, ((1, 1), [gv_L])])
def gp_h_K : ck_Ct := ([], gp_h_B.2.2, [], .inl none, (0, 0, 0, 0))
def gp_h_w : List Nat := []
def gs_7 : ck_A := ([(0, (gv_r 1 0)), (1, (gv_r 1 1)), (2, (gv_r 1 12)), (3, (gv_r 1 16)), (4, (gv_g 6 2561 149 5))], [], [gc_196, gc_71, gc_192, ((2, 0), []), ((2, 0), []), ((2, 0), []), ((2, 0), []), ((2, 0), []), gc_16, gc_16, gc_16, gc_16, gc_195, ((2, 0), []), gc_28, gc_29, ((1, 1), [gv_L])])
def gs_8 : ck_A := ([(0, (gv_r 1 0)), (1, (gv_r 1 1)), (2, (gv_r 1 12)), (3, (gv_r 1 16)), (4, (gv_g 1 2556 149 0))], [], [gc_196, gc_71, gc_192, ((2, 0), []), ((2, 0), []), ((2, 0), []), ((2, 0), []), ((2, 0), []), gc_16, gc_16, gc_16, gc_16, gc_195, ((2, 0), []), gc_28, gc_29, ((1, 1), [gv_L])])
def gs_9 : ck_A := ([(0, (gv_r 1 0)), (1, (gv_r 1 1)), (2, (gv_r 1 12)), (3, (gv_r 1 16)), (4, (gv_g 1 2556 149 0))], [], [gc_196, gc_71, gc_192, ((2, 0), []), ((2, 0), []), ((2, 0), []), ((2, 0), []), ((2, 0), []), gc_16, gc_16, gc_16, gc_16, gc_195, ((2, 0), []), gc_28, gc_29, ((1, 1), [gv_L])])
def gs_10 : ck_A := ([(0, (gv_r 1 0)), (1, (gv_r 1 1)), (2, (gv_r 1 12)), (3, (gv_r 1 16)), (4, (gv_g 1 2556 149 0))], [], [gc_196, gc_71, gc_192, ((2, 0), []), ((2, 0), []), ((2, 0), []), ((2, 0), []), ((2, 0), []), gc_16, gc_16, gc_16, gc_16, gc_195, ((2, 0), []), gc_28, gc_29, ((1, 1), [gv_L])])
def gs_11 : ck_A := ([(0, (gv_r 1 0)), (1, (gv_r 1 1)), (2, (gv_r 1 12)), (3, (gv_r 1 16)), (4, (gv_g 1 2556 149 0))], [], [gc_196, gc_71, gc_192, ((2, 0), []), ((2, 0), []), ((2, 0), []), ((2, 0), []), ((2, 0), []), gc_16, gc_16, gc_16, gc_16, gc_195, ((2, 0), []), gc_28, gc_29, ((1, 1), [gv_L])])
def gs_12 : ck_A := ([(0, (gv_r 1 0)), (1, (gv_r 1 1)), (2, (gv_r 1 12)), (3, (gv_r 1 16)), (4, (gv_g 1 2556 149 0))], [], [gc_196, gc_71, gc_192, ((2, 0), []), ((2, 0), []), ((2, 0), []), ((2, 0), []), ((2, 0), []), gc_16, gc_16, gc_16, gc_16, gc_195, ((2, 0), []), gc_28, gc_29, ((1, 1), [gv_L])])
def gs_13 : ck_A := ([(0, (gv_r 1 0)), (1, (gv_r 1 1)), (2, (gv_r 1 12)), (3, (gv_r 1 16)), (4, (gv_g 1 2556 149 0))], [], [gc_196, gc_71, gc_192, ((2, 0), []), ((2, 0), []), ((2, 0), []), ((2, 0), []), ((2, 0), []), gc_16, gc_16, gc_16, gc_16, gc_195, ((2, 0), []), gc_28, gc_29, ((1, 1), [gv_L])])
def gs_14 : ck_A := ([(0, (gv_r 1 0)), (1, (gv_r 1 1)), (2, (gv_r 1 12)), (3, (gv_r 1 16)), (4, (gv_g 1 2556 149 0))], [], [gc_196, gc_71, gc_192, ((2, 0), []), ((2, 0), []), ((2, 0), []), ((2, 0), []), ((2, 0), []), gc_16, gc_16, gc_16, gc_16, gc_195, ((2, 0), []), gc_28, gc_29, ((1, 1), [gv_L])])
def gs_15 : ck_A := ([(0, (gv_r 1 0)), (1, (gv_r 1 1)), (2, (gv_r 1 12)), (3, (gv_r 1 16)), (4, (gv_g 1 2556 149 0))], [], [gc_196, gc_71, gc_192, ((2, 0), []), ((2, 0), []), ((2, 0), []), ((2, 0), []), ((2, 0), []), gc_16, gc_16, gc_16, gc_16, gc_195, ((2, 0), []), gc_28, gc_29, ((1, 1), [gv_L])])
def gs_16 : ck_A := ([(0, (gv_r 1 0)), (1, (gv_r 1 1)), (2, (gv_r 1 12)), (3, (gv_r 1 16)), (4, (gv_g 1 2556 149 0))], [], [gc_196, gc_71, gc_192, ((2, 0), []), ((2, 0), []), ((2, 0), []), ((2, 0), []), ((2, 0), []), gc_16, gc_16, gc_16, gc_16, gc_195, ((2, 0), []), gc_28, gc_29, ((1, 1), [gv_L])])
def gs_17 : ck_A := ([(0, (gv_r 1 0)), (1, (gv_r 1 1)), (2, (gv_r 1 12)), (3, (gv_r 1 16)), (4, (gv_g 1 2556 149 0))], [], [gc_196, gc_71, gc_192, ((2, 0), []), ((2, 0), []), ((2, 0), []), ((2, 0), []), ((2, 0), []), gc_16, gc_16, gc_16, gc_16, gc_195, ((2, 0), []), gc_28, gc_29, ((1, 1), [gv_L])])
def gs_18 : ck_A := ([(0, (gv_r 1 0)), (1, (gv_r 1 1)), (2, (gv_r 1 12)), (3, (gv_r 1 16)), (4, (gv_g 1 2556 149 0))], [], [gc_196, gc_71, gc_192, ((2, 0), []), ((2, 0), []), ((2, 0), []), ((2, 0), []), ((2, 0), []), gc_16, gc_16, gc_16, gc_16, gc_195, ((2, 0), []), gc_28, gc_29, ((1, 1), [gv_L])])
def gs_19 : ck_A := ([(0, (gv_r 1 0)), (1, (gv_r 1 1)), (2, (gv_r 1 12)), (3, (gv_r 1 16)), (4, (gv_g 1 2556 149 0))], [], [gc_196, gc_71, gc_192, ((2, 0), []), ((2, 0), []), ((2, 0), []), ((2, 0), []), ((2, 0), []), gc_16, gc_16, gc_16, gc_16, gc_195, ((2, 0), []), gc_28, gc_29, ((1, 1), [gv_L])])
def gs_20 : ck_A := ([(0, (gv_r 1 0)), (1, (gv_r 1 1)), (2, (gv_r 1 12)), (3, (gv_r 1 16)), (4, (gv_g 1 2556 149 0))], [], [gc_196, gc_71, gc_192, ((2, 0), []), ((2, 0), []), ((2, 0), []), ((2, 0), []), ((2, 0), []), gc_16, gc_16, gc_16, gc_16, gc_195, ((2, 0), []), gc_28, gc_29, ((1, 1), [gv_L])])
def gs_21 : ck_A := ([(0, (gv_r 1 0)), (1, (gv_r 1 1)), (2, (gv_r 1 12)), (3, (gv_r 1 16)), (4, (gv_g 1 2556 149 0))], [], [gc_196, gc_71, gc_192, ((2, 0), []), ((2, 0), []), ((2, 0), []), ((2, 0), []), ((2, 0), []), gc_16, gc_16, gc_16, gc_16, gc_195, ((2, 0), []), gc_28, gc_29, ((1, 1), [gv_L])])
def gs_22 : ck_A := ([(0, (gv_r 1 0)), (1, (gv_r 1 1)), (2, (gv_r 1 12)), (3, (gv_r 1 16)), (4, (gv_g 1 2556 149 0))], [], [gc_196, gc_71, gc_192, ((2, 0), []), ((2, 0), []), ((2, 0), []), ((2, 0), []), ((2, 0), []), gc_16, gc_16, gc_16, gc_16, gc_195, ((2, 0), []), gc_28, gc_29, ((1, 1), [gv_L])])
def gs_23 : ck_A := ([(0, (gv_r 1 0)), (1, (gv_r 1 1)), (2, (gv_r 1 12)), (3, (gv_r 1 16)), (4, (gv_g 1 2556 149 0))], [], [gc_196, gc_71, gc_192, ((2, 0), []), ((2, 0), []), ((2, 0), []), ((2, 0), []), ((2, 0), []), gc_16, gc_16, gc_16, gc_16, gc_195, ((2, 0), []), gc_28, gc_29, ((1, 1), [gv_L])])
def gs_24 : ck_A := ([(0, (gv_r 1 0)), (1, (gv_r 1 1)), (2, (gv_r 1 12)), (3, (gv_r 1 16)), (4, (gv_g 1 2556 149 0))], [], [gc_196, gc_71, gc_192, ((2, 0), []), ((2, 0), []), ((2, 0), []), ((2, 0), []), ((2, 0), []), gc_16, gc_16, gc_16, gc_16, gc_195, ((2, 0), []), gc_28, gc_29, ((1, 1), [gv_L])])
def gs_25 : ck_A := ([(0, (gv_r 1 0)), (1, (gv_r 1 1)), (2, (gv_r 1 12)), (3, (gv_r 1 16)), (4, (gv_g 1 2556 149 0))], [], [gc_196, gc_71, gc_192, ((2, 0), []), ((2, 0), []), ((2, 0), []), ((2, 0), []), ((2, 0), []), gc_16, gc_16, gc_16, gc_16, gc_195, ((2, 0), []), gc_28, gc_29, ((1, 1), [gv_L])])
def gs_26 : ck_A := ([(0, (gv_r 1 0)), (1, (gv_r 1 1)), (2, (gv_r 1 12)), (3, (gv_r 1 16)), (4, (gv_g 1 2556 149 0))], [], [gc_196, gc_71, gc_192, ((2, 0), []), ((2, 0), []), ((2, 0), []), ((2, 0), []), ((2, 0), []), gc_16, gc_16, gc_16, gc_16, gc_195, ((2, 0), []), gc_28, gc_29, ((1, 1), [gv_L])])
def gs_27 : ck_A := ([(0, (gv_r 1 0)), (1, (gv_r 1 1)), (2, (gv_r 1 12)), (3, (gv_r 1 16)), (4, (gv_g 1 2556 149 0))], [], [gc_196, gc_71, gc_192, ((2, 0), []), ((2, 0), []), ((2, 0), []), ((2, 0), []), ((2, 0), []), gc_16, gc_16, gc_16, gc_16, gc_195, ((2, 0), []), gc_28, gc_29, ((1, 1), [gv_L])])
def gs_28 : ck_A := ([(0, (gv_r 1 0)), (1, (gv_r 1 1)), (2, (gv_r 1 12)), (3, (gv_r 1 16)), (4, (gv_g 1 2556 149 0))], [], [gc_196, gc_71, gc_192, ((2, 0), []), ((2, 0), []), ((2, 0), []), ((2, 0), []), ((2, 0), []), gc_16, gc_16, gc_16, gc_16, gc_195, ((2, 0), []), gc_28, gc_29, ((1, 1), [gv_L])])
def gp_h_n : List (Nat × ck_An) := [(33, (gs_7, (0, []), 0, 0)), (148, (gs_8, (0, []), 0, 0)), (229, (gs_9, (0, []), 0, 0)), (296, (gs_10, (0, []), 0, 0)), (345, (gs_11, (0, []), 0, 0)), (394, (gs_12, (0, []), 0, 0)), (431, (gs_13, (0, []), 0, 0)), (459, (gs_14, (0, []), 0, 0)), (487, (gs_15, (0, []), 0, 0)), (527, (gs_16, (0, []), 0, 0)), (599, (gs_17, (0, []), 0, 0)), (651, (gs_18, (0, []), 0, 0)), (691, (gs_19, (0, []), 0, 0)), (731, (gs_20, (0, []), 0, 0)), (759, (gs_21, (0, []), 0, 0)), (772, (gs_22, (0, []), 0, 0)), (828, (gs_23, (0, []), 0, 0)), (841, (gs_24, (0, []), 0, 0)), (869, (gs_25, (0, []), 0, 0)), (909, (gs_26, (0, []), 0, 0)), (949, (gs_27, (0, []), 0, 0)), (989, (gs_28, (0, []), 0, 0))]
def gp_h_l : List (List ck_C × (Option ck_V ⊕ Nat)) := [([((2, 0), []), ((2, 0), []), ((2, 0), []), ((2, 0), []), ((2, 0), []), ((2, 0), []), ((2, 0), []), ((2, 0), []), ((2, 0), []), ((2, 0), []), ((2, 0), []), ((2, 0), []), ((2, 0), []), ((2, 0), []), ((2, 0), []), ((2, 0), []), ((2, 0), [])], .inl (some (gv_i 1 1)))]
theorem gp_h_m : gck_ex ce_11 gv_tab (1, 2561) true cm_ms gp_h_c [] kco_law glw_M gp_h_K gp_h_l gp_h_w [] gp_h_n none 17 (33, gp_h_B, 0, 0) = true := by decide +kernel
def gp_k5_c : List (Nat × ck_Kt) := [(186, gt_61), (122, gt_51)]
theorem gp_k5_h {l : Launch} : ∀ q ∈ gp_k5_c, ∃ M' : ck_MM, cm_ms[q.1]? = some M' ∧ gck_Ok l gv_tab (1, 2561) M'.1 q.2 := (List.forall_mem_cons.mpr ⟨⟨_, cm_g186, gt_61_ok.wid (Nat.zero_le _) (by decide)⟩, (List.forall_mem_cons.mpr ⟨⟨_, cm_g122, gt_51_ok.wid (Nat.zero_le _) (by decide)⟩, (fun _ h => by cases h)⟩)⟩)
def gp_k5_B : ck_A := ([(0, (gv_r 1 0)), (1, (gv_r 1 1)), (2, (gv_r 1 12)), (3, (gv_r 1 16)), (4, (gv_g 1 2556 149 0))], [], [gc_196, gc_71, gc_192, ((2, 0), []), ((2, 0), []), ((2, 0), []), ((2, 0), []), ((2, 0), []), gc_16, gc_16, gc_16, gc_16, gc_195, ((2, 0), []), gc_28, gc_29, ((1, 1), [gv_L])])
def gp_k5_K : ck_Ct := ([], gp_k5_B.2.2, [], .inl none, (9, 126, 1, 6))
def gp_k5_w : List Nat := [1, 2, 4, 7, 31, 32, 40, 54, 62]
def gp_k5_n : List (Nat × ck_An) := [(33, (gs_7, (0, []), 1, 6))]
def gp_k5_l : List (List ck_C × (Option ck_V ⊕ Nat)) := []
theorem gp_k5_m : gck_ex ce_11 gv_tab (1, 2561) true cm_ms gp_k5_c [] kco_law glw_M gp_k5_K gp_k5_l gp_k5_w [] gp_k5_n none 23 (431, gp_k5_B, 0, 0) = true := by decide +kernel
def gp_k6_c : List (Nat × ck_Kt) := [(167, gt_66), (117, gt_64)]
theorem gp_k6_h {l : Launch} : ∀ q ∈ gp_k6_c, ∃ M' : ck_MM, cm_ms[q.1]? = some M' ∧ gck_Ok l gv_tab (1, 2561) M'.1 q.2 := (List.forall_mem_cons.mpr ⟨⟨_, cm_g167, gt_66_ok.wid (Nat.zero_le _) (by decide)⟩, (List.forall_mem_cons.mpr ⟨⟨_, cm_g117, gt_64_ok.wid (Nat.zero_le _) (by decide)⟩, (fun _ h => by cases h)⟩)⟩)
def gp_k6_B : ck_A := ([(0, (gv_r 1 0)), (1, (gv_r 1 1)), (2, (gv_r 1 12)), (3, (gv_r 1 16)), (4, (gv_g 1 2556 149 0))], [], [gc_196, gc_71, gc_192, ((2, 0), []), ((2, 0), []), ((2, 0), []), ((2, 0), []), ((2, 0), []), gc_16, gc_16, gc_16, gc_16, gc_195, ((2, 0), []), gc_28, gc_29, ((1, 1), [gv_L])])
def gp_k6_K : ck_Ct := ([], gp_k6_B.2.2, [], .inl none, (9, 125, 1, 6))
def gp_k6_w : List Nat := []
def gp_k6_n : List (Nat × ck_An) := [(33, (gs_7, (0, []), 1, 6))]
def gp_k6_l : List (List ck_C × (Option ck_V ⊕ Nat)) := []
theorem gp_k6_m : gck_ex ce_11 gv_tab (1, 2561) true cm_ms gp_k6_c [] kco_law glw_M gp_k6_K gp_k6_l gp_k6_w [] gp_k6_n none 23 (459, gp_k6_B, 0, 0) = true := by decide +kernel
def gp_k7_c : List (Nat × ck_Kt) := [(130, gt_206), (108, gt_167)]
theorem gp_k7_h {l : Launch} : ∀ q ∈ gp_k7_c, ∃ M' : ck_MM, cm_ms[q.1]? = some M' ∧ gck_Ok l gv_tab (1, 2561) M'.1 q.2 := (List.forall_mem_cons.mpr ⟨⟨_, cm_g130, gt_206_ok.wid (Nat.zero_le _) (by decide)⟩, (List.forall_mem_cons.mpr ⟨⟨_, cm_g108, gt_167_ok.wid (Nat.zero_le _) (by decide)⟩, (fun _ h => by cases h)⟩)⟩)
def gp_k7_B : ck_A := ([(0, (gv_r 1 0)), (1, (gv_r 1 1)), (2, (gv_r 1 12)), (3, (gv_r 1 16)), (4, (gv_g 1 2556 149 0))], [], [gc_196, gc_71, gc_192, ((2, 0), []), ((2, 0), []), ((2, 0), []), ((2, 0), []), ((2, 0), []), gc_16, gc_16, gc_16, gc_16, gc_195, ((2, 0), []), gc_28, gc_29, ((1, 1), [gv_L])])
def gp_k7_K : ck_Ct := ([], gp_k7_B.2.2, [], .inl none, (9, 203, 1, 6))
def gp_k7_w : List Nat := [1, 2, 4, 6, 7, 8, 11, 12, 15, 16, 17, 19, 20, 21, 22, 23, 24, 25, 26, 27, 28, 29, 30, 31, 32, 36, 37, 39, 40, 44, 47, 48, 50, 52, 53, 58, 59, 60, 61, 62, 63, 1046]
def gp_k7_n : List (Nat × ck_An) := [(33, (gs_7, (0, []), 1, 6))]
def gp_k7_l : List (List ck_C × (Option ck_V ⊕ Nat)) := []
theorem gp_k7_m : gck_ex ce_11 gv_tab (1, 2561) true cm_ms gp_k7_c [] kco_law glw_M gp_k7_K gp_k7_l gp_k7_w [] gp_k7_n none 33 (487, gp_k7_B, 0, 0) = true := by decide +kernel
def gp_k8_c : List (Nat × ck_Kt) := [(183, gt_233), (121, gt_224)]
theorem gp_k8_h {l : Launch} : ∀ q ∈ gp_k8_c, ∃ M' : ck_MM, cm_ms[q.1]? = some M' ∧ gck_Ok l gv_tab (1, 2561) M'.1 q.2 := (List.forall_mem_cons.mpr ⟨⟨_, cm_g183, gt_233_ok.wid (Nat.zero_le _) (by decide)⟩, (List.forall_mem_cons.mpr ⟨⟨_, cm_g121, gt_224_ok.wid (Nat.zero_le _) (by decide)⟩, (fun _ h => by cases h)⟩)⟩)
def gp_k8_B : ck_A := ([(0, (gv_r 1 0)), (1, (gv_r 1 1)), (2, (gv_r 1 12)), (3, (gv_r 1 16)), (4, (gv_g 1 2556 149 0))], [], [gc_196, gc_71, gc_192, ((2, 0), []), ((2, 0), []), ((2, 0), []), ((2, 0), []), ((2, 0), []), gc_16, gc_16, gc_16, gc_16, gc_195, ((2, 0), []), gc_28, gc_29, ((1, 1), [gv_L])])
def gp_k8_K : ck_Ct := ([], gp_k8_B.2.2, [], .inl none, (9, 189, 2, 12))
def gp_k8_w : List Nat := [1, 2, 4, 7, 9, 11, 12, 15, 16, 19, 20, 21, 22, 23, 24, 25, 26, 27, 28, 29, 30, 31, 32, 36, 38, 47, 48, 50, 52, 53, 55, 56, 60, 63, 1046]
def gp_k8_n : List (Nat × ck_An) := [(33, (gs_7, (0, []), 2, 12))]
def gp_k8_l : List (List ck_C × (Option ck_V ⊕ Nat)) := []
theorem gp_k8_m : gck_ex ce_11 gv_tab (1, 2561) true cm_ms gp_k8_c [] kco_law glw_M gp_k8_K gp_k8_l gp_k8_w [] gp_k8_n none 57 (527, gp_k8_B, 0, 0) = true := by decide +kernel
def gp_k9_c : List (Nat × ck_Kt) := [(146, gt_258), (112, gt_247)]
theorem gp_k9_h {l : Launch} : ∀ q ∈ gp_k9_c, ∃ M' : ck_MM, cm_ms[q.1]? = some M' ∧ gck_Ok l gv_tab (1, 2561) M'.1 q.2 := (List.forall_mem_cons.mpr ⟨⟨_, cm_g146, gt_258_ok.wid (Nat.zero_le _) (by decide)⟩, (List.forall_mem_cons.mpr ⟨⟨_, cm_g112, gt_247_ok.wid (Nat.zero_le _) (by decide)⟩, (fun _ h => by cases h)⟩)⟩)
def gp_k9_B : ck_A := ([(0, (gv_r 1 0)), (1, (gv_r 1 1)), (2, (gv_r 1 12)), (3, (gv_r 1 16)), (4, (gv_g 1 2556 149 0))], [], [gc_196, gc_71, gc_192, ((2, 0), []), ((2, 0), []), ((2, 0), []), ((2, 0), []), ((2, 0), []), gc_16, gc_16, gc_16, gc_16, gc_195, ((2, 0), []), gc_28, gc_29, ((1, 1), [gv_L])])
def gp_k9_K : ck_Ct := ([], gp_k9_B.2.2, [], .inl none, (9, 129, 3, 18))
def gp_k9_w : List Nat := [9, 38, 55, 56]
def gp_k9_n : List (Nat × ck_An) := [(33, (gs_7, (0, []), 3, 18))]
def gp_k9_l : List (List ck_C × (Option ck_V ⊕ Nat)) := []
theorem gp_k9_m : gck_ex ce_11 gv_tab (1, 2561) true cm_ms gp_k9_c [] kco_law glw_M gp_k9_K gp_k9_l gp_k9_w [] gp_k9_n none 43 (599, gp_k9_B, 0, 0) = true := by decide +kernel
def gp_k10_c : List (Nat × ck_Kt) := [(129, gt_718), (107, gt_409)]
theorem gp_k10_h {l : Launch} : ∀ q ∈ gp_k10_c, ∃ M' : ck_MM, cm_ms[q.1]? = some M' ∧ gck_Ok l gv_tab (1, 2561) M'.1 q.2 := (List.forall_mem_cons.mpr ⟨⟨_, cm_g129, gt_718_ok.wid (Nat.zero_le _) (by decide)⟩, (List.forall_mem_cons.mpr ⟨⟨_, cm_g107, gt_409_ok.wid (Nat.zero_le _) (by decide)⟩, (fun _ h => by cases h)⟩)⟩)
def gp_k10_B : ck_A := ([(0, (gv_r 1 0)), (1, (gv_r 1 1)), (2, (gv_r 1 12)), (3, (gv_r 1 16)), (4, (gv_g 1 2556 149 0))], [], [gc_196, gc_71, gc_192, ((2, 0), []), ((2, 0), []), ((2, 0), []), ((2, 0), []), ((2, 0), []), gc_16, gc_16, gc_16, gc_16, gc_195, ((2, 0), []), gc_28, gc_29, ((1, 1), [gv_L])])
def gp_k10_K : ck_Ct := ([], gp_k10_B.2.2, [], .inl none, (9, 207, 2, 12))
def gp_k10_w : List Nat := [1, 2, 4, 5, 7, 8, 11, 12, 15, 16, 17, 19, 20, 21, 22, 23, 24, 25, 26, 27, 28, 29, 30, 31, 32, 36, 37, 39, 40, 44, 47, 48, 50, 51, 52, 53, 58, 59, 60, 61, 62, 63, 1046]
def gp_k10_n : List (Nat × ck_An) := [(33, (gs_7, (0, []), 2, 12))]
def gp_k10_l : List (List ck_C × (Option ck_V ⊕ Nat)) := []
theorem gp_k10_m : gck_ex ce_11 gv_tab (1, 2561) true cm_ms gp_k10_c [] kco_law glw_M gp_k10_K gp_k10_l gp_k10_w [] gp_k10_n none 33 (651, gp_k10_B, 0, 0) = true := by decide +kernel
def gp_k11_c : List (Nat × ck_Kt) := [(168, gt_732), (118, gt_723)]
theorem gp_k11_h {l : Launch} : ∀ q ∈ gp_k11_c, ∃ M' : ck_MM, cm_ms[q.1]? = some M' ∧ gck_Ok l gv_tab (1, 2561) M'.1 q.2 := (List.forall_mem_cons.mpr ⟨⟨_, cm_g168, gt_732_ok.wid (Nat.zero_le _) (by decide)⟩, (List.forall_mem_cons.mpr ⟨⟨_, cm_g118, gt_723_ok.wid (Nat.zero_le _) (by decide)⟩, (fun _ h => by cases h)⟩)⟩)
def gp_k11_B : ck_A := ([(0, (gv_r 1 0)), (1, (gv_r 1 1)), (2, (gv_r 1 12)), (3, (gv_r 1 16)), (4, (gv_g 1 2556 149 0))], [], [gc_196, gc_71, gc_192, ((2, 0), []), ((2, 0), []), ((2, 0), []), ((2, 0), []), ((2, 0), []), gc_16, gc_16, gc_16, gc_16, gc_195, ((2, 0), []), gc_28, gc_29, ((1, 1), [gv_L])])
def gp_k11_K : ck_Ct := ([], gp_k11_B.2.2, [], .inl none, (9, 204, 2, 12))
def gp_k11_w : List Nat := [1, 2, 4, 5, 6, 7, 8, 11, 12, 15, 16, 17, 19, 20, 21, 22, 23, 24, 25, 26, 27, 28, 29, 30, 31, 32, 36, 37, 39, 44, 47, 48, 50, 51, 52, 53, 58, 59, 60, 61, 63, 1046]
def gp_k11_n : List (Nat × ck_An) := [(33, (gs_7, (0, []), 2, 12))]
def gp_k11_l : List (List ck_C × (Option ck_V ⊕ Nat)) := []
theorem gp_k11_m : gck_ex ce_11 gv_tab (1, 2561) true cm_ms gp_k11_c [] kco_law glw_M gp_k11_K gp_k11_l gp_k11_w [] gp_k11_n none 33 (691, gp_k11_B, 0, 0) = true := by decide +kernel
def gp_k12_c : List (Nat × ck_Kt) := [(187, gt_735), (123, gt_734)]
theorem gp_k12_h {l : Launch} : ∀ q ∈ gp_k12_c, ∃ M' : ck_MM, cm_ms[q.1]? = some M' ∧ gck_Ok l gv_tab (1, 2561) M'.1 q.2 := (List.forall_mem_cons.mpr ⟨⟨_, cm_g187, gt_735_ok.wid (Nat.zero_le _) (by decide)⟩, (List.forall_mem_cons.mpr ⟨⟨_, cm_g123, gt_734_ok.wid (Nat.zero_le _) (by decide)⟩, (fun _ h => by cases h)⟩)⟩)
def gp_k12_B : ck_A := ([(0, (gv_r 1 0)), (1, (gv_r 1 1)), (2, (gv_r 1 12)), (3, (gv_r 1 16)), (4, (gv_g 1 2556 149 0))], [], [gc_196, gc_71, gc_192, ((2, 0), []), ((2, 0), []), ((2, 0), []), ((2, 0), []), ((2, 0), []), gc_16, gc_16, gc_16, gc_16, gc_195, ((2, 0), []), gc_28, gc_29, ((1, 1), [gv_L])])
def gp_k12_K : ck_Ct := ([], gp_k12_B.2.2, [], .inl none, (9, 125, 1, 6))
def gp_k12_w : List Nat := []
def gp_k12_n : List (Nat × ck_An) := [(33, (gs_7, (0, []), 1, 6))]
def gp_k12_l : List (List ck_C × (Option ck_V ⊕ Nat)) := []
theorem gp_k12_m : gck_ex ce_11 gv_tab (1, 2561) true cm_ms gp_k12_c [] kco_law glw_M gp_k12_K gp_k12_l gp_k12_w [] gp_k12_n none 23 (731, gp_k12_B, 0, 0) = true := by decide +kernel
def gp_k13_c : List (Nat × ck_Kt) := [(10, gt_736), (143, gt_737)]
theorem gp_k13_h {l : Launch} : ∀ q ∈ gp_k13_c, ∃ M' : ck_MM, cm_ms[q.1]? = some M' ∧ gck_Ok l gv_tab (1, 2561) M'.1 q.2 := (List.forall_mem_cons.mpr ⟨⟨_, cm_g10, gt_736_ok.wid (Nat.zero_le _) (by decide)⟩, (List.forall_mem_cons.mpr ⟨⟨_, cm_g143, gt_737_ok.wid (Nat.zero_le _) (by decide)⟩, (fun _ h => by cases h)⟩)⟩)
def gp_k13_B : ck_A := ([(0, (gv_r 1 0)), (1, (gv_r 1 1)), (2, (gv_r 1 12)), (3, (gv_r 1 16)), (4, (gv_g 1 2556 149 0))], [], [gc_196, gc_71, gc_192, ((2, 0), []), ((2, 0), []), ((2, 0), []), ((2, 0), []), ((2, 0), []), gc_16, gc_16, gc_16, gc_16, gc_195, ((2, 0), []), gc_28, gc_29, ((1, 1), [gv_L])])
def gp_k13_K : ck_Ct := ([], gp_k13_B.2.2, [], .inl none, (1, 12, 0, 0))
def gp_k13_w : List Nat := []
def gp_k13_n : List (Nat × ck_An) := [(33, (gs_7, (0, []), 0, 0))]
def gp_k13_l : List (List ck_C × (Option ck_V ⊕ Nat)) := []
theorem gp_k13_m : gck_ex ce_11 gv_tab (1, 2561) true cm_ms gp_k13_c [] kco_law glw_M gp_k13_K gp_k13_l gp_k13_w [] gp_k13_n none 12 (759, gp_k13_B, 0, 0) = true := by decide +kernel
def gp_k14_c : List (Nat × ck_Kt) := [(171, gt_740), (171, gt_741), (119, gt_739)]
theorem gp_k14_h {l : Launch} : ∀ q ∈ gp_k14_c, ∃ M' : ck_MM, cm_ms[q.1]? = some M' ∧ gck_Ok l gv_tab (1, 2561) M'.1 q.2 := (List.forall_mem_cons.mpr ⟨⟨_, cm_g171, gt_740_ok.wid (Nat.zero_le _) (by decide)⟩, (List.forall_mem_cons.mpr ⟨⟨_, cm_g171, gt_741_ok.wid (Nat.zero_le _) (by decide)⟩, (List.forall_mem_cons.mpr ⟨⟨_, cm_g119, gt_739_ok.wid (Nat.zero_le _) (by decide)⟩, (fun _ h => by cases h)⟩)⟩)⟩)
def gp_k14_B : ck_A := ([(0, (gv_r 1 0)), (1, (gv_r 1 1)), (2, (gv_r 1 12)), (3, (gv_r 1 16)), (4, (gv_g 1 2556 149 0))], [], [gc_196, gc_71, gc_192, ((2, 0), []), ((2, 0), []), ((2, 0), []), ((2, 0), []), ((2, 0), []), gc_16, gc_16, gc_16, gc_16, gc_195, ((2, 0), []), gc_28, gc_29, ((1, 1), [gv_L])])
def gp_k14_K : ck_Ct := ([], gp_k14_B.2.2, [], .inl none, (9, 127, 1, 6))
def gp_k14_w : List Nat := []
def gp_k14_n : List (Nat × ck_An) := [(33, (gs_7, (0, []), 1, 6))]
def gp_k14_l : List (List ck_C × (Option ck_V ⊕ Nat)) := []
theorem gp_k14_m : gck_ex ce_11 gv_tab (1, 2561) true cm_ms gp_k14_c [] kco_law glw_M gp_k14_K gp_k14_l gp_k14_w [] gp_k14_n none 39 (772, gp_k14_B, 0, 0) = true := by decide +kernel
def gp_k15_c : List (Nat × ck_Kt) := [(15, gt_742), (161, gt_743)]
theorem gp_k15_h {l : Launch} : ∀ q ∈ gp_k15_c, ∃ M' : ck_MM, cm_ms[q.1]? = some M' ∧ gck_Ok l gv_tab (1, 2561) M'.1 q.2 := (List.forall_mem_cons.mpr ⟨⟨_, cm_g15, gt_742_ok.wid (Nat.zero_le _) (by decide)⟩, (List.forall_mem_cons.mpr ⟨⟨_, cm_g161, gt_743_ok.wid (Nat.zero_le _) (by decide)⟩, (fun _ h => by cases h)⟩)⟩)
def gp_k15_B : ck_A := ([(0, (gv_r 1 0)), (1, (gv_r 1 1)), (2, (gv_r 1 12)), (3, (gv_r 1 16)), (4, (gv_g 1 2556 149 0))], [], [gc_196, gc_71, gc_192, ((2, 0), []), ((2, 0), []), ((2, 0), []), ((2, 0), []), ((2, 0), []), gc_16, gc_16, gc_16, gc_16, gc_195, ((2, 0), []), gc_28, gc_29, ((1, 1), [gv_L])])
def gp_k15_K : ck_Ct := ([], gp_k15_B.2.2, [], .inl none, (1, 12, 0, 0))
def gp_k15_w : List Nat := []
def gp_k15_n : List (Nat × ck_An) := [(33, (gs_7, (0, []), 0, 0))]
def gp_k15_l : List (List ck_C × (Option ck_V ⊕ Nat)) := []
theorem gp_k15_m : gck_ex ce_11 gv_tab (1, 2561) true cm_ms gp_k15_c [] kco_law glw_M gp_k15_K gp_k15_l gp_k15_w [] gp_k15_n none 12 (828, gp_k15_B, 0, 0) = true := by decide +kernel
def gp_k16_c : List (Nat × ck_Kt) := [(160, gt_746), (115, gt_745)]
theorem gp_k16_h {l : Launch} : ∀ q ∈ gp_k16_c, ∃ M' : ck_MM, cm_ms[q.1]? = some M' ∧ gck_Ok l gv_tab (1, 2561) M'.1 q.2 := (List.forall_mem_cons.mpr ⟨⟨_, cm_g160, gt_746_ok.wid (Nat.zero_le _) (by decide)⟩, (List.forall_mem_cons.mpr ⟨⟨_, cm_g115, gt_745_ok.wid (Nat.zero_le _) (by decide)⟩, (fun _ h => by cases h)⟩)⟩)
def gp_k16_B : ck_A := ([(0, (gv_r 1 0)), (1, (gv_r 1 1)), (2, (gv_r 1 12)), (3, (gv_r 1 16)), (4, (gv_g 1 2556 149 0))], [], [gc_196, gc_71, gc_192, ((2, 0), []), ((2, 0), []), ((2, 0), []), ((2, 0), []), ((2, 0), []), gc_16, gc_16, gc_16, gc_16, gc_195, ((2, 0), []), gc_28, gc_29, ((1, 1), [gv_L])])
def gp_k16_K : ck_Ct := ([], gp_k16_B.2.2, [], .inl none, (9, 125, 1, 6))
def gp_k16_w : List Nat := []
def gp_k16_n : List (Nat × ck_An) := [(33, (gs_7, (0, []), 1, 6))]
def gp_k16_l : List (List ck_C × (Option ck_V ⊕ Nat)) := []
theorem gp_k16_m : gck_ex ce_11 gv_tab (1, 2561) true cm_ms gp_k16_c [] kco_law glw_M gp_k16_K gp_k16_l gp_k16_w [] gp_k16_n none 23 (841, gp_k16_B, 0, 0) = true := by decide +kernel
def gp_k17_c : List (Nat × ck_Kt) := [(194, gt_749), (124, gt_748)]
theorem gp_k17_h {l : Launch} : ∀ q ∈ gp_k17_c, ∃ M' : ck_MM, cm_ms[q.1]? = some M' ∧ gck_Ok l gv_tab (1, 2561) M'.1 q.2 := (List.forall_mem_cons.mpr ⟨⟨_, cm_g194, gt_749_ok.wid (Nat.zero_le _) (by decide)⟩, (List.forall_mem_cons.mpr ⟨⟨_, cm_g124, gt_748_ok.wid (Nat.zero_le _) (by decide)⟩, (fun _ h => by cases h)⟩)⟩)
def gp_k17_B : ck_A := ([(0, (gv_r 1 0)), (1, (gv_r 1 1)), (2, (gv_r 1 12)), (3, (gv_r 1 16)), (4, (gv_g 1 2556 149 0))], [], [gc_196, gc_71, gc_192, ((2, 0), []), ((2, 0), []), ((2, 0), []), ((2, 0), []), ((2, 0), []), gc_16, gc_16, gc_16, gc_16, gc_195, ((2, 0), []), gc_28, gc_29, ((1, 1), [gv_L])])
def gp_k17_K : ck_Ct := ([], gp_k17_B.2.2, [], .inl none, (9, 127, 2, 12))
def gp_k17_w : List Nat := []
def gp_k17_n : List (Nat × ck_An) := [(33, (gs_7, (0, []), 2, 12))]
def gp_k17_l : List (List ck_C × (Option ck_V ⊕ Nat)) := []
theorem gp_k17_m : gck_ex ce_11 gv_tab (1, 2561) true cm_ms gp_k17_c [] kco_law glw_M gp_k17_K gp_k17_l gp_k17_w [] gp_k17_n none 33 (869, gp_k17_B, 0, 0) = true := by decide +kernel
def gp_k18_c : List (Nat × ck_Kt) := [(139, gt_752), (110, gt_751)]
theorem gp_k18_h {l : Launch} : ∀ q ∈ gp_k18_c, ∃ M' : ck_MM, cm_ms[q.1]? = some M' ∧ gck_Ok l gv_tab (1, 2561) M'.1 q.2 := (List.forall_mem_cons.mpr ⟨⟨_, cm_g139, gt_752_ok.wid (Nat.zero_le _) (by decide)⟩, (List.forall_mem_cons.mpr ⟨⟨_, cm_g110, gt_751_ok.wid (Nat.zero_le _) (by decide)⟩, (fun _ h => by cases h)⟩)⟩)
def gp_k18_B : ck_A := ([(0, (gv_r 1 0)), (1, (gv_r 1 1)), (2, (gv_r 1 12)), (3, (gv_r 1 16)), (4, (gv_g 1 2556 149 0))], [], [gc_196, gc_71, gc_192, ((2, 0), []), ((2, 0), []), ((2, 0), []), ((2, 0), []), ((2, 0), []), gc_16, gc_16, gc_16, gc_16, gc_195, ((2, 0), []), gc_28, gc_29, ((1, 1), [gv_L])])
def gp_k18_K : ck_Ct := ([], gp_k18_B.2.2, [], .inl none, (9, 128, 1, 6))
def gp_k18_w : List Nat := []
def gp_k18_n : List (Nat × ck_An) := [(33, (gs_7, (0, []), 1, 6))]
def gp_k18_l : List (List ck_C × (Option ck_V ⊕ Nat)) := []
theorem gp_k18_m : gck_ex ce_11 gv_tab (1, 2561) true cm_ms gp_k18_c [] kco_law glw_M gp_k18_K gp_k18_l gp_k18_w [] gp_k18_n none 33 (909, gp_k18_B, 0, 0) = true := by decide +kernel
def gp_k19_c : List (Nat × ck_Kt) := [(156, gt_763), (114, gt_754)]
theorem gp_k19_h {l : Launch} : ∀ q ∈ gp_k19_c, ∃ M' : ck_MM, cm_ms[q.1]? = some M' ∧ gck_Ok l gv_tab (1, 2561) M'.1 q.2 := (List.forall_mem_cons.mpr ⟨⟨_, cm_g156, gt_763_ok.wid (Nat.zero_le _) (by decide)⟩, (List.forall_mem_cons.mpr ⟨⟨_, cm_g114, gt_754_ok.wid (Nat.zero_le _) (by decide)⟩, (fun _ h => by cases h)⟩)⟩)
def gp_k19_B : ck_A := ([(0, (gv_r 1 0)), (1, (gv_r 1 1)), (2, (gv_r 1 12)), (3, (gv_r 1 16)), (4, (gv_g 1 2556 149 0))], [], [gc_196, gc_71, gc_192, ((2, 0), []), ((2, 0), []), ((2, 0), []), ((2, 0), []), ((2, 0), []), gc_16, gc_16, gc_16, gc_16, gc_195, ((2, 0), []), gc_28, gc_29, ((1, 1), [gv_L])])
def gp_k19_K : ck_Ct := ([], gp_k19_B.2.2, [], .inl none, (9, 127, 2, 12))
def gp_k19_w : List Nat := [1046]
def gp_k19_n : List (Nat × ck_An) := [(33, (gs_7, (0, []), 2, 12))]
def gp_k19_l : List (List ck_C × (Option ck_V ⊕ Nat)) := []
theorem gp_k19_m : gck_ex ce_11 gv_tab (1, 2561) true cm_ms gp_k19_c [] kco_law glw_M gp_k19_K gp_k19_l gp_k19_w [] gp_k19_n none 33 (949, gp_k19_B, 0, 0) = true := by decide +kernel
def gp_k20_c : List (Nat × ck_Kt) := [(195, gt_769), (125, gt_767)]
theorem gp_k20_h {l : Launch} : ∀ q ∈ gp_k20_c, ∃ M' : ck_MM, cm_ms[q.1]? = some M' ∧ gck_Ok l gv_tab (1, 2561) M'.1 q.2 := (List.forall_mem_cons.mpr ⟨⟨_, cm_g195, gt_769_ok.wid (Nat.zero_le _) (by decide)⟩, (List.forall_mem_cons.mpr ⟨⟨_, cm_g125, gt_767_ok.wid (Nat.zero_le _) (by decide)⟩, (fun _ h => by cases h)⟩)⟩)
def gp_k20_B : ck_A := ([(0, (gv_r 1 0)), (1, (gv_r 1 1)), (2, (gv_r 1 12)), (3, (gv_r 1 16)), (4, (gv_g 1 2556 149 0))], [], [gc_196, gc_71, gc_192, ((2, 0), []), ((2, 0), []), ((2, 0), []), ((2, 0), []), ((2, 0), []), gc_16, gc_16, gc_16, gc_16, gc_195, ((2, 0), []), gc_28, gc_29, ((1, 1), [gv_L])])
def gp_k20_K : ck_Ct := ([], gp_k20_B.2.2, [], .inl none, (9, 174, 2, 12))
def gp_k20_w : List Nat := [1, 19, 20, 21, 22, 23, 24, 25, 26, 27, 28, 29, 30, 31]
def gp_k20_n : List (Nat × ck_An) := [(33, (gs_7, (0, []), 2, 12))]
def gp_k20_l : List (List ck_C × (Option ck_V ⊕ Nat)) := []
theorem gp_k20_m : gck_ex ce_11 gv_tab (1, 2561) true cm_ms gp_k20_c [] kco_law glw_M gp_k20_K gp_k20_l gp_k20_w [] gp_k20_n none 43 (989, gp_k20_B, 0, 0) = true := by decide +kernel
def gp_o0_0a_c : List (Nat × ck_Kt) := [(120, gt_771), (174, gt_772)]
theorem gp_o0_0a_h {l : Launch} : ∀ q ∈ gp_o0_0a_c, ∃ M' : ck_MM, cm_ms[q.1]? = some M' ∧ gck_Ok l gv_tab (1, 2561) M'.1 q.2 := (List.forall_mem_cons.mpr ⟨⟨_, cm_g120, gt_771_ok.wid (Nat.zero_le _) (by decide)⟩, (List.forall_mem_cons.mpr ⟨⟨_, cm_g174, gt_772_ok.wid (Nat.zero_le _) (by decide)⟩, (fun _ h => by cases h)⟩)⟩)
def gc_197 : ck_C := ((6, 2), [gv_F, (gv_g (-2147483648) (-1) 144 0), (gv_g (-2147483648) 2147483647 145 0), (gv_g (-2147483648) 2147483647 146 0), (gv_g (-2147483648) 2147483647 147 0)])
def gp_o0_0a_B : ck_A := ([(0, (gv_r 1 0)), (1, (gv_r 1 1)), (2, (gv_r 1 12)), (3, (gv_r 1 16)), (4, (gv_g 1 2556 149 0))], [], [gc_197, gc_71, gc_192, ((2, 0), []), ((2, 0), []), ((2, 0), []), ((2, 0), []), ((2, 0), []), gc_16, gc_16, gc_16, gc_16, gc_195, ((2, 0), []), gc_28, gc_29, ((1, 1), [gv_L])])
def gp_o0_0a_K : ck_Ct := ([], gp_o0_0a_B.2.2, [], .inl none, (9, 128, 1, 6))
def gp_o0_0a_w : List Nat := []
def gp_o0_0a_n : List (Nat × ck_An) := [(33, (gs_7, (0, []), 1, 6))]
def gp_o0_0a_l : List (List ck_C × (Option ck_V ⊕ Nat)) := []
theorem gp_o0_0a_m : gck_ex ce_11 gv_tab (1, 2561) true cm_ms gp_o0_0a_c [] kco_law glw_M gp_o0_0a_K gp_o0_0a_l gp_o0_0a_w [] gp_o0_0a_n none 65 (148, gp_o0_0a_B, 0, 0) = true := by decide +kernel
def gp_o0_0b_c : List (Nat × ck_Kt) := [(120, gt_774), (174, gt_775)]
theorem gp_o0_0b_h {l : Launch} : ∀ q ∈ gp_o0_0b_c, ∃ M' : ck_MM, cm_ms[q.1]? = some M' ∧ gck_Ok l gv_tab (1, 2561) M'.1 q.2 := (List.forall_mem_cons.mpr ⟨⟨_, cm_g120, gt_774_ok.wid (Nat.zero_le _) (by decide)⟩, (List.forall_mem_cons.mpr ⟨⟨_, cm_g174, gt_775_ok.wid (Nat.zero_le _) (by decide)⟩, (fun _ h => by cases h)⟩)⟩)
def gc_198 : ck_C := ((6, 2), [gv_F, (gv_g 4 2147483647 144 0), (gv_g (-2147483648) 2147483647 145 0), (gv_g (-2147483648) 2147483647 146 0), (gv_g (-2147483648) 2147483647 147 0)])
def gp_o0_0b_B : ck_A := ([(0, (gv_r 1 0)), (1, (gv_r 1 1)), (2, (gv_r 1 12)), (3, (gv_r 1 16)), (4, (gv_g 1 2556 149 0))], [], [gc_198, gc_71, gc_192, ((2, 0), []), ((2, 0), []), ((2, 0), []), ((2, 0), []), ((2, 0), []), gc_16, gc_16, gc_16, gc_16, gc_195, ((2, 0), []), gc_28, gc_29, ((1, 1), [gv_L])])
def gp_o0_0b_K : ck_Ct := ([], gp_o0_0b_B.2.2, [], .inl none, (9, 128, 1, 6))
def gp_o0_0b_w : List Nat := []
def gp_o0_0b_n : List (Nat × ck_An) := [(33, (gs_7, (0, []), 1, 6))]
def gp_o0_0b_l : List (List ck_C × (Option ck_V ⊕ Nat)) := []
theorem gp_o0_0b_m : gck_ex ce_11 gv_tab (1, 2561) true cm_ms gp_o0_0b_c [] kco_law glw_M gp_o0_0b_K gp_o0_0b_l gp_o0_0b_w [] gp_o0_0b_n none 65 (148, gp_o0_0b_B, 0, 0) = true := by decide +kernel
def gp_o0_1a_c : List (Nat × ck_Kt) := [(120, gt_777), (174, gt_778)]
theorem gp_o0_1a_h {l : Launch} : ∀ q ∈ gp_o0_1a_c, ∃ M' : ck_MM, cm_ms[q.1]? = some M' ∧ gck_Ok l gv_tab (1, 2561) M'.1 q.2 := (List.forall_mem_cons.mpr ⟨⟨_, cm_g120, gt_777_ok.wid (Nat.zero_le _) (by decide)⟩, (List.forall_mem_cons.mpr ⟨⟨_, cm_g174, gt_778_ok.wid (Nat.zero_le _) (by decide)⟩, (fun _ h => by cases h)⟩)⟩)
def gc_199 : ck_C := ((6, 2), [gv_F, (gv_g 0 3 144 0), (gv_g (-2147483648) (-1) 145 0), (gv_g (-2147483648) 2147483647 146 0), (gv_g (-2147483648) 2147483647 147 0)])
def gp_o0_1a_B : ck_A := ([(0, (gv_r 1 0)), (1, (gv_r 1 1)), (2, (gv_r 1 12)), (3, (gv_r 1 16)), (4, (gv_g 1 2556 149 0))], [], [gc_199, gc_71, gc_192, ((2, 0), []), ((2, 0), []), ((2, 0), []), ((2, 0), []), ((2, 0), []), gc_16, gc_16, gc_16, gc_16, gc_195, ((2, 0), []), gc_28, gc_29, ((1, 1), [gv_L])])
def gp_o0_1a_K : ck_Ct := ([], gp_o0_1a_B.2.2, [], .inl none, (9, 128, 1, 6))
def gp_o0_1a_w : List Nat := []
def gp_o0_1a_n : List (Nat × ck_An) := [(33, (gs_7, (0, []), 1, 6))]
def gp_o0_1a_l : List (List ck_C × (Option ck_V ⊕ Nat)) := []
theorem gp_o0_1a_m : gck_ex ce_11 gv_tab (1, 2561) true cm_ms gp_o0_1a_c [] kco_law glw_M gp_o0_1a_K gp_o0_1a_l gp_o0_1a_w [] gp_o0_1a_n none 65 (148, gp_o0_1a_B, 0, 0) = true := by decide +kernel
def gp_o0_1b_c : List (Nat × ck_Kt) := [(120, gt_780), (174, gt_781)]
theorem gp_o0_1b_h {l : Launch} : ∀ q ∈ gp_o0_1b_c, ∃ M' : ck_MM, cm_ms[q.1]? = some M' ∧ gck_Ok l gv_tab (1, 2561) M'.1 q.2 := (List.forall_mem_cons.mpr ⟨⟨_, cm_g120, gt_780_ok.wid (Nat.zero_le _) (by decide)⟩, (List.forall_mem_cons.mpr ⟨⟨_, cm_g174, gt_781_ok.wid (Nat.zero_le _) (by decide)⟩, (fun _ h => by cases h)⟩)⟩)
def gc_200 : ck_C := ((6, 2), [gv_F, (gv_g 0 3 144 0), (gv_g 4 2147483647 145 0), (gv_g (-2147483648) 2147483647 146 0), (gv_g (-2147483648) 2147483647 147 0)])
def gp_o0_1b_B : ck_A := ([(0, (gv_r 1 0)), (1, (gv_r 1 1)), (2, (gv_r 1 12)), (3, (gv_r 1 16)), (4, (gv_g 1 2556 149 0))], [], [gc_200, gc_71, gc_192, ((2, 0), []), ((2, 0), []), ((2, 0), []), ((2, 0), []), ((2, 0), []), gc_16, gc_16, gc_16, gc_16, gc_195, ((2, 0), []), gc_28, gc_29, ((1, 1), [gv_L])])
def gp_o0_1b_K : ck_Ct := ([], gp_o0_1b_B.2.2, [], .inl none, (9, 128, 1, 6))
def gp_o0_1b_w : List Nat := []
def gp_o0_1b_n : List (Nat × ck_An) := [(33, (gs_7, (0, []), 1, 6))]
def gp_o0_1b_l : List (List ck_C × (Option ck_V ⊕ Nat)) := []
theorem gp_o0_1b_m : gck_ex ce_11 gv_tab (1, 2561) true cm_ms gp_o0_1b_c [] kco_law glw_M gp_o0_1b_K gp_o0_1b_l gp_o0_1b_w [] gp_o0_1b_n none 65 (148, gp_o0_1b_B, 0, 0) = true := by decide +kernel
def gp_i0_1_c : List (Nat × ck_Kt) := []
theorem gp_i0_1_h {l : Launch} : ∀ q ∈ gp_i0_1_c, ∃ M' : ck_MM, cm_ms[q.1]? = some M' ∧ gck_Ok l gv_tab (1, 2561) M'.1 q.2 := (fun _ h => by cases h)
def gc_201 : ck_C := ((6, 2), [gv_F, (gv_g 0 3 144 0), (gv_g 0 3 145 0), (gv_g (-2147483648) 2147483647 146 0), (gv_g (-2147483648) 2147483647 147 0)])
def gp_i0_1_B : ck_A := ([(0, (gv_r 1 0)), (1, (gv_r 1 1)), (2, (gv_r 1 12)), (3, (gv_r 1 16)), (4, (gv_g 1 2556 149 0))], [], [gc_201, gc_71, gc_192, ((2, 0), []), ((2, 0), []), ((2, 0), []), ((2, 0), []), ((2, 0), []), gc_16, gc_16, gc_16, gc_16, gc_195, ((2, 0), []), gc_28, gc_29, ((1, 1), [gv_L])])
def gp_i0_1_K : ck_Ct := ([], gp_i0_1_B.2.2, [], .inl none, (0, 0, 0, 0))
def gp_i0_1_w : List Nat := []
def gs_29 : ck_A := ([(0, (gv_r 1 0)), (1, (gv_r 1 1)), (2, (gv_r 1 12)), (3, (gv_r 1 16)), (4, (gv_g 1 2556 149 0))], [gv_L, (gv_g 0 3 145 0), (gv_g 0 3 144 0), (gv_r 1 1)], [gc_201, gc_71, gc_192, ((2, 0), []), ((2, 0), []), ((2, 0), []), ((2, 0), []), ((2, 0), []), gc_16, gc_16, gc_16, gc_16, gc_195, ((2, 0), []), gc_28, gc_29, ((1, 1), [gv_L])])
def gp_i0_1_n : List (Nat × ck_An) := [(183, (gs_29, (0, []), 0, 0))]
def gp_i0_1_l : List (List ck_C × (Option ck_V ⊕ Nat)) := []
theorem gp_i0_1_m : gck_ex ce_11 gv_tab (1, 2561) true cm_ms gp_i0_1_c [] kco_law glw_M gp_i0_1_K gp_i0_1_l gp_i0_1_w [] gp_i0_1_n none 31 (148, gp_i0_1_B, 0, 0) = true := by decide +kernel
def gp_i0_2_c : List (Nat × ck_Kt) := []
theorem gp_i0_2_h {l : Launch} : ∀ q ∈ gp_i0_2_c, ∃ M' : ck_MM, cm_ms[q.1]? = some M' ∧ gck_Ok l gv_tab (1, 2561) M'.1 q.2 := (fun _ h => by cases h)
def gp_i0_2_B : ck_A := ([(0, (gv_r 1 0)), (1, (gv_r 1 1)), (2, (gv_r 1 12)), (3, (gv_r 1 16)), (4, (gv_g 1 2556 149 0))], [(gv_i 0 0)], [gc_201, gc_71, gc_192, ((2, 0), []), ((2, 0), []), ((2, 0), []), ((2, 0), []), ((2, 0), []), gc_16, gc_16, gc_16, gc_16, gc_195, ((2, 0), []), gc_28, gc_29, ((1, 1), [gv_L])])
def gp_i0_2_K : ck_Ct := ([], gp_i0_2_B.2.2, [], .inl none, (0, 0, 0, 0))
def gp_i0_2_w : List Nat := []
def gs_30 : ck_A := ([(0, (gv_r 1 0)), (1, (gv_r 1 1)), (2, (gv_r 1 12)), (3, (gv_r 1 16)), (4, (gv_g 1 2556 149 0)), (5, (gv_i 0 0))], [gv_L, (gv_g 0 3 145 0), (gv_g 0 3 144 0), (gv_r 1 12)], [gc_201, gc_71, gc_192, ((2, 0), []), ((2, 0), []), ((2, 0), []), ((2, 0), []), ((2, 0), []), gc_16, gc_16, gc_16, gc_16, gc_195, ((2, 0), []), gc_28, gc_29, ((1, 1), [gv_L])])
def gp_i0_2_n : List (Nat × ck_An) := [(223, (gs_30, (0, []), 0, 0))]
def gp_i0_2_l : List (List ck_C × (Option ck_V ⊕ Nat)) := []
theorem gp_i0_2_m : gck_ex ce_11 gv_tab (1, 2561) true cm_ms gp_i0_2_c [] kco_law glw_M gp_i0_2_K gp_i0_2_l gp_i0_2_w [] gp_i0_2_n none 32 (186, gp_i0_2_B, 0, 0) = true := by decide +kernel
def gp_i0_3_c : List (Nat × ck_Kt) := []
theorem gp_i0_3_h {l : Launch} : ∀ q ∈ gp_i0_3_c, ∃ M' : ck_MM, cm_ms[q.1]? = some M' ∧ gck_Ok l gv_tab (1, 2561) M'.1 q.2 := (fun _ h => by cases h)
def gc_202 : ck_C := ((0, 11), [(gv_i 0 0), gv_F, (gv_r 2 46), (gv_r 2 47), (gv_r 2 48), (gv_i 0 300), (gv_r 2 49), (gv_r 2 53), (gv_r 2 63), (gv_r 2 52), (gv_r 2 15), (gv_r 2 16), gv_F, (gv_r 2 60), (gv_r 1 14), (gv_r 2 54), (gv_r 2 62), (gv_r 2 62), (gv_i 0 8), (gv_r 2 58), (gv_r 2 58), (gv_r 2 61), (gv_r 2 61), (gv_r 2 61), (gv_r 2 61), (gv_r 2 50), (gv_r 2 50), (gv_r 2 50), (gv_r 1 15), (gv_r 2 51), (gv_r 2 50), (gv_r 2 50), (gv_r 2 59), (gv_r 2 17), (gv_i 0 48), (gv_r 2 55), (gv_r 2 56)])
def gp_i0_3_B : ck_A := ([(0, (gv_r 1 0)), (1, (gv_r 1 1)), (2, (gv_r 1 12)), (3, (gv_r 1 16)), (4, (gv_g 1 2556 149 0)), (5, (gv_i 0 0))], [], [gc_201, gc_71, gc_192, ((2, 0), []), ((2, 0), []), ((2, 0), []), ((2, 0), []), ((2, 0), []), gc_16, gc_16, gc_16, gc_16, gc_202, ((2, 0), []), gc_28, gc_29, ((1, 1), [gv_L])])
def gp_i0_3_K : ck_Ct := ([], gp_i0_3_B.2.2, [], .inl none, (0, 0, 0, 0))
def gp_i0_3_w : List Nat := []
def gp_i0_3_n : List (Nat × ck_An) := [(33, (gs_7, (0, []), 0, 0))]
def gp_i0_3_l : List (List ck_C × (Option ck_V ⊕ Nat)) := []
theorem gp_i0_3_m : gck_ex ce_11 gv_tab (1, 2561) true cm_ms gp_i0_3_c [] kco_law glw_M gp_i0_3_K gp_i0_3_l gp_i0_3_w [] gp_i0_3_n none 6 (226, gp_i0_3_B, 0, 0) = true := by decide +kernel
def gp_o1_0a_c : List (Nat × ck_Kt) := [(188, gt_789), (148, gt_788), (113, gt_787)]
theorem gp_o1_0a_h {l : Launch} : ∀ q ∈ gp_o1_0a_c, ∃ M' : ck_MM, cm_ms[q.1]? = some M' ∧ gck_Ok l gv_tab (1, 2561) M'.1 q.2 := (List.forall_mem_cons.mpr ⟨⟨_, cm_g188, gt_789_ok.wid (Nat.zero_le _) (by decide)⟩, (List.forall_mem_cons.mpr ⟨⟨_, cm_g148, gt_788_ok.wid (Nat.zero_le _) (by decide)⟩, (List.forall_mem_cons.mpr ⟨⟨_, cm_g113, gt_787_ok.wid (Nat.zero_le _) (by decide)⟩, (fun _ h => by cases h)⟩)⟩)⟩)
def gp_o1_0a_B : ck_A := ([(0, (gv_r 1 0)), (1, (gv_r 1 1)), (2, (gv_r 1 12)), (3, (gv_r 1 16)), (4, (gv_g 1 2556 149 0))], [], [gc_197, gc_71, gc_192, ((2, 0), []), ((2, 0), []), ((2, 0), []), ((2, 0), []), ((2, 0), []), gc_16, gc_16, gc_16, gc_16, gc_195, ((2, 0), []), gc_28, gc_29, ((1, 1), [gv_L])])
def gp_o1_0a_K : ck_Ct := ([], gp_o1_0a_B.2.2, [], .inl none, (9, 127, 1, 6))
def gp_o1_0a_w : List Nat := []
def gp_o1_0a_n : List (Nat × ck_An) := [(33, (gs_7, (0, []), 1, 6))]
def gp_o1_0a_l : List (List ck_C × (Option ck_V ⊕ Nat)) := []
theorem gp_o1_0a_m : gck_ex ce_11 gv_tab (1, 2561) true cm_ms gp_o1_0a_c [] kco_law glw_M gp_o1_0a_K gp_o1_0a_l gp_o1_0a_w [] gp_o1_0a_n none 39 (229, gp_o1_0a_B, 0, 0) = true := by decide +kernel
def gp_o1_0b_c : List (Nat × ck_Kt) := [(188, gt_789), (148, gt_792), (113, gt_791)]
theorem gp_o1_0b_h {l : Launch} : ∀ q ∈ gp_o1_0b_c, ∃ M' : ck_MM, cm_ms[q.1]? = some M' ∧ gck_Ok l gv_tab (1, 2561) M'.1 q.2 := (List.forall_mem_cons.mpr ⟨⟨_, cm_g188, gt_789_ok.wid (Nat.zero_le _) (by decide)⟩, (List.forall_mem_cons.mpr ⟨⟨_, cm_g148, gt_792_ok.wid (Nat.zero_le _) (by decide)⟩, (List.forall_mem_cons.mpr ⟨⟨_, cm_g113, gt_791_ok.wid (Nat.zero_le _) (by decide)⟩, (fun _ h => by cases h)⟩)⟩)⟩)
def gp_o1_0b_B : ck_A := ([(0, (gv_r 1 0)), (1, (gv_r 1 1)), (2, (gv_r 1 12)), (3, (gv_r 1 16)), (4, (gv_g 1 2556 149 0))], [], [gc_198, gc_71, gc_192, ((2, 0), []), ((2, 0), []), ((2, 0), []), ((2, 0), []), ((2, 0), []), gc_16, gc_16, gc_16, gc_16, gc_195, ((2, 0), []), gc_28, gc_29, ((1, 1), [gv_L])])
def gp_o1_0b_K : ck_Ct := ([], gp_o1_0b_B.2.2, [], .inl none, (9, 127, 1, 6))
def gp_o1_0b_w : List Nat := []
def gp_o1_0b_n : List (Nat × ck_An) := [(33, (gs_7, (0, []), 1, 6))]
def gp_o1_0b_l : List (List ck_C × (Option ck_V ⊕ Nat)) := []
theorem gp_o1_0b_m : gck_ex ce_11 gv_tab (1, 2561) true cm_ms gp_o1_0b_c [] kco_law glw_M gp_o1_0b_K gp_o1_0b_l gp_o1_0b_w [] gp_o1_0b_n none 39 (229, gp_o1_0b_B, 0, 0) = true := by decide +kernel
def gp_o1_1a_c : List (Nat × ck_Kt) := [(188, gt_789), (148, gt_795), (113, gt_794)]
theorem gp_o1_1a_h {l : Launch} : ∀ q ∈ gp_o1_1a_c, ∃ M' : ck_MM, cm_ms[q.1]? = some M' ∧ gck_Ok l gv_tab (1, 2561) M'.1 q.2 := (List.forall_mem_cons.mpr ⟨⟨_, cm_g188, gt_789_ok.wid (Nat.zero_le _) (by decide)⟩, (List.forall_mem_cons.mpr ⟨⟨_, cm_g148, gt_795_ok.wid (Nat.zero_le _) (by decide)⟩, (List.forall_mem_cons.mpr ⟨⟨_, cm_g113, gt_794_ok.wid (Nat.zero_le _) (by decide)⟩, (fun _ h => by cases h)⟩)⟩)⟩)
def gp_o1_1a_B : ck_A := ([(0, (gv_r 1 0)), (1, (gv_r 1 1)), (2, (gv_r 1 12)), (3, (gv_r 1 16)), (4, (gv_g 1 2556 149 0))], [], [gc_199, gc_71, gc_192, ((2, 0), []), ((2, 0), []), ((2, 0), []), ((2, 0), []), ((2, 0), []), gc_16, gc_16, gc_16, gc_16, gc_195, ((2, 0), []), gc_28, gc_29, ((1, 1), [gv_L])])
def gp_o1_1a_K : ck_Ct := ([], gp_o1_1a_B.2.2, [], .inl none, (9, 127, 1, 6))
def gp_o1_1a_w : List Nat := []
def gp_o1_1a_n : List (Nat × ck_An) := [(33, (gs_7, (0, []), 1, 6))]
def gp_o1_1a_l : List (List ck_C × (Option ck_V ⊕ Nat)) := []
theorem gp_o1_1a_m : gck_ex ce_11 gv_tab (1, 2561) true cm_ms gp_o1_1a_c [] kco_law glw_M gp_o1_1a_K gp_o1_1a_l gp_o1_1a_w [] gp_o1_1a_n none 39 (229, gp_o1_1a_B, 0, 0) = true := by decide +kernel
def gp_o1_1b_c : List (Nat × ck_Kt) := [(188, gt_789), (148, gt_798), (113, gt_797)]
theorem gp_o1_1b_h {l : Launch} : ∀ q ∈ gp_o1_1b_c, ∃ M' : ck_MM, cm_ms[q.1]? = some M' ∧ gck_Ok l gv_tab (1, 2561) M'.1 q.2 := (List.forall_mem_cons.mpr ⟨⟨_, cm_g188, gt_789_ok.wid (Nat.zero_le _) (by decide)⟩, (List.forall_mem_cons.mpr ⟨⟨_, cm_g148, gt_798_ok.wid (Nat.zero_le _) (by decide)⟩, (List.forall_mem_cons.mpr ⟨⟨_, cm_g113, gt_797_ok.wid (Nat.zero_le _) (by decide)⟩, (fun _ h => by cases h)⟩)⟩)⟩)
def gp_o1_1b_B : ck_A := ([(0, (gv_r 1 0)), (1, (gv_r 1 1)), (2, (gv_r 1 12)), (3, (gv_r 1 16)), (4, (gv_g 1 2556 149 0))], [], [gc_200, gc_71, gc_192, ((2, 0), []), ((2, 0), []), ((2, 0), []), ((2, 0), []), ((2, 0), []), gc_16, gc_16, gc_16, gc_16, gc_195, ((2, 0), []), gc_28, gc_29, ((1, 1), [gv_L])])
def gp_o1_1b_K : ck_Ct := ([], gp_o1_1b_B.2.2, [], .inl none, (9, 127, 1, 6))
def gp_o1_1b_w : List Nat := []
def gp_o1_1b_n : List (Nat × ck_An) := [(33, (gs_7, (0, []), 1, 6))]
def gp_o1_1b_l : List (List ck_C × (Option ck_V ⊕ Nat)) := []
theorem gp_o1_1b_m : gck_ex ce_11 gv_tab (1, 2561) true cm_ms gp_o1_1b_c [] kco_law glw_M gp_o1_1b_K gp_o1_1b_l gp_o1_1b_w [] gp_o1_1b_n none 39 (229, gp_o1_1b_B, 0, 0) = true := by decide +kernel
def gp_i1_1_c : List (Nat × ck_Kt) := []
theorem gp_i1_1_h {l : Launch} : ∀ q ∈ gp_i1_1_c, ∃ M' : ck_MM, cm_ms[q.1]? = some M' ∧ gck_Ok l gv_tab (1, 2561) M'.1 q.2 := (fun _ h => by cases h)
def gp_i1_1_B : ck_A := ([(0, (gv_r 1 0)), (1, (gv_r 1 1)), (2, (gv_r 1 12)), (3, (gv_r 1 16)), (4, (gv_g 1 2556 149 0))], [], [gc_201, gc_71, gc_192, ((2, 0), []), ((2, 0), []), ((2, 0), []), ((2, 0), []), ((2, 0), []), gc_16, gc_16, gc_16, gc_16, gc_195, ((2, 0), []), gc_28, gc_29, ((1, 1), [gv_L])])
def gp_i1_1_K : ck_Ct := ([], gp_i1_1_B.2.2, [], .inl none, (0, 0, 0, 0))
def gp_i1_1_w : List Nat := []
def gs_31 : ck_A := ([(0, (gv_r 1 0)), (1, (gv_r 1 1)), (2, (gv_r 1 12)), (3, (gv_r 1 16)), (4, (gv_g 1 2556 149 0))], [(gv_r 1 16), (gv_g 0 3 145 0), (gv_g 0 3 144 0), (gv_r 1 1)], [gc_201, gc_71, gc_192, ((2, 0), []), ((2, 0), []), ((2, 0), []), ((2, 0), []), ((2, 0), []), gc_16, gc_16, gc_16, gc_16, gc_195, ((2, 0), []), gc_28, gc_29, ((1, 1), [gv_L])])
def gp_i1_1_n : List (Nat × ck_An) := [(243, (gs_31, (0, []), 0, 0))]
def gp_i1_1_l : List (List ck_C × (Option ck_V ⊕ Nat)) := []
theorem gp_i1_1_m : gck_ex ce_11 gv_tab (1, 2561) true cm_ms gp_i1_1_c [] kco_law glw_M gp_i1_1_K gp_i1_1_l gp_i1_1_w [] gp_i1_1_n none 15 (229, gp_i1_1_B, 0, 0) = true := by decide +kernel
def gp_i1_2_c : List (Nat × ck_Kt) := []
theorem gp_i1_2_h {l : Launch} : ∀ q ∈ gp_i1_2_c, ∃ M' : ck_MM, cm_ms[q.1]? = some M' ∧ gck_Ok l gv_tab (1, 2561) M'.1 q.2 := (fun _ h => by cases h)
def gp_i1_2_B : ck_A := ([(0, (gv_r 1 0)), (1, (gv_r 1 1)), (2, (gv_r 1 12)), (3, (gv_r 1 16)), (4, (gv_g 1 2556 149 0))], [(gv_i 0 0)], [gc_201, gc_71, gc_192, ((2, 0), []), ((2, 0), []), ((2, 0), []), ((2, 0), []), ((2, 0), []), gc_16, gc_16, gc_16, gc_16, gc_195, ((2, 0), []), gc_28, gc_29, ((1, 1), [gv_L])])
def gp_i1_2_K : ck_Ct := ([], gp_i1_2_B.2.2, [], .inl none, (0, 0, 0, 0))
def gp_i1_2_w : List Nat := []
def gs_32 : ck_A := ([(0, (gv_r 1 0)), (1, (gv_r 1 1)), (2, (gv_r 1 12)), (3, (gv_r 1 16)), (4, (gv_g 1 2556 149 0)), (5, (gv_i 0 0))], [(gv_g 0 3 145 0), (gv_g 0 3 144 0), (gv_r 1 12)], [gc_201, gc_71, gc_192, ((2, 0), []), ((2, 0), []), ((2, 0), []), ((2, 0), []), ((2, 0), []), gc_16, gc_16, gc_16, gc_16, gc_195, ((2, 0), []), gc_28, gc_29, ((1, 1), [gv_L])])
def gp_i1_2_n : List (Nat × ck_An) := [(261, (gs_32, (0, []), 0, 0))]
def gp_i1_2_l : List (List ck_C × (Option ck_V ⊕ Nat)) := []
theorem gp_i1_2_m : gck_ex ce_11 gv_tab (1, 2561) true cm_ms gp_i1_2_c [] kco_law glw_M gp_i1_2_K gp_i1_2_l gp_i1_2_w [] gp_i1_2_n none 15 (246, gp_i1_2_B, 0, 0) = true := by decide +kernel
def gp_o2_0a_c : List (Nat × ck_Kt) := [(106, gt_804), (128, gt_805)]
theorem gp_o2_0a_h {l : Launch} : ∀ q ∈ gp_o2_0a_c, ∃ M' : ck_MM, cm_ms[q.1]? = some M' ∧ gck_Ok l gv_tab (1, 2561) M'.1 q.2 := (List.forall_mem_cons.mpr ⟨⟨_, cm_g106, gt_804_ok.wid (Nat.zero_le _) (by decide)⟩, (List.forall_mem_cons.mpr ⟨⟨_, cm_g128, gt_805_ok.wid (Nat.zero_le _) (by decide)⟩, (fun _ h => by cases h)⟩)⟩)
def gp_o2_0a_B : ck_A := ([(0, (gv_r 1 0)), (1, (gv_r 1 1)), (2, (gv_r 1 12)), (3, (gv_r 1 16)), (4, (gv_g 1 2556 149 0))], [], [gc_197, gc_71, gc_192, ((2, 0), []), ((2, 0), []), ((2, 0), []), ((2, 0), []), ((2, 0), []), gc_16, gc_16, gc_16, gc_16, gc_195, ((2, 0), []), gc_28, gc_29, ((1, 1), [gv_L])])
def gp_o2_0a_K : ck_Ct := ([], gp_o2_0a_B.2.2, [], .inl none, (9, 126, 1, 6))
def gp_o2_0a_w : List Nat := []
def gp_o2_0a_n : List (Nat × ck_An) := [(33, (gs_7, (0, []), 1, 6))]
def gp_o2_0a_l : List (List ck_C × (Option ck_V ⊕ Nat)) := []
theorem gp_o2_0a_m : gck_ex ce_11 gv_tab (1, 2561) true cm_ms gp_o2_0a_c [] kco_law glw_M gp_o2_0a_K gp_o2_0a_l gp_o2_0a_w [] gp_o2_0a_n none 41 (296, gp_o2_0a_B, 0, 0) = true := by decide +kernel
def gp_o2_0b_c : List (Nat × ck_Kt) := [(106, gt_807), (128, gt_808)]
theorem gp_o2_0b_h {l : Launch} : ∀ q ∈ gp_o2_0b_c, ∃ M' : ck_MM, cm_ms[q.1]? = some M' ∧ gck_Ok l gv_tab (1, 2561) M'.1 q.2 := (List.forall_mem_cons.mpr ⟨⟨_, cm_g106, gt_807_ok.wid (Nat.zero_le _) (by decide)⟩, (List.forall_mem_cons.mpr ⟨⟨_, cm_g128, gt_808_ok.wid (Nat.zero_le _) (by decide)⟩, (fun _ h => by cases h)⟩)⟩)
def gp_o2_0b_B : ck_A := ([(0, (gv_r 1 0)), (1, (gv_r 1 1)), (2, (gv_r 1 12)), (3, (gv_r 1 16)), (4, (gv_g 1 2556 149 0))], [], [gc_198, gc_71, gc_192, ((2, 0), []), ((2, 0), []), ((2, 0), []), ((2, 0), []), ((2, 0), []), gc_16, gc_16, gc_16, gc_16, gc_195, ((2, 0), []), gc_28, gc_29, ((1, 1), [gv_L])])
def gp_o2_0b_K : ck_Ct := ([], gp_o2_0b_B.2.2, [], .inl none, (9, 126, 1, 6))
def gp_o2_0b_w : List Nat := []
def gp_o2_0b_n : List (Nat × ck_An) := [(33, (gs_7, (0, []), 1, 6))]
def gp_o2_0b_l : List (List ck_C × (Option ck_V ⊕ Nat)) := []
theorem gp_o2_0b_m : gck_ex ce_11 gv_tab (1, 2561) true cm_ms gp_o2_0b_c [] kco_law glw_M gp_o2_0b_K gp_o2_0b_l gp_o2_0b_w [] gp_o2_0b_n none 41 (296, gp_o2_0b_B, 0, 0) = true := by decide +kernel
def gp_o2_1a_c : List (Nat × ck_Kt) := [(106, gt_810), (128, gt_811)]
theorem gp_o2_1a_h {l : Launch} : ∀ q ∈ gp_o2_1a_c, ∃ M' : ck_MM, cm_ms[q.1]? = some M' ∧ gck_Ok l gv_tab (1, 2561) M'.1 q.2 := (List.forall_mem_cons.mpr ⟨⟨_, cm_g106, gt_810_ok.wid (Nat.zero_le _) (by decide)⟩, (List.forall_mem_cons.mpr ⟨⟨_, cm_g128, gt_811_ok.wid (Nat.zero_le _) (by decide)⟩, (fun _ h => by cases h)⟩)⟩)
def gp_o2_1a_B : ck_A := ([(0, (gv_r 1 0)), (1, (gv_r 1 1)), (2, (gv_r 1 12)), (3, (gv_r 1 16)), (4, (gv_g 1 2556 149 0))], [], [gc_199, gc_71, gc_192, ((2, 0), []), ((2, 0), []), ((2, 0), []), ((2, 0), []), ((2, 0), []), gc_16, gc_16, gc_16, gc_16, gc_195, ((2, 0), []), gc_28, gc_29, ((1, 1), [gv_L])])
def gp_o2_1a_K : ck_Ct := ([], gp_o2_1a_B.2.2, [], .inl none, (9, 126, 1, 6))
def gp_o2_1a_w : List Nat := []
def gp_o2_1a_n : List (Nat × ck_An) := [(33, (gs_7, (0, []), 1, 6))]
def gp_o2_1a_l : List (List ck_C × (Option ck_V ⊕ Nat)) := []
theorem gp_o2_1a_m : gck_ex ce_11 gv_tab (1, 2561) true cm_ms gp_o2_1a_c [] kco_law glw_M gp_o2_1a_K gp_o2_1a_l gp_o2_1a_w [] gp_o2_1a_n none 41 (296, gp_o2_1a_B, 0, 0) = true := by decide +kernel
def gp_o2_1b_c : List (Nat × ck_Kt) := [(106, gt_813), (128, gt_814)]
theorem gp_o2_1b_h {l : Launch} : ∀ q ∈ gp_o2_1b_c, ∃ M' : ck_MM, cm_ms[q.1]? = some M' ∧ gck_Ok l gv_tab (1, 2561) M'.1 q.2 := (List.forall_mem_cons.mpr ⟨⟨_, cm_g106, gt_813_ok.wid (Nat.zero_le _) (by decide)⟩, (List.forall_mem_cons.mpr ⟨⟨_, cm_g128, gt_814_ok.wid (Nat.zero_le _) (by decide)⟩, (fun _ h => by cases h)⟩)⟩)
def gp_o2_1b_B : ck_A := ([(0, (gv_r 1 0)), (1, (gv_r 1 1)), (2, (gv_r 1 12)), (3, (gv_r 1 16)), (4, (gv_g 1 2556 149 0))], [], [gc_200, gc_71, gc_192, ((2, 0), []), ((2, 0), []), ((2, 0), []), ((2, 0), []), ((2, 0), []), gc_16, gc_16, gc_16, gc_16, gc_195, ((2, 0), []), gc_28, gc_29, ((1, 1), [gv_L])])
def gp_o2_1b_K : ck_Ct := ([], gp_o2_1b_B.2.2, [], .inl none, (9, 126, 1, 6))
def gp_o2_1b_w : List Nat := []
def gp_o2_1b_n : List (Nat × ck_An) := [(33, (gs_7, (0, []), 1, 6))]
def gp_o2_1b_l : List (List ck_C × (Option ck_V ⊕ Nat)) := []
theorem gp_o2_1b_m : gck_ex ce_11 gv_tab (1, 2561) true cm_ms gp_o2_1b_c [] kco_law glw_M gp_o2_1b_K gp_o2_1b_l gp_o2_1b_w [] gp_o2_1b_n none 41 (296, gp_o2_1b_B, 0, 0) = true := by decide +kernel
def gp_o2_2a_c : List (Nat × ck_Kt) := [(106, gt_816), (128, gt_817)]
theorem gp_o2_2a_h {l : Launch} : ∀ q ∈ gp_o2_2a_c, ∃ M' : ck_MM, cm_ms[q.1]? = some M' ∧ gck_Ok l gv_tab (1, 2561) M'.1 q.2 := (List.forall_mem_cons.mpr ⟨⟨_, cm_g106, gt_816_ok.wid (Nat.zero_le _) (by decide)⟩, (List.forall_mem_cons.mpr ⟨⟨_, cm_g128, gt_817_ok.wid (Nat.zero_le _) (by decide)⟩, (fun _ h => by cases h)⟩)⟩)
def gc_203 : ck_C := ((6, 2), [gv_F, (gv_g 0 3 144 0), (gv_g 0 3 145 0), (gv_g (-2147483648) (-1) 146 0), (gv_g (-2147483648) 2147483647 147 0)])
def gp_o2_2a_B : ck_A := ([(0, (gv_r 1 0)), (1, (gv_r 1 1)), (2, (gv_r 1 12)), (3, (gv_r 1 16)), (4, (gv_g 1 2556 149 0))], [], [gc_203, gc_71, gc_192, ((2, 0), []), ((2, 0), []), ((2, 0), []), ((2, 0), []), ((2, 0), []), gc_16, gc_16, gc_16, gc_16, gc_195, ((2, 0), []), gc_28, gc_29, ((1, 1), [gv_L])])
def gp_o2_2a_K : ck_Ct := ([], gp_o2_2a_B.2.2, [], .inl none, (9, 126, 1, 6))
def gp_o2_2a_w : List Nat := []
def gp_o2_2a_n : List (Nat × ck_An) := [(33, (gs_7, (0, []), 1, 6))]
def gp_o2_2a_l : List (List ck_C × (Option ck_V ⊕ Nat)) := []
theorem gp_o2_2a_m : gck_ex ce_11 gv_tab (1, 2561) true cm_ms gp_o2_2a_c [] kco_law glw_M gp_o2_2a_K gp_o2_2a_l gp_o2_2a_w [] gp_o2_2a_n none 41 (296, gp_o2_2a_B, 0, 0) = true := by decide +kernel
def gp_o2_2b_c : List (Nat × ck_Kt) := [(106, gt_819), (128, gt_820)]
theorem gp_o2_2b_h {l : Launch} : ∀ q ∈ gp_o2_2b_c, ∃ M' : ck_MM, cm_ms[q.1]? = some M' ∧ gck_Ok l gv_tab (1, 2561) M'.1 q.2 := (List.forall_mem_cons.mpr ⟨⟨_, cm_g106, gt_819_ok.wid (Nat.zero_le _) (by decide)⟩, (List.forall_mem_cons.mpr ⟨⟨_, cm_g128, gt_820_ok.wid (Nat.zero_le _) (by decide)⟩, (fun _ h => by cases h)⟩)⟩)
def gc_204 : ck_C := ((6, 2), [gv_F, (gv_g 0 3 144 0), (gv_g 0 3 145 0), (gv_g 4 2147483647 146 0), (gv_g (-2147483648) 2147483647 147 0)])
def gp_o2_2b_B : ck_A := ([(0, (gv_r 1 0)), (1, (gv_r 1 1)), (2, (gv_r 1 12)), (3, (gv_r 1 16)), (4, (gv_g 1 2556 149 0))], [], [gc_204, gc_71, gc_192, ((2, 0), []), ((2, 0), []), ((2, 0), []), ((2, 0), []), ((2, 0), []), gc_16, gc_16, gc_16, gc_16, gc_195, ((2, 0), []), gc_28, gc_29, ((1, 1), [gv_L])])
def gp_o2_2b_K : ck_Ct := ([], gp_o2_2b_B.2.2, [], .inl none, (9, 126, 1, 6))
def gp_o2_2b_w : List Nat := []
def gp_o2_2b_n : List (Nat × ck_An) := [(33, (gs_7, (0, []), 1, 6))]
def gp_o2_2b_l : List (List ck_C × (Option ck_V ⊕ Nat)) := []
theorem gp_o2_2b_m : gck_ex ce_11 gv_tab (1, 2561) true cm_ms gp_o2_2b_c [] kco_law glw_M gp_o2_2b_K gp_o2_2b_l gp_o2_2b_w [] gp_o2_2b_n none 41 (296, gp_o2_2b_B, 0, 0) = true := by decide +kernel
def gp_i2_1_c : List (Nat × ck_Kt) := []
theorem gp_i2_1_h {l : Launch} : ∀ q ∈ gp_i2_1_c, ∃ M' : ck_MM, cm_ms[q.1]? = some M' ∧ gck_Ok l gv_tab (1, 2561) M'.1 q.2 := (fun _ h => by cases h)
def gc_205 : ck_C := ((6, 2), [gv_F, (gv_g 0 3 144 0), (gv_g 0 3 145 0), (gv_g 0 3 146 0), (gv_g (-2147483648) 2147483647 147 0)])
def gp_i2_1_B : ck_A := ([(0, (gv_r 1 0)), (1, (gv_r 1 1)), (2, (gv_r 1 12)), (3, (gv_r 1 16)), (4, (gv_g 1 2556 149 0))], [], [gc_205, gc_71, gc_192, ((2, 0), []), ((2, 0), []), ((2, 0), []), ((2, 0), []), ((2, 0), []), gc_16, gc_16, gc_16, gc_16, gc_195, ((2, 0), []), gc_28, gc_29, ((1, 1), [gv_L])])
def gp_i2_1_K : ck_Ct := ([], gp_i2_1_B.2.2, [], .inl none, (0, 0, 0, 0))
def gp_i2_1_w : List Nat := []
def gs_33 : ck_A := ([(0, (gv_r 1 0)), (1, (gv_r 1 1)), (2, (gv_r 1 12)), (3, (gv_r 1 16)), (4, (gv_g 1 2556 149 0))], [(gv_g 0 3 146 0), (gv_g 0 3 145 0), (gv_g 0 3 144 0), (gv_r 1 1)], [gc_205, gc_71, gc_192, ((2, 0), []), ((2, 0), []), ((2, 0), []), ((2, 0), []), ((2, 0), []), gc_16, gc_16, gc_16, gc_16, gc_195, ((2, 0), []), gc_28, gc_29, ((1, 1), [gv_L])])
def gp_i2_1_n : List (Nat × ck_An) := [(315, (gs_33, (0, []), 0, 0))]
def gp_i2_1_l : List (List ck_C × (Option ck_V ⊕ Nat)) := []
theorem gp_i2_1_m : gck_ex ce_11 gv_tab (1, 2561) true cm_ms gp_i2_1_c [] kco_law glw_M gp_i2_1_K gp_i2_1_l gp_i2_1_w [] gp_i2_1_n none 19 (296, gp_i2_1_B, 0, 0) = true := by decide +kernel
def gp_i2_2_c : List (Nat × ck_Kt) := []
theorem gp_i2_2_h {l : Launch} : ∀ q ∈ gp_i2_2_c, ∃ M' : ck_MM, cm_ms[q.1]? = some M' ∧ gck_Ok l gv_tab (1, 2561) M'.1 q.2 := (fun _ h => by cases h)
def gp_i2_2_B : ck_A := ([(0, (gv_r 1 0)), (1, (gv_r 1 1)), (2, (gv_r 1 12)), (3, (gv_r 1 16)), (4, (gv_g 1 2556 149 0))], [(gv_i 0 0)], [gc_205, gc_71, gc_192, ((2, 0), []), ((2, 0), []), ((2, 0), []), ((2, 0), []), ((2, 0), []), gc_16, gc_16, gc_16, gc_16, gc_195, ((2, 0), []), gc_28, gc_29, ((1, 1), [gv_L])])
def gp_i2_2_K : ck_Ct := ([], gp_i2_2_B.2.2, [], .inl none, (0, 0, 0, 0))
def gp_i2_2_w : List Nat := []
def gs_34 : ck_A := ([(0, (gv_r 1 0)), (1, (gv_r 1 1)), (2, (gv_r 1 12)), (3, (gv_r 1 16)), (4, (gv_g 1 2556 149 0)), (5, (gv_i 0 0))], [(gv_g 0 3 146 0), (gv_g 0 3 145 0), (gv_g 0 3 144 0), (gv_r 1 12)], [gc_205, gc_71, gc_192, ((2, 0), []), ((2, 0), []), ((2, 0), []), ((2, 0), []), ((2, 0), []), gc_16, gc_16, gc_16, gc_16, gc_195, ((2, 0), []), gc_28, gc_29, ((1, 1), [gv_L])])
def gp_i2_2_n : List (Nat × ck_An) := [(339, (gs_34, (0, []), 0, 0))]
def gp_i2_2_l : List (List ck_C × (Option ck_V ⊕ Nat)) := []
theorem gp_i2_2_m : gck_ex ce_11 gv_tab (1, 2561) true cm_ms gp_i2_2_c [] kco_law glw_M gp_i2_2_K gp_i2_2_l gp_i2_2_w [] gp_i2_2_n none 20 (318, gp_i2_2_B, 0, 0) = true := by decide +kernel
def gp_i2_3_c : List (Nat × ck_Kt) := []
theorem gp_i2_3_h {l : Launch} : ∀ q ∈ gp_i2_3_c, ∃ M' : ck_MM, cm_ms[q.1]? = some M' ∧ gck_Ok l gv_tab (1, 2561) M'.1 q.2 := (fun _ h => by cases h)
def gp_i2_3_B : ck_A := ([(0, (gv_r 1 0)), (1, (gv_r 1 1)), (2, (gv_r 1 12)), (3, (gv_r 1 16)), (4, (gv_g 1 2556 149 0)), (5, (gv_i 0 0))], [], [gc_205, gc_71, gc_192, ((2, 0), []), ((2, 0), []), ((2, 0), []), ((2, 0), []), ((2, 0), []), gc_16, gc_16, gc_16, gc_16, gc_202, ((2, 0), []), gc_28, gc_29, ((1, 1), [gv_L])])
def gp_i2_3_K : ck_Ct := ([], gp_i2_3_B.2.2, [], .inl none, (0, 0, 0, 0))
def gp_i2_3_w : List Nat := []
def gp_i2_3_n : List (Nat × ck_An) := [(33, (gs_7, (0, []), 0, 0))]
def gp_i2_3_l : List (List ck_C × (Option ck_V ⊕ Nat)) := []
theorem gp_i2_3_m : gck_ex ce_11 gv_tab (1, 2561) true cm_ms gp_i2_3_c [] kco_law glw_M gp_i2_3_K gp_i2_3_l gp_i2_3_w [] gp_i2_3_n none 6 (342, gp_i2_3_B, 0, 0) = true := by decide +kernel
def gp_o3_0a_c : List (Nat × ck_Kt) := [(116, gt_830), (162, gt_831)]
theorem gp_o3_0a_h {l : Launch} : ∀ q ∈ gp_o3_0a_c, ∃ M' : ck_MM, cm_ms[q.1]? = some M' ∧ gck_Ok l gv_tab (1, 2561) M'.1 q.2 := (List.forall_mem_cons.mpr ⟨⟨_, cm_g116, gt_830_ok.wid (Nat.zero_le _) (by decide)⟩, (List.forall_mem_cons.mpr ⟨⟨_, cm_g162, gt_831_ok.wid (Nat.zero_le _) (by decide)⟩, (fun _ h => by cases h)⟩)⟩)
def gp_o3_0a_B : ck_A := ([(0, (gv_r 1 0)), (1, (gv_r 1 1)), (2, (gv_r 1 12)), (3, (gv_r 1 16)), (4, (gv_g 1 2556 149 0))], [], [gc_197, gc_71, gc_192, ((2, 0), []), ((2, 0), []), ((2, 0), []), ((2, 0), []), ((2, 0), []), gc_16, gc_16, gc_16, gc_16, gc_195, ((2, 0), []), gc_28, gc_29, ((1, 1), [gv_L])])
def gp_o3_0a_K : ck_Ct := ([], gp_o3_0a_B.2.2, [], .inl none, (9, 126, 1, 6))
def gp_o3_0a_w : List Nat := []
def gp_o3_0a_n : List (Nat × ck_An) := [(33, (gs_7, (0, []), 1, 6))]
def gp_o3_0a_l : List (List ck_C × (Option ck_V ⊕ Nat)) := []
theorem gp_o3_0a_m : gck_ex ce_11 gv_tab (1, 2561) true cm_ms gp_o3_0a_c [] kco_law glw_M gp_o3_0a_K gp_o3_0a_l gp_o3_0a_w [] gp_o3_0a_n none 41 (345, gp_o3_0a_B, 0, 0) = true := by decide +kernel
def gp_o3_0b_c : List (Nat × ck_Kt) := [(116, gt_833), (162, gt_834)]
theorem gp_o3_0b_h {l : Launch} : ∀ q ∈ gp_o3_0b_c, ∃ M' : ck_MM, cm_ms[q.1]? = some M' ∧ gck_Ok l gv_tab (1, 2561) M'.1 q.2 := (List.forall_mem_cons.mpr ⟨⟨_, cm_g116, gt_833_ok.wid (Nat.zero_le _) (by decide)⟩, (List.forall_mem_cons.mpr ⟨⟨_, cm_g162, gt_834_ok.wid (Nat.zero_le _) (by decide)⟩, (fun _ h => by cases h)⟩)⟩)
def gp_o3_0b_B : ck_A := ([(0, (gv_r 1 0)), (1, (gv_r 1 1)), (2, (gv_r 1 12)), (3, (gv_r 1 16)), (4, (gv_g 1 2556 149 0))], [], [gc_198, gc_71, gc_192, ((2, 0), []), ((2, 0), []), ((2, 0), []), ((2, 0), []), ((2, 0), []), gc_16, gc_16, gc_16, gc_16, gc_195, ((2, 0), []), gc_28, gc_29, ((1, 1), [gv_L])])
def gp_o3_0b_K : ck_Ct := ([], gp_o3_0b_B.2.2, [], .inl none, (9, 126, 1, 6))
def gp_o3_0b_w : List Nat := []
def gp_o3_0b_n : List (Nat × ck_An) := [(33, (gs_7, (0, []), 1, 6))]
def gp_o3_0b_l : List (List ck_C × (Option ck_V ⊕ Nat)) := []
theorem gp_o3_0b_m : gck_ex ce_11 gv_tab (1, 2561) true cm_ms gp_o3_0b_c [] kco_law glw_M gp_o3_0b_K gp_o3_0b_l gp_o3_0b_w [] gp_o3_0b_n none 41 (345, gp_o3_0b_B, 0, 0) = true := by decide +kernel
def gp_o3_1a_c : List (Nat × ck_Kt) := [(116, gt_836), (162, gt_837)]
theorem gp_o3_1a_h {l : Launch} : ∀ q ∈ gp_o3_1a_c, ∃ M' : ck_MM, cm_ms[q.1]? = some M' ∧ gck_Ok l gv_tab (1, 2561) M'.1 q.2 := (List.forall_mem_cons.mpr ⟨⟨_, cm_g116, gt_836_ok.wid (Nat.zero_le _) (by decide)⟩, (List.forall_mem_cons.mpr ⟨⟨_, cm_g162, gt_837_ok.wid (Nat.zero_le _) (by decide)⟩, (fun _ h => by cases h)⟩)⟩)
def gp_o3_1a_B : ck_A := ([(0, (gv_r 1 0)), (1, (gv_r 1 1)), (2, (gv_r 1 12)), (3, (gv_r 1 16)), (4, (gv_g 1 2556 149 0))], [], [gc_199, gc_71, gc_192, ((2, 0), []), ((2, 0), []), ((2, 0), []), ((2, 0), []), ((2, 0), []), gc_16, gc_16, gc_16, gc_16, gc_195, ((2, 0), []), gc_28, gc_29, ((1, 1), [gv_L])])
def gp_o3_1a_K : ck_Ct := ([], gp_o3_1a_B.2.2, [], .inl none, (9, 126, 1, 6))
def gp_o3_1a_w : List Nat := []
def gp_o3_1a_n : List (Nat × ck_An) := [(33, (gs_7, (0, []), 1, 6))]
def gp_o3_1a_l : List (List ck_C × (Option ck_V ⊕ Nat)) := []
theorem gp_o3_1a_m : gck_ex ce_11 gv_tab (1, 2561) true cm_ms gp_o3_1a_c [] kco_law glw_M gp_o3_1a_K gp_o3_1a_l gp_o3_1a_w [] gp_o3_1a_n none 41 (345, gp_o3_1a_B, 0, 0) = true := by decide +kernel
def gp_o3_1b_c : List (Nat × ck_Kt) := [(116, gt_839), (162, gt_840)]
theorem gp_o3_1b_h {l : Launch} : ∀ q ∈ gp_o3_1b_c, ∃ M' : ck_MM, cm_ms[q.1]? = some M' ∧ gck_Ok l gv_tab (1, 2561) M'.1 q.2 := (List.forall_mem_cons.mpr ⟨⟨_, cm_g116, gt_839_ok.wid (Nat.zero_le _) (by decide)⟩, (List.forall_mem_cons.mpr ⟨⟨_, cm_g162, gt_840_ok.wid (Nat.zero_le _) (by decide)⟩, (fun _ h => by cases h)⟩)⟩)
def gp_o3_1b_B : ck_A := ([(0, (gv_r 1 0)), (1, (gv_r 1 1)), (2, (gv_r 1 12)), (3, (gv_r 1 16)), (4, (gv_g 1 2556 149 0))], [], [gc_200, gc_71, gc_192, ((2, 0), []), ((2, 0), []), ((2, 0), []), ((2, 0), []), ((2, 0), []), gc_16, gc_16, gc_16, gc_16, gc_195, ((2, 0), []), gc_28, gc_29, ((1, 1), [gv_L])])
def gp_o3_1b_K : ck_Ct := ([], gp_o3_1b_B.2.2, [], .inl none, (9, 126, 1, 6))
def gp_o3_1b_w : List Nat := []
def gp_o3_1b_n : List (Nat × ck_An) := [(33, (gs_7, (0, []), 1, 6))]
def gp_o3_1b_l : List (List ck_C × (Option ck_V ⊕ Nat)) := []
theorem gp_o3_1b_m : gck_ex ce_11 gv_tab (1, 2561) true cm_ms gp_o3_1b_c [] kco_law glw_M gp_o3_1b_K gp_o3_1b_l gp_o3_1b_w [] gp_o3_1b_n none 41 (345, gp_o3_1b_B, 0, 0) = true := by decide +kernel
def gp_o3_2a_c : List (Nat × ck_Kt) := [(116, gt_842), (162, gt_843)]
theorem gp_o3_2a_h {l : Launch} : ∀ q ∈ gp_o3_2a_c, ∃ M' : ck_MM, cm_ms[q.1]? = some M' ∧ gck_Ok l gv_tab (1, 2561) M'.1 q.2 := (List.forall_mem_cons.mpr ⟨⟨_, cm_g116, gt_842_ok.wid (Nat.zero_le _) (by decide)⟩, (List.forall_mem_cons.mpr ⟨⟨_, cm_g162, gt_843_ok.wid (Nat.zero_le _) (by decide)⟩, (fun _ h => by cases h)⟩)⟩)
def gp_o3_2a_B : ck_A := ([(0, (gv_r 1 0)), (1, (gv_r 1 1)), (2, (gv_r 1 12)), (3, (gv_r 1 16)), (4, (gv_g 1 2556 149 0))], [], [gc_203, gc_71, gc_192, ((2, 0), []), ((2, 0), []), ((2, 0), []), ((2, 0), []), ((2, 0), []), gc_16, gc_16, gc_16, gc_16, gc_195, ((2, 0), []), gc_28, gc_29, ((1, 1), [gv_L])])
def gp_o3_2a_K : ck_Ct := ([], gp_o3_2a_B.2.2, [], .inl none, (9, 126, 1, 6))
def gp_o3_2a_w : List Nat := []
def gp_o3_2a_n : List (Nat × ck_An) := [(33, (gs_7, (0, []), 1, 6))]
def gp_o3_2a_l : List (List ck_C × (Option ck_V ⊕ Nat)) := []
theorem gp_o3_2a_m : gck_ex ce_11 gv_tab (1, 2561) true cm_ms gp_o3_2a_c [] kco_law glw_M gp_o3_2a_K gp_o3_2a_l gp_o3_2a_w [] gp_o3_2a_n none 41 (345, gp_o3_2a_B, 0, 0) = true := by decide +kernel
def gp_o3_2b_c : List (Nat × ck_Kt) := [(116, gt_845), (162, gt_846)]
theorem gp_o3_2b_h {l : Launch} : ∀ q ∈ gp_o3_2b_c, ∃ M' : ck_MM, cm_ms[q.1]? = some M' ∧ gck_Ok l gv_tab (1, 2561) M'.1 q.2 := (List.forall_mem_cons.mpr ⟨⟨_, cm_g116, gt_845_ok.wid (Nat.zero_le _) (by decide)⟩, (List.forall_mem_cons.mpr ⟨⟨_, cm_g162, gt_846_ok.wid (Nat.zero_le _) (by decide)⟩, (fun _ h => by cases h)⟩)⟩)
def gp_o3_2b_B : ck_A := ([(0, (gv_r 1 0)), (1, (gv_r 1 1)), (2, (gv_r 1 12)), (3, (gv_r 1 16)), (4, (gv_g 1 2556 149 0))], [], [gc_204, gc_71, gc_192, ((2, 0), []), ((2, 0), []), ((2, 0), []), ((2, 0), []), ((2, 0), []), gc_16, gc_16, gc_16, gc_16, gc_195, ((2, 0), []), gc_28, gc_29, ((1, 1), [gv_L])])
def gp_o3_2b_K : ck_Ct := ([], gp_o3_2b_B.2.2, [], .inl none, (9, 126, 1, 6))
def gp_o3_2b_w : List Nat := []
def gp_o3_2b_n : List (Nat × ck_An) := [(33, (gs_7, (0, []), 1, 6))]
def gp_o3_2b_l : List (List ck_C × (Option ck_V ⊕ Nat)) := []
theorem gp_o3_2b_m : gck_ex ce_11 gv_tab (1, 2561) true cm_ms gp_o3_2b_c [] kco_law glw_M gp_o3_2b_K gp_o3_2b_l gp_o3_2b_w [] gp_o3_2b_n none 41 (345, gp_o3_2b_B, 0, 0) = true := by decide +kernel
def gp_i3_1_c : List (Nat × ck_Kt) := []
theorem gp_i3_1_h {l : Launch} : ∀ q ∈ gp_i3_1_c, ∃ M' : ck_MM, cm_ms[q.1]? = some M' ∧ gck_Ok l gv_tab (1, 2561) M'.1 q.2 := (fun _ h => by cases h)
def gp_i3_1_B : ck_A := ([(0, (gv_r 1 0)), (1, (gv_r 1 1)), (2, (gv_r 1 12)), (3, (gv_r 1 16)), (4, (gv_g 1 2556 149 0))], [], [gc_205, gc_71, gc_192, ((2, 0), []), ((2, 0), []), ((2, 0), []), ((2, 0), []), ((2, 0), []), gc_16, gc_16, gc_16, gc_16, gc_195, ((2, 0), []), gc_28, gc_29, ((1, 1), [gv_L])])
def gp_i3_1_K : ck_Ct := ([], gp_i3_1_B.2.2, [], .inl none, (0, 0, 0, 0))
def gp_i3_1_w : List Nat := []
def gs_35 : ck_A := ([(0, (gv_r 1 0)), (1, (gv_r 1 1)), (2, (gv_r 1 12)), (3, (gv_r 1 16)), (4, (gv_g 1 2556 149 0))], [(gv_g 0 3 146 0), (gv_g 0 3 145 0), (gv_g 0 3 144 0), (gv_r 1 1)], [gc_205, gc_71, gc_192, ((2, 0), []), ((2, 0), []), ((2, 0), []), ((2, 0), []), ((2, 0), []), gc_16, gc_16, gc_16, gc_16, gc_195, ((2, 0), []), gc_28, gc_29, ((1, 1), [gv_L])])
def gp_i3_1_n : List (Nat × ck_An) := [(364, (gs_35, (0, []), 0, 0))]
def gp_i3_1_l : List (List ck_C × (Option ck_V ⊕ Nat)) := []
theorem gp_i3_1_m : gck_ex ce_11 gv_tab (1, 2561) true cm_ms gp_i3_1_c [] kco_law glw_M gp_i3_1_K gp_i3_1_l gp_i3_1_w [] gp_i3_1_n none 19 (345, gp_i3_1_B, 0, 0) = true := by decide +kernel
def gp_i3_2_c : List (Nat × ck_Kt) := []
theorem gp_i3_2_h {l : Launch} : ∀ q ∈ gp_i3_2_c, ∃ M' : ck_MM, cm_ms[q.1]? = some M' ∧ gck_Ok l gv_tab (1, 2561) M'.1 q.2 := (fun _ h => by cases h)
def gp_i3_2_B : ck_A := ([(0, (gv_r 1 0)), (1, (gv_r 1 1)), (2, (gv_r 1 12)), (3, (gv_r 1 16)), (4, (gv_g 1 2556 149 0))], [(gv_i 0 0)], [gc_205, gc_71, gc_192, ((2, 0), []), ((2, 0), []), ((2, 0), []), ((2, 0), []), ((2, 0), []), gc_16, gc_16, gc_16, gc_16, gc_195, ((2, 0), []), gc_28, gc_29, ((1, 1), [gv_L])])
def gp_i3_2_K : ck_Ct := ([], gp_i3_2_B.2.2, [], .inl none, (0, 0, 0, 0))
def gp_i3_2_w : List Nat := []
def gs_36 : ck_A := ([(0, (gv_r 1 0)), (1, (gv_r 1 1)), (2, (gv_r 1 12)), (3, (gv_r 1 16)), (4, (gv_g 1 2556 149 0)), (5, (gv_i 0 0))], [(gv_g 0 3 146 0), (gv_g 0 3 145 0), (gv_g 0 3 144 0), (gv_r 1 12)], [gc_205, gc_71, gc_192, ((2, 0), []), ((2, 0), []), ((2, 0), []), ((2, 0), []), ((2, 0), []), gc_16, gc_16, gc_16, gc_16, gc_195, ((2, 0), []), gc_28, gc_29, ((1, 1), [gv_L])])
def gp_i3_2_n : List (Nat × ck_An) := [(388, (gs_36, (0, []), 0, 0))]
def gp_i3_2_l : List (List ck_C × (Option ck_V ⊕ Nat)) := []
theorem gp_i3_2_m : gck_ex ce_11 gv_tab (1, 2561) true cm_ms gp_i3_2_c [] kco_law glw_M gp_i3_2_K gp_i3_2_l gp_i3_2_w [] gp_i3_2_n none 20 (367, gp_i3_2_B, 0, 0) = true := by decide +kernel
def gp_i3_3_c : List (Nat × ck_Kt) := []
theorem gp_i3_3_h {l : Launch} : ∀ q ∈ gp_i3_3_c, ∃ M' : ck_MM, cm_ms[q.1]? = some M' ∧ gck_Ok l gv_tab (1, 2561) M'.1 q.2 := (fun _ h => by cases h)
def gc_206 : ck_C := ((0, 11), [(gv_i 0 0), gv_F, (gv_r 2 46), (gv_r 2 47), (gv_r 2 48), (gv_i 32 32), (gv_r 2 49), (gv_r 2 53), (gv_r 2 63), (gv_r 2 52), (gv_r 2 15), (gv_r 2 16), gv_F, (gv_r 2 60), (gv_r 1 14), (gv_r 2 54), (gv_r 2 62), (gv_r 2 62), (gv_i 0 8), (gv_r 2 58), (gv_r 2 58), (gv_r 2 61), (gv_r 2 61), (gv_r 2 61), (gv_r 2 61), (gv_r 2 50), (gv_r 2 50), (gv_r 2 50), (gv_r 1 15), (gv_r 2 51), (gv_r 2 50), (gv_r 2 50), (gv_r 2 59), (gv_r 2 17), (gv_i 0 48), (gv_r 2 55), (gv_r 2 56)])
def gp_i3_3_B : ck_A := ([(0, (gv_r 1 0)), (1, (gv_r 1 1)), (2, (gv_r 1 12)), (3, (gv_r 1 16)), (4, (gv_g 1 2556 149 0)), (5, (gv_i 0 0))], [], [gc_205, gc_71, gc_192, ((2, 0), []), ((2, 0), []), ((2, 0), []), ((2, 0), []), ((2, 0), []), gc_16, gc_16, gc_16, gc_16, gc_206, ((2, 0), []), gc_28, gc_29, ((1, 1), [gv_L])])
def gp_i3_3_K : ck_Ct := ([], gp_i3_3_B.2.2, [], .inl none, (0, 0, 0, 0))
def gp_i3_3_w : List Nat := []
def gp_i3_3_n : List (Nat × ck_An) := [(33, (gs_7, (0, []), 0, 0))]
def gp_i3_3_l : List (List ck_C × (Option ck_V ⊕ Nat)) := []
theorem gp_i3_3_m : gck_ex ce_11 gv_tab (1, 2561) true cm_ms gp_i3_3_c [] kco_law glw_M gp_i3_3_K gp_i3_3_l gp_i3_3_w [] gp_i3_3_n none 6 (391, gp_i3_3_B, 0, 0) = true := by decide +kernel
def gp_o4_0a_c : List (Nat × ck_Kt) := [(111, gt_857), (140, gt_859)]
theorem gp_o4_0a_h {l : Launch} : ∀ q ∈ gp_o4_0a_c, ∃ M' : ck_MM, cm_ms[q.1]? = some M' ∧ gck_Ok l gv_tab (1, 2561) M'.1 q.2 := (List.forall_mem_cons.mpr ⟨⟨_, cm_g111, gt_857_ok.wid (Nat.zero_le _) (by decide)⟩, (List.forall_mem_cons.mpr ⟨⟨_, cm_g140, gt_859_ok.wid (Nat.zero_le _) (by decide)⟩, (fun _ h => by cases h)⟩)⟩)
def gp_o4_0a_B : ck_A := ([(0, (gv_r 1 0)), (1, (gv_r 1 1)), (2, (gv_r 1 12)), (3, (gv_r 1 16)), (4, (gv_g 1 2556 149 0))], [], [gc_197, gc_71, gc_192, ((2, 0), []), ((2, 0), []), ((2, 0), []), ((2, 0), []), ((2, 0), []), gc_16, gc_16, gc_16, gc_16, gc_195, ((2, 0), []), gc_28, gc_29, ((1, 1), [gv_L])])
def gp_o4_0a_K : ck_Ct := ([], gp_o4_0a_B.2.2, [], .inl none, (9, 125, 1, 6))
def gp_o4_0a_w : List Nat := []
def gp_o4_0a_n : List (Nat × ck_An) := [(33, (gs_7, (0, []), 1, 6))]
def gp_o4_0a_l : List (List ck_C × (Option ck_V ⊕ Nat)) := []
theorem gp_o4_0a_m : gck_ex ce_11 gv_tab (1, 2561) true cm_ms gp_o4_0a_c [] kco_law glw_M gp_o4_0a_K gp_o4_0a_l gp_o4_0a_w [] gp_o4_0a_n none 31 (394, gp_o4_0a_B, 0, 0) = true := by decide +kernel
def gp_o4_0b_c : List (Nat × ck_Kt) := [(111, gt_862), (140, gt_864)]
theorem gp_o4_0b_h {l : Launch} : ∀ q ∈ gp_o4_0b_c, ∃ M' : ck_MM, cm_ms[q.1]? = some M' ∧ gck_Ok l gv_tab (1, 2561) M'.1 q.2 := (List.forall_mem_cons.mpr ⟨⟨_, cm_g111, gt_862_ok.wid (Nat.zero_le _) (by decide)⟩, (List.forall_mem_cons.mpr ⟨⟨_, cm_g140, gt_864_ok.wid (Nat.zero_le _) (by decide)⟩, (fun _ h => by cases h)⟩)⟩)
def gc_207 : ck_C := ((6, 2), [gv_F, (gv_g 129 2147483647 144 0), (gv_g (-2147483648) 2147483647 145 0), (gv_g (-2147483648) 2147483647 146 0), (gv_g (-2147483648) 2147483647 147 0)])
def gp_o4_0b_B : ck_A := ([(0, (gv_r 1 0)), (1, (gv_r 1 1)), (2, (gv_r 1 12)), (3, (gv_r 1 16)), (4, (gv_g 1 2556 149 0))], [], [gc_207, gc_71, gc_192, ((2, 0), []), ((2, 0), []), ((2, 0), []), ((2, 0), []), ((2, 0), []), gc_16, gc_16, gc_16, gc_16, gc_195, ((2, 0), []), gc_28, gc_29, ((1, 1), [gv_L])])
def gp_o4_0b_K : ck_Ct := ([], gp_o4_0b_B.2.2, [], .inl none, (9, 125, 1, 6))
def gp_o4_0b_w : List Nat := []
def gp_o4_0b_n : List (Nat × ck_An) := [(33, (gs_7, (0, []), 1, 6))]
def gp_o4_0b_l : List (List ck_C × (Option ck_V ⊕ Nat)) := []
theorem gp_o4_0b_m : gck_ex ce_11 gv_tab (1, 2561) true cm_ms gp_o4_0b_c [] kco_law glw_M gp_o4_0b_K gp_o4_0b_l gp_o4_0b_w [] gp_o4_0b_n none 31 (394, gp_o4_0b_B, 0, 0) = true := by decide +kernel
def gp_o4_1a_c : List (Nat × ck_Kt) := [(111, gt_867), (140, gt_869)]
theorem gp_o4_1a_h {l : Launch} : ∀ q ∈ gp_o4_1a_c, ∃ M' : ck_MM, cm_ms[q.1]? = some M' ∧ gck_Ok l gv_tab (1, 2561) M'.1 q.2 := (List.forall_mem_cons.mpr ⟨⟨_, cm_g111, gt_867_ok.wid (Nat.zero_le _) (by decide)⟩, (List.forall_mem_cons.mpr ⟨⟨_, cm_g140, gt_869_ok.wid (Nat.zero_le _) (by decide)⟩, (fun _ h => by cases h)⟩)⟩)
def gc_208 : ck_C := ((6, 2), [gv_F, (gv_g 0 128 144 0), (gv_g (-2147483648) (-1) 145 0), (gv_g (-2147483648) 2147483647 146 0), (gv_g (-2147483648) 2147483647 147 0)])
def gp_o4_1a_B : ck_A := ([(0, (gv_r 1 0)), (1, (gv_r 1 1)), (2, (gv_r 1 12)), (3, (gv_r 1 16)), (4, (gv_g 1 2556 149 0))], [], [gc_208, gc_71, gc_192, ((2, 0), []), ((2, 0), []), ((2, 0), []), ((2, 0), []), ((2, 0), []), gc_16, gc_16, gc_16, gc_16, gc_195, ((2, 0), []), gc_28, gc_29, ((1, 1), [gv_L])])
def gp_o4_1a_K : ck_Ct := ([], gp_o4_1a_B.2.2, [], .inl none, (9, 125, 1, 6))
def gp_o4_1a_w : List Nat := []
def gp_o4_1a_n : List (Nat × ck_An) := [(33, (gs_7, (0, []), 1, 6))]
def gp_o4_1a_l : List (List ck_C × (Option ck_V ⊕ Nat)) := []
theorem gp_o4_1a_m : gck_ex ce_11 gv_tab (1, 2561) true cm_ms gp_o4_1a_c [] kco_law glw_M gp_o4_1a_K gp_o4_1a_l gp_o4_1a_w [] gp_o4_1a_n none 31 (394, gp_o4_1a_B, 0, 0) = true := by decide +kernel
def gp_o4_1b_c : List (Nat × ck_Kt) := [(111, gt_871), (140, gt_872)]
theorem gp_o4_1b_h {l : Launch} : ∀ q ∈ gp_o4_1b_c, ∃ M' : ck_MM, cm_ms[q.1]? = some M' ∧ gck_Ok l gv_tab (1, 2561) M'.1 q.2 := (List.forall_mem_cons.mpr ⟨⟨_, cm_g111, gt_871_ok.wid (Nat.zero_le _) (by decide)⟩, (List.forall_mem_cons.mpr ⟨⟨_, cm_g140, gt_872_ok.wid (Nat.zero_le _) (by decide)⟩, (fun _ h => by cases h)⟩)⟩)
def gc_209 : ck_C := ((6, 2), [gv_F, (gv_g 0 128 144 0), (gv_g 4 2147483647 145 0), (gv_g (-2147483648) 2147483647 146 0), (gv_g (-2147483648) 2147483647 147 0)])
def gp_o4_1b_B : ck_A := ([(0, (gv_r 1 0)), (1, (gv_r 1 1)), (2, (gv_r 1 12)), (3, (gv_r 1 16)), (4, (gv_g 1 2556 149 0))], [], [gc_209, gc_71, gc_192, ((2, 0), []), ((2, 0), []), ((2, 0), []), ((2, 0), []), ((2, 0), []), gc_16, gc_16, gc_16, gc_16, gc_195, ((2, 0), []), gc_28, gc_29, ((1, 1), [gv_L])])
def gp_o4_1b_K : ck_Ct := ([], gp_o4_1b_B.2.2, [], .inl none, (9, 125, 1, 6))
def gp_o4_1b_w : List Nat := []
def gp_o4_1b_n : List (Nat × ck_An) := [(33, (gs_7, (0, []), 1, 6))]
def gp_o4_1b_l : List (List ck_C × (Option ck_V ⊕ Nat)) := []
theorem gp_o4_1b_m : gck_ex ce_11 gv_tab (1, 2561) true cm_ms gp_o4_1b_c [] kco_law glw_M gp_o4_1b_K gp_o4_1b_l gp_o4_1b_w [] gp_o4_1b_n none 31 (394, gp_o4_1b_B, 0, 0) = true := by decide +kernel
def gp_i4_1_c : List (Nat × ck_Kt) := []
theorem gp_i4_1_h {l : Launch} : ∀ q ∈ gp_i4_1_c, ∃ M' : ck_MM, cm_ms[q.1]? = some M' ∧ gck_Ok l gv_tab (1, 2561) M'.1 q.2 := (fun _ h => by cases h)
def gc_210 : ck_C := ((6, 2), [gv_F, (gv_g 0 128 144 0), (gv_g 0 3 145 0), (gv_g (-2147483648) 2147483647 146 0), (gv_g (-2147483648) 2147483647 147 0)])
def gp_i4_1_B : ck_A := ([(0, (gv_r 1 0)), (1, (gv_r 1 1)), (2, (gv_r 1 12)), (3, (gv_r 1 16)), (4, (gv_g 1 2556 149 0))], [], [gc_210, gc_71, gc_192, ((2, 0), []), ((2, 0), []), ((2, 0), []), ((2, 0), []), ((2, 0), []), gc_16, gc_16, gc_16, gc_16, gc_195, ((2, 0), []), gc_28, gc_29, ((1, 1), [gv_L])])
def gp_i4_1_K : ck_Ct := ([], gp_i4_1_B.2.2, [], .inl none, (0, 0, 0, 0))
def gp_i4_1_w : List Nat := []
def gs_37 : ck_A := ([(0, (gv_r 1 0)), (1, (gv_r 1 1)), (2, (gv_r 1 12)), (3, (gv_r 1 16)), (4, (gv_g 1 2556 149 0))], [(gv_g 0 3 145 0), (gv_g 0 128 144 0), (gv_r 1 1)], [gc_210, gc_71, gc_192, ((2, 0), []), ((2, 0), []), ((2, 0), []), ((2, 0), []), ((2, 0), []), gc_16, gc_16, gc_16, gc_16, gc_195, ((2, 0), []), gc_28, gc_29, ((1, 1), [gv_L])])
def gp_i4_1_n : List (Nat × ck_An) := [(407, (gs_37, (0, []), 0, 0))]
def gp_i4_1_l : List (List ck_C × (Option ck_V ⊕ Nat)) := []
theorem gp_i4_1_m : gck_ex ce_11 gv_tab (1, 2561) true cm_ms gp_i4_1_c [] kco_law glw_M gp_i4_1_K gp_i4_1_l gp_i4_1_w [] gp_i4_1_n none 14 (394, gp_i4_1_B, 0, 0) = true := by decide +kernel
def gp_i4_2_c : List (Nat × ck_Kt) := []
theorem gp_i4_2_h {l : Launch} : ∀ q ∈ gp_i4_2_c, ∃ M' : ck_MM, cm_ms[q.1]? = some M' ∧ gck_Ok l gv_tab (1, 2561) M'.1 q.2 := (fun _ h => by cases h)
def gp_i4_2_B : ck_A := ([(0, (gv_r 1 0)), (1, (gv_r 1 1)), (2, (gv_r 1 12)), (3, (gv_r 1 16)), (4, (gv_g 1 2556 149 0))], [(gv_i 0 0)], [gc_210, gc_71, gc_192, ((2, 0), []), ((2, 0), []), ((2, 0), []), ((2, 0), []), ((2, 0), []), gc_16, gc_16, gc_16, gc_16, gc_195, ((2, 0), []), gc_28, gc_29, ((1, 1), [gv_L])])
def gp_i4_2_K : ck_Ct := ([], gp_i4_2_B.2.2, [], .inl none, (0, 0, 0, 0))
def gp_i4_2_w : List Nat := []
def gs_38 : ck_A := ([(0, (gv_r 1 0)), (1, (gv_r 1 1)), (2, (gv_r 1 12)), (3, (gv_r 1 16)), (4, (gv_g 1 2556 149 0)), (5, (gv_i 0 0))], [(gv_g 0 3 145 0), (gv_g 0 128 144 0), (gv_r 1 12)], [gc_210, gc_71, gc_192, ((2, 0), []), ((2, 0), []), ((2, 0), []), ((2, 0), []), ((2, 0), []), gc_16, gc_16, gc_16, gc_16, gc_195, ((2, 0), []), gc_28, gc_29, ((1, 1), [gv_L])])
def gp_i4_2_n : List (Nat × ck_An) := [(425, (gs_38, (0, []), 0, 0))]
def gp_i4_2_l : List (List ck_C × (Option ck_V ⊕ Nat)) := []
theorem gp_i4_2_m : gck_ex ce_11 gv_tab (1, 2561) true cm_ms gp_i4_2_c [] kco_law glw_M gp_i4_2_K gp_i4_2_l gp_i4_2_w [] gp_i4_2_n none 15 (410, gp_i4_2_B, 0, 0) = true := by decide +kernel
def gp_i4_3_c : List (Nat × ck_Kt) := []
theorem gp_i4_3_h {l : Launch} : ∀ q ∈ gp_i4_3_c, ∃ M' : ck_MM, cm_ms[q.1]? = some M' ∧ gck_Ok l gv_tab (1, 2561) M'.1 q.2 := (fun _ h => by cases h)
def gp_i4_3_B : ck_A := ([(0, (gv_r 1 0)), (1, (gv_r 1 1)), (2, (gv_r 1 12)), (3, (gv_r 1 16)), (4, (gv_g 1 2556 149 0)), (5, (gv_i 0 0))], [], [gc_210, gc_71, gc_192, ((2, 0), []), ((2, 0), []), ((2, 0), []), ((2, 0), []), ((2, 0), []), gc_16, gc_16, gc_16, gc_16, gc_202, ((2, 0), []), gc_28, gc_29, ((1, 1), [gv_L])])
def gp_i4_3_K : ck_Ct := ([], gp_i4_3_B.2.2, [], .inl none, (0, 0, 0, 0))
def gp_i4_3_w : List Nat := []
def gp_i4_3_n : List (Nat × ck_An) := [(33, (gs_7, (0, []), 0, 0))]
def gp_i4_3_l : List (List ck_C × (Option ck_V ⊕ Nat)) := []
theorem gp_i4_3_m : gck_ex ce_11 gv_tab (1, 2561) true cm_ms gp_i4_3_c [] kco_law glw_M gp_i4_3_K gp_i4_3_l gp_i4_3_w [] gp_i4_3_n none 6 (428, gp_i4_3_B, 0, 0) = true := by decide +kernel
