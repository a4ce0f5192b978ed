/-! ===== put, to where its number is reckoned ===== -/
def gp_i0_1b_c : List (Nat × ck_Kt) := []
theorem gp_i0_1b_h {l : Launch} : ∀ q ∈ gp_i0_1b_c, ∃ M' : ck_MM, cm_ms[q.1]? = some M' ∧ gck_Ok l gv_tab (1, 2561) M'.1 q.2 := (fun _ h => by cases h)
def gp_i0_1b_B : ck_A := ([(0, (gv_r 1 0)), (1, (gv_r 1 1)), (2, (gv_r 1 12)), (3, (gv_r 1 16)), (4, (gv_g 1 2556 149 0))], [], [gc_201, gc_71, gc_192, ((2, 0), []), ((2, 0), []), ((2, 0), []), ((2, 0), []), ((2, 0), []), gc_16, gc_16, gc_16, gc_16, gc_195, ((2, 0), []), gc_28, gc_29, ((1, 1), [gv_L])])
def gp_i0_1b_K : ck_Ct := ([], gp_i0_1b_B.2.2, [], .inl none, (0, 0, 0, 0))
def gp_i0_1b_w : List Nat := []
def gs_40 : ck_A := ([(0, (gv_r 1 0)), (1, (gv_r 1 1)), (2, (gv_r 1 12)), (3, (gv_r 1 16)), (4, (gv_g 1 2556 149 0))], [(gv_g (-2147483648) 2147483647 146 0), (gv_g 0 3 145 0), (gv_g 0 3 144 0), (gv_r 1 1)], [gc_201, gc_71, gc_192, ((2, 0), []), ((2, 0), []), ((2, 0), []), ((2, 0), []), ((2, 0), []), gc_16, gc_16, gc_16, gc_16, gc_195, ((2, 0), []), gc_28, gc_29, ((1, 1), [gv_L])])
def gp_i0_1b_n : List (Nat × ck_An) := [(167, (gs_40, (0, []), 0, 0))]
def gp_i0_1b_l : List (List ck_C × (Option ck_V ⊕ Nat)) := []
theorem gp_i0_1b_m : gck_ex ce_11 gv_tab (1, 2561) true cm_ms gp_i0_1b_c [] kco_law glw_M gp_i0_1b_K gp_i0_1b_l gp_i0_1b_w [] gp_i0_1b_n none 19 (148, gp_i0_1b_B, 0, 0) = true := by decide +kernel
def gp_i0_2b_c : List (Nat × ck_Kt) := []
theorem gp_i0_2b_h {l : Launch} : ∀ q ∈ gp_i0_2b_c, ∃ M' : ck_MM, cm_ms[q.1]? = some M' ∧ gck_Ok l gv_tab (1, 2561) M'.1 q.2 := (fun _ h => by cases h)
def gp_i0_2b_B : ck_A := ([(0, (gv_r 1 0)), (1, (gv_r 1 1)), (2, (gv_r 1 12)), (3, (gv_r 1 16)), (4, (gv_g 1 2556 149 0))], [(gv_i 0 0)], [gc_201, gc_71, gc_192, ((2, 0), []), ((2, 0), []), ((2, 0), []), ((2, 0), []), ((2, 0), []), gc_16, gc_16, gc_16, gc_16, gc_195, ((2, 0), []), gc_28, gc_29, ((1, 1), [gv_L])])
def gp_i0_2b_K : ck_Ct := ([], gp_i0_2b_B.2.2, [], .inl none, (0, 0, 0, 0))
def gp_i0_2b_w : List Nat := []
def gs_41 : ck_A := ([(0, (gv_r 1 0)), (1, (gv_r 1 1)), (2, (gv_r 1 12)), (3, (gv_r 1 16)), (4, (gv_g 1 2556 149 0)), (5, (gv_i 0 0))], [(gv_g (-2147483648) 2147483647 146 0), (gv_g 0 3 145 0), (gv_g 0 3 144 0), (gv_r 1 12)], [gc_201, gc_71, gc_192, ((2, 0), []), ((2, 0), []), ((2, 0), []), ((2, 0), []), ((2, 0), []), gc_16, gc_16, gc_16, gc_16, gc_195, ((2, 0), []), gc_28, gc_29, ((1, 1), [gv_L])])
def gp_i0_2b_n : List (Nat × ck_An) := [(207, (gs_41, (0, []), 0, 0))]
def gp_i0_2b_l : List (List ck_C × (Option ck_V ⊕ Nat)) := []
theorem gp_i0_2b_m : gck_ex ce_11 gv_tab (1, 2561) true cm_ms gp_i0_2b_c [] kco_law glw_M gp_i0_2b_K gp_i0_2b_l gp_i0_2b_w [] gp_i0_2b_n none 20 (186, gp_i0_2b_B, 0, 0) = true := by decide +kernel
theorem gh_ea : gs_40 = ((gs_40.1), (gv_g (-2147483648) 2147483647 146 0) :: gv_g 0 3 145 0 :: gv_g 0 3 144 0 :: [gv_r 1 1], gs_40.2.2) := rfl
theorem gh_da : ck_leA (gs_40.1, gv_L :: gv_g 0 3 145 0 :: gv_g 0 3 144 0 :: [gv_r 1 1], gs_40.2.2) gs_29 = true := by decide +kernel
theorem gh_eb : gs_41 = ((gs_41.1), (gv_g (-2147483648) 2147483647 146 0) :: gv_g 0 3 145 0 :: gv_g 0 3 144 0 :: [gv_r 1 12], gs_41.2.2) := rfl
theorem gh_db : ck_leA (gs_41.1, gv_L :: gv_g 0 3 145 0 :: gv_g 0 3 144 0 :: [gv_r 1 12], gs_41.2.2) gs_30 = true := by decide +kernel
