/-! ===== contracts ===== -/
def gt_111 : ck_Kt := (([(gv_r 2 20)], [], [], .inl none, (0, 0, 0, 0)), [([], .inl none)], [20])
theorem gt_111_ok {l : Launch} : gck_Ok l gv_tab (0, 2147483647) cm_47.1 gt_111 := gck_done (E := ce_2) (ms := cm_ms) (cts := []) (nt := []) (cod := kco_47) (ops := []) (ann := [(4, (([(0, (gv_r 2 20)), (1, gv_L), (3, (gv_i 0 10))], [], []), (23, [(3, (-1))]), 0, 0)), (38, (([(0, (gv_r 2 20)), (1, gv_L), (3, gv_L), (5, (gv_i 0 10))], [], []), (11, [(5, (-1))]), 0, 0))]) (f := 32) (by decide +kernel) ce_ok2 rfl cm_ok (fun _ h => by cases h) ce_glob kco_47_ok
def gt_112 : ck_Kt := (([(gv_r 2 20), (gv_r 2 1)], [], [], .inl none, (0, 0, 0, 0)), [([], .inl none)], [1])
theorem gt_112_ok {l : Launch} : gck_Ok l gv_tab (0, 2147483647) cm_52.1 gt_112 := gck_done (E := ce_2) (ms := cm_ms) (cts := []) (nt := []) (cod := kco_52) (ops := []) (ann := []) (f := 7094) (by decide +kernel) ce_ok2 rfl cm_ok (fun _ h => by cases h) ce_glob kco_52_ok
