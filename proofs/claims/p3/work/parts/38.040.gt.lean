/-! ===== contracts ===== -/
def gt_822 : ck_Kt := (([(gv_r 2 10), (gv_i 0 254)], [], [], .inl none, (0, 0, 0, 0)), [([], .inl (some (gv_i 0 1)))], [])
theorem gt_822_ok {l : Launch} : gck_Ok l gv_tab (0, 2147483647) cm_43.1 gt_822 := gck_done (E := ce_2) (ms := cm_ms) (cts := []) (nt := []) (cod := kco_43) (ops := []) (ann := []) (f := 25) (by decide +kernel) ce_ok2 rfl cm_ok (fun _ h => by cases h) ce_glob kco_43_ok
def gt_823 : ck_Kt := (([(gv_r 2 20), (gv_r 2 10)], [], [], .inl none, (0, 0, 0, 0)), [([], .inl none)], [10])
theorem gt_823_ok {l : Launch} : gck_Ok l gv_tab (0, 2147483647) cm_52.1 gt_823 := gck_done (E := ce_2) (ms := cm_ms) (cts := []) (nt := []) (cod := kco_52) (ops := []) (ann := []) (f := 7094) (by decide +kernel) ce_ok2 rfl cm_ok (fun _ h => by cases h) ce_glob kco_52_ok
