/-! ===== contracts ===== -/
def kt_1 : ck_Ct := ([(kv_r 1 0)], [((0, 1), [(kv_r 0 0), (kv_r 0 0), (kv_i 0 0)])], [((0, 1), [(kv_r 2 1), (kv_r 2 1), (kv_g 0 0 102 0)])], .inl none, (1, 12, 2, 64))
theorem kt_1_ok {l : Launch} : ck_Ok l kv_tab 64 cm_1.1 kt_1 := ck_done (E := ce_1) (ms := cm_ms) (cts := []) (nt := [(7, 1, 0), (15, 1, 0)]) (cod := kco_1) (ops := []) (ann := []) (f := 14) (by decide +kernel) ce_ok1 rfl cm_ok (fun _ h => by cases h) ce_glob kco_1_ok
def kc_0 : ck_C := ((0, 3), [(kv_r 0 0), (kv_r 0 0), (kv_i 0 0), (kv_r 0 0), (kv_r 0 0), (kv_r 0 0), (kv_r 0 0), (kv_r 0 0)])
def kc_1 : ck_C := ((0, 3), [(kv_r 2 1), (kv_r 2 2), (kv_g 0 0 102 0), (kv_r 2 3), (kv_r 2 4), (kv_r 2 1), (kv_r 2 1), (kv_r 2 1)])
def kt_2 : ck_Ct := ([(kv_r 1 0)], [kc_0], [kc_1], .inl none, (1, 12, 7, 456))
theorem kt_2_ok {l : Launch} : ck_Ok l kv_tab 64 cm_2.1 kt_2 := ck_done (E := ce_2) (ms := cm_ms) (cts := []) (nt := [(7, 1, 0), (16, 2, 0), (24, 3, 0), (32, 4, 0), (40, 1, 0), (48, 1, 0), (56, 1, 0)]) (cod := kco_2) (ops := []) (ann := []) (f := 34) (by decide +kernel) ce_ok2 rfl cm_ok (fun _ h => by cases h) ce_glob kco_2_ok
def kc_2 : ck_C := ((0, 4), [(kv_r 0 0), (kv_r 0 0), (kv_r 0 0), (kv_r 0 0), (kv_r 0 0), (kv_r 0 0), (kv_r 0 0), (kv_r 0 0), (kv_r 0 0), (kv_r 0 0), (kv_r 0 0), (kv_r 0 0), (kv_r 0 0)])
def kc_3 : ck_C := ((0, 4), [(kv_r 2 1), (kv_r 2 11), (kv_r 2 11), (kv_r 2 11), (kv_r 2 11), (kv_r 2 11), (kv_r 2 11), (kv_r 2 11), (kv_r 2 11), (kv_r 2 11), (kv_r 2 11), (kv_r 2 11), (kv_r 2 11)])
def kt_3 : ck_Ct := ([(kv_r 1 0)], [kc_2], [kc_3], .inl none, (1, 12, 13, 152))
theorem kt_3_ok {l : Launch} : ck_Ok l kv_tab 64 cm_3.1 kt_3 := ck_done (E := ce_3) (ms := cm_ms) (cts := []) (nt := [(7, 1, 0), (15, 11, 0), (23, 11, 0), (31, 11, 0), (39, 11, 0), (47, 11, 0), (55, 11, 0), (63, 11, 0), (71, 11, 0), (79, 11, 0), (87, 11, 0), (95, 11, 0), (103, 11, 0)]) (cod := kco_3) (ops := []) (ann := []) (f := 63) (by decide +kernel) ce_ok3 rfl cm_ok (fun _ h => by cases h) ce_glob kco_3_ok
def kc_4 : ck_C := ((0, 5), [(kv_r 0 0), (kv_r 0 0), (kv_r 0 0), (kv_r 0 0)])
def kc_5 : ck_C := ((0, 5), [(kv_r 2 1), (kv_r 2 1), (kv_r 2 1), (kv_r 2 1)])
def kt_4 : ck_Ct := ([(kv_r 1 0)], [kc_4], [kc_5], .inl none, (1, 12, 4, 128))
theorem kt_4_ok {l : Launch} : ck_Ok l kv_tab 64 cm_4.1 kt_4 := ck_done (E := ce_4) (ms := cm_ms) (cts := []) (nt := [(7, 1, 0), (15, 1, 0), (23, 1, 0), (31, 1, 0)]) (cod := kco_4) (ops := []) (ann := []) (f := 22) (by decide +kernel) ce_ok4 rfl cm_ok (fun _ h => by cases h) ce_glob kco_4_ok
def kc_6 : ck_C := ((0, 2), [(kv_r 0 0), (kv_r 0 0), (kv_r 0 0), (kv_r 0 0), (kv_r 0 0), (kv_r 0 0), (kv_r 0 0)])
def kc_7 : ck_C := ((0, 2), [(kv_r 2 16), (kv_r 2 17), (kv_r 2 18), (kv_r 2 1), (kv_r 2 1), (kv_r 2 1), (kv_r 2 1)])
def kt_5 : ck_Ct := ([(kv_r 1 0)], [kc_6], [kc_7], .inl none, (2, 26, 31, 889))
theorem kt_5_ok {l : Launch} : ck_Ok l kv_tab 64 cm_5.1 kt_5 := ck_done (E := ce_5) (ms := cm_ms) (cts := [(2, kt_2), (3, kt_3), (4, kt_4)]) (nt := [(40, 1, 0), (48, 1, 0), (56, 1, 0), (64, 1, 0)]) (cod := kco_5) (ops := [(12, [(6, 0, 16, 0, [])]), (23, [(6, 0, 17, 0, [])]), (34, [(6, 0, 18, 0, [])]), (69, [(7, 1, 0, 0, [])])]) (ann := []) (f := 37) (by decide +kernel) ce_ok5 rfl cm_ok (List.forall_mem_cons.mpr ⟨⟨_, cm_g2, kt_2_ok⟩, (List.forall_mem_cons.mpr ⟨⟨_, cm_g3, kt_3_ok⟩, (List.forall_mem_cons.mpr ⟨⟨_, cm_g4, kt_4_ok⟩, (fun _ h => by cases h)⟩)⟩)⟩) ce_glob kco_5_ok
def kt_6 : ck_Ct := ([(kv_r 1 0)], [((0, 7), [(kv_r 0 0), (kv_i 0 0), (kv_i 0 0)])], [((0, 7), [(kv_r 2 1), (kv_g 0 0 101 0), (kv_g 0 0 102 0)])], .inl none, (1, 12, 1, 32))
theorem kt_6_ok {l : Launch} : ck_Ok l kv_tab 64 cm_6.1 kt_6 := ck_done (E := ce_6) (ms := cm_ms) (cts := []) (nt := [(7, 1, 0)]) (cod := kco_6) (ops := []) (ann := []) (f := 10) (by decide +kernel) ce_ok6 rfl cm_ok (fun _ h => by cases h) ce_glob kco_6_ok
def kc_8 : ck_C := ((0, 8), [(kv_r 0 0), (kv_r 0 0), (kv_r 0 0), (kv_i 0 0)])
def kc_9 : ck_C := ((0, 8), [(kv_r 2 10), (kv_r 2 10), (kv_r 2 5), (kv_g 0 0 103 0)])
def kt_7 : ck_Ct := ([(kv_r 1 0)], [kc_8], [kc_9], .inl none, (1, 12, 15, 402))
theorem kt_7_ok {l : Launch} : ck_Ok l kv_tab 64 cm_7.1 kt_7 := ck_done (E := ce_7) (ms := cm_ms) (cts := []) (nt := [(9, 10, 1), (21, 10, 1), (31, 5, 0)]) (cod := kco_7) (ops := []) (ann := []) (f := 20) (by decide +kernel) ce_ok7 rfl cm_ok (fun _ h => by cases h) ce_glob kco_7_ok
def kc_10 : ck_C := ((0, 6), [(kv_i 0 0), (kv_i 0 0), (kv_r 0 0), (kv_r 0 0), (kv_r 0 0), (kv_r 0 0), (kv_r 0 0), (kv_r 0 0), (kv_i 0 0), (kv_r 0 0), (kv_r 0 0), (kv_i 0 0), (kv_i 0 0), (kv_j 0 0)])
def kc_11 : ck_C := ((0, 6), [(kv_g 0 0 100 0), (kv_g 0 0 101 0), (kv_r 2 3), (kv_r 2 1), (kv_r 2 15), (kv_r 2 1), (kv_r 2 20), (kv_r 2 20), (kv_g 0 0 108 0), (kv_r 2 21), (kv_r 2 23), (kv_g 0 0 111 0), (kv_g 0 0 112 0), (kv_j 0 0)])
def kt_8 : ck_Ct := ([(kv_r 1 0)], [kc_10], [kc_11], .inl none, (2, 26, 27, 705))
theorem kt_8_ok {l : Launch} : ck_Ok l kv_tab 64 cm_8.1 kt_8 := ck_done (E := ce_8) (ms := cm_ms) (cts := [(1, kt_1), (6, kt_6), (7, kt_7)]) (nt := [(7, 3, 0), (15, 1, 0), (34, 1, 0), (75, 23, 0)]) (cod := kco_8) (ops := [(28, [(6, 0, 15, 0, [])]), (47, [(6, 0, 20, 0, [])]), (58, [(6, 0, 20, 0, [])]), (69, [(6, 0, 21, 0, [])]), (80, [(7, 1, 0, 0, [])])]) (ann := []) (f := 42) (by decide +kernel) ce_ok8 rfl cm_ok (List.forall_mem_cons.mpr ⟨⟨_, cm_g1, kt_1_ok⟩, (List.forall_mem_cons.mpr ⟨⟨_, cm_g6, kt_6_ok⟩, (List.forall_mem_cons.mpr ⟨⟨_, cm_g7, kt_7_ok⟩, (fun _ h => by cases h)⟩)⟩)⟩) ce_glob kco_8_ok
def kc_12 : ck_C := ((0, 9), [(kv_r 0 0), (kv_r 0 0), (kv_r 0 0), (kv_r 0 0), (kv_i 0 0)])
def kc_13 : ck_C := ((0, 9), [(kv_r 2 15), (kv_r 2 15), (kv_r 2 25), (kv_r 2 4), (kv_g 0 0 104 0)])
def kt_9 : ck_Ct := ([(kv_r 1 0)], [kc_12], [kc_13], .inl none, (2, 27, 32, 686))
theorem kt_9_ok {l : Launch} : ck_Ok l kv_tab 64 cm_9.1 kt_9 := ck_done (E := ce_9) (ms := cm_ms) (cts := [(1, kt_1)]) (nt := [(38, 4, 0)]) (cod := kco_9) (ops := [(12, [(6, 0, 15, 0, [])]), (23, [(6, 0, 15, 0, [])]), (63, [(6, 0, 15, 0, [])]), (70, [(0, 3, 25, 0, []), (7, 1, 0, 0, [])])]) (ann := []) (f := 125) (by decide +kernel) ce_ok9 rfl cm_ok (List.forall_mem_cons.mpr ⟨⟨_, cm_g1, kt_1_ok⟩, (fun _ h => by cases h)⟩) ce_glob kco_9_ok
def kt_10 : ck_Ct := ([(kv_r 1 0)], [((0, 10), [(kv_r 0 0), (kv_i 0 0)])], [((0, 10), [(kv_r 2 6), (kv_g 0 0 101 0)])], .inl none, (1, 12, 1, 84))
theorem kt_10_ok {l : Launch} : ck_Ok l kv_tab 64 cm_10.1 kt_10 := ck_done (E := ce_10) (ms := cm_ms) (cts := []) (nt := [(7, 6, 0)]) (cod := kco_10) (ops := []) (ann := []) (f := 10) (by decide +kernel) ce_ok10 rfl cm_ok (fun _ h => by cases h) ce_glob kco_10_ok
def kt_11 : ck_Ct := ([(kv_r 2 16)], [], [], .inl none, (0, 0, 0, 0))
theorem kt_11_ok {l : Launch} : ck_Ok l kv_tab 64 cm_11.1 kt_11 := ck_done (E := ce_2) (ms := cm_ms) (cts := []) (nt := []) (cod := kco_11) (ops := []) (ann := []) (f := 7) (by decide +kernel) ce_ok2 rfl cm_ok (fun _ h => by cases h) ce_glob kco_11_ok
