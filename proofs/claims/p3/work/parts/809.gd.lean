/-! ===== the exact contracts' cells, by types ===== -/
def gd2_T : List xk_C := (kg_da 0).2.1
def gd2_rt : List (Nat × Nat) := [(0, 1)]
def gd2_ts : List Nat := [0, 13, 10, 10, 10, 10, 35, 33, 20, 21, 22, 23, 19, 24, 25, 26, 27, 28, 29, 30]
def gd2_pr : List (Nat × Nat) := [(0, 0), (0, 1), (1, 0), (1, 1), (1, 2), (1, 3), (0, 6), (6, 1), (7, 2), (7, 3), (7, 4), (7, 5), (7, 1), (7, 6), (7, 7), (7, 8), (7, 9), (7, 10), (7, 11), (7, 12)]
def gd2_bl : List (Nat × Nat × Nat × Nat) := [(1, 32, 2, 0), (33, 32, 3, 0), (65, 32, 4, 0), (97, 32, 5, 0), (129, 10, 8, 0), (139, 10, 9, 0), (149, 10, 10, 0), (159, 10, 11, 0), (169, 10, 12, 0), (179, 10, 13, 0), (189, 10, 14, 0), (199, 10, 15, 0), (209, 10, 16, 0), (219, 10, 17, 0), (229, 10, 18, 0), (239, 10, 19, 0)]
theorem gd2_k : gx_ck gv_tab gs_33.2.2 gd2_rt gd2_ts gd2_pr gd2_bl gd2_T = true := by decide +kernel
theorem gd2_4 : gx_r4 gd2_rt gd2_ts gd2_T = true := by decide +kernel
theorem gd2_l : gd2_ts.length = gd2_T.length := by decide +kernel
theorem gd2_nd {g : Nat → Nat → Value} {ext : Nat → Int} (q : Nat) (hq : q < 128) : xg_ρ gd2_bl g ext (1 + q) = xg_I (g (2 + q / 32) (q % 32)) := by
  have key : ∀ k, k < 4 → gd2_T[2 + k]? = some ((1, 0), xi (1 + 32 * k) 32) := fun k hk => by
    match k, hk with
    | 0, _ => rfl
    | 1, _ => rfl
    | 2, _ => rfl
    | 3, _ => rfl
  have := gx_node gd2_k (g := g) (ext := ext) (key (q / 32) (by omega)) (j := q % 32) (gi_xi (by omega)) (by decide) (by omega)
  rwa [show 1 + 32 * (q / 32) + q % 32 = 1 + q by omega] at this
theorem gd2_rw {D : va_G} {AC : Nat → ClassId} {L : Heap} {G : Nat → Nat} {Nl : List Nat} {H : Heap} {N : List Nat} {g : Nat → Nat → Value} {d a : Nat} {r : Nat → Nat} (hN : N.length = gd2_T.length) (hg : ∀ i a c, N[i]? = some a → gd2_T[i]? = some c → gx_cell D AC gv_tab L G Nl gs_33.2.2 H gd2_rt gd2_ts gd2_pr g i a c) (hR : gr_R G H d a r) : ∀ k, k < 4 → N[2 + k]? = some (r k) ∧ ∀ j, j < 32 → gk_at H (r k) j = some (g (2 + k) j) := gi_rows hN hg hR (by decide +kernel) ⟨rfl, rfl, rfl⟩ (fun k hk => by
    match k, hk with
    | 0, _ => exact ⟨rfl, rfl⟩
    | 1, _ => exact ⟨rfl, rfl⟩
    | 2, _ => exact ⟨rfl, rfl⟩
    | 3, _ => exact ⟨rfl, rfl⟩) (fun k hk => by
    match k, hk with
    | 0, _ => exact ⟨_, rfl, rfl, rfl⟩
    | 1, _ => exact ⟨_, rfl, rfl, rfl⟩
    | 2, _ => exact ⟨_, rfl, rfl, rfl⟩
    | 3, _ => exact ⟨_, rfl, rfl, rfl⟩)
def gd3_T : List xk_C := kmc_T (0, (129, 0))
def gd3_rt : List (Nat × Nat) := [(0, 1)]
def gd3_ts : List Nat := [0, 13, 10, 10, 10, 10, 35, 32, 2, 7, 4, 11, 12]
def gd3_pr : List (Nat × Nat) := [(0, 0), (0, 1), (1, 0), (1, 1), (1, 2), (1, 3), (0, 6), (6, 0), (7, 1), (7, 3), (7, 4), (7, 5), (7, 6)]
def gd3_bl : List (Nat × Nat × Nat × Nat) := [(1, 32, 2, 0), (33, 32, 3, 0), (65, 32, 4, 0), (97, 32, 5, 0), (129, 1, 7, 2), (130, 256, 8, 0), (386, 64, 9, 0), (450, 8, 10, 0), (458, 32, 11, 0), (490, 32, 12, 0)]
theorem gd3_k : gx_ck gv_tab gs_35.2.2 gd3_rt gd3_ts gd3_pr gd3_bl gd3_T = true := by decide +kernel
theorem gd3_4 : gx_r4 gd3_rt gd3_ts gd3_T = true := by decide +kernel
theorem gd3_l : gd3_ts.length = gd3_T.length := by decide +kernel
theorem gd3_nd {g : Nat → Nat → Value} {ext : Nat → Int} (q : Nat) (hq : q < 128) : xg_ρ gd3_bl g ext (1 + q) = xg_I (g (2 + q / 32) (q % 32)) := by
  have key : ∀ k, k < 4 → gd3_T[2 + k]? = some ((1, 0), xi (1 + 32 * k) 32) := fun k hk => by
    match k, hk with
    | 0, _ => rfl
    | 1, _ => rfl
    | 2, _ => rfl
    | 3, _ => rfl
  have := gx_node gd3_k (g := g) (ext := ext) (key (q / 32) (by omega)) (j := q % 32) (gi_xi (by omega)) (by decide) (by omega)
  rwa [show 1 + 32 * (q / 32) + q % 32 = 1 + q by omega] at this
theorem gd3_rw {D : va_G} {AC : Nat → ClassId} {L : Heap} {G : Nat → Nat} {Nl : List Nat} {H : Heap} {N : List Nat} {g : Nat → Nat → Value} {d a : Nat} {r : Nat → Nat} (hN : N.length = gd3_T.length) (hg : ∀ i a c, N[i]? = some a → gd3_T[i]? = some c → gx_cell D AC gv_tab L G Nl gs_35.2.2 H gd3_rt gd3_ts gd3_pr g i a c) (hR : gr_R G H d a r) : ∀ k, k < 4 → N[2 + k]? = some (r k) ∧ ∀ j, j < 32 → gk_at H (r k) j = some (g (2 + k) j) := gi_rows hN hg hR (by decide +kernel) ⟨rfl, rfl, rfl⟩ (fun k hk => by
    match k, hk with
    | 0, _ => exact ⟨rfl, rfl⟩
    | 1, _ => exact ⟨rfl, rfl⟩
    | 2, _ => exact ⟨rfl, rfl⟩
    | 3, _ => exact ⟨rfl, rfl⟩) (fun k hk => by
    match k, hk with
    | 0, _ => exact ⟨_, rfl, rfl, rfl⟩
    | 1, _ => exact ⟨_, rfl, rfl, rfl⟩
    | 2, _ => exact ⟨_, rfl, rfl, rfl⟩
    | 3, _ => exact ⟨_, rfl, rfl, rfl⟩)
def gd4_T : List xk_C := kg_T (0, (129, 0))
def gd4_rt : List (Nat × Nat) := [(0, 1)]
def gd4_ts : List Nat := [0, 13, 10, 10, 10, 10, 35, 32, 2, 7, 4]
def gd4_pr : List (Nat × Nat) := [(0, 0), (0, 1), (1, 0), (1, 1), (1, 2), (1, 3), (0, 6), (6, 0), (7, 1), (7, 3), (7, 4)]
def gd4_bl : List (Nat × Nat × Nat × Nat) := [(1, 32, 2, 0), (33, 32, 3, 0), (65, 32, 4, 0), (97, 32, 5, 0), (129, 1, 7, 2), (130, 256, 8, 0), (386, 64, 9, 0), (450, 8, 10, 0)]
theorem gd4_k : gx_ck gv_tab gs_37.2.2 gd4_rt gd4_ts gd4_pr gd4_bl gd4_T = true := by decide +kernel
theorem gd4_4 : gx_r4 gd4_rt gd4_ts gd4_T = true := by decide +kernel
theorem gd4_l : gd4_ts.length = gd4_T.length := by decide +kernel
theorem gd4_nd {g : Nat → Nat → Value} {ext : Nat → Int} (q : Nat) (hq : q < 128) : xg_ρ gd4_bl g ext (1 + q) = xg_I (g (2 + q / 32) (q % 32)) := by
  have key : ∀ k, k < 4 → gd4_T[2 + k]? = some ((1, 0), xi (1 + 32 * k) 32) := fun k hk => by
    match k, hk with
    | 0, _ => rfl
    | 1, _ => rfl
    | 2, _ => rfl
    | 3, _ => rfl
  have := gx_node gd4_k (g := g) (ext := ext) (key (q / 32) (by omega)) (j := q % 32) (gi_xi (by omega)) (by decide) (by omega)
  rwa [show 1 + 32 * (q / 32) + q % 32 = 1 + q by omega] at this
theorem gd4_rw {D : va_G} {AC : Nat → ClassId} {L : Heap} {G : Nat → Nat} {Nl : List Nat} {H : Heap} {N : List Nat} {g : Nat → Nat → Value} {d a : Nat} {r : Nat → Nat} (hN : N.length = gd4_T.length) (hg : ∀ i a c, N[i]? = some a → gd4_T[i]? = some c → gx_cell D AC gv_tab L G Nl gs_37.2.2 H gd4_rt gd4_ts gd4_pr g i a c) (hR : gr_R G H d a r) : ∀ k, k < 4 → N[2 + k]? = some (r k) ∧ ∀ j, j < 32 → gk_at H (r k) j = some (g (2 + k) j) := gi_rows hN hg hR (by decide +kernel) ⟨rfl, rfl, rfl⟩ (fun k hk => by
    match k, hk with
    | 0, _ => exact ⟨rfl, rfl⟩
    | 1, _ => exact ⟨rfl, rfl⟩
    | 2, _ => exact ⟨rfl, rfl⟩
    | 3, _ => exact ⟨rfl, rfl⟩) (fun k hk => by
    match k, hk with
    | 0, _ => exact ⟨_, rfl, rfl, rfl⟩
    | 1, _ => exact ⟨_, rfl, rfl, rfl⟩
    | 2, _ => exact ⟨_, rfl, rfl, rfl⟩
    | 3, _ => exact ⟨_, rfl, rfl, rfl⟩)
def gd0_T : List xk_C := (ke_dp 0).2.1
def gd0_rt : List (Nat × Nat) := [(0, 1)]
def gd0_ts : List Nat := [0, 13, 10, 10, 10, 10]
def gd0_pr : List (Nat × Nat) := [(0, 0), (0, 1), (1, 0), (1, 1), (1, 2), (1, 3)]
def gd0_bl : List (Nat × Nat × Nat × Nat) := [(2, 32, 2, 0), (34, 32, 3, 0), (66, 32, 4, 0), (98, 32, 5, 0)]
theorem gd0_k : gx_ck gv_tab gs_29.2.2 gd0_rt gd0_ts gd0_pr gd0_bl gd0_T = true := by decide +kernel
theorem gd0_4 : gx_r4 gd0_rt gd0_ts gd0_T = true := by decide +kernel
theorem gd0_l : gd0_ts.length = gd0_T.length := by decide +kernel
theorem gd0_nd {g : Nat → Nat → Value} {ext : Nat → Int} (q : Nat) (hq : q < 128) : xg_ρ gd0_bl g ext (2 + q) = xg_I (g (2 + q / 32) (q % 32)) := by
  have key : ∀ k, k < 4 → gd0_T[2 + k]? = some ((1, 0), xi (2 + 32 * k) 32) := fun k hk => by
    match k, hk with
    | 0, _ => rfl
    | 1, _ => rfl
    | 2, _ => rfl
    | 3, _ => rfl
  have := gx_node gd0_k (g := g) (ext := ext) (key (q / 32) (by omega)) (j := q % 32) (gi_xi (by omega)) (by decide) (by omega)
  rwa [show 2 + 32 * (q / 32) + q % 32 = 2 + q by omega] at this
theorem gd0_rw {D : va_G} {AC : Nat → ClassId} {L : Heap} {G : Nat → Nat} {Nl : List Nat} {H : Heap} {N : List Nat} {g : Nat → Nat → Value} {d a : Nat} {r : Nat → Nat} (hN : N.length = gd0_T.length) (hg : ∀ i a c, N[i]? = some a → gd0_T[i]? = some c → gx_cell D AC gv_tab L G Nl gs_29.2.2 H gd0_rt gd0_ts gd0_pr g i a c) (hR : gr_R G H d a r) : ∀ k, k < 4 → N[2 + k]? = some (r k) ∧ ∀ j, j < 32 → gk_at H (r k) j = some (g (2 + k) j) := gi_rows hN hg hR (by decide +kernel) ⟨rfl, rfl, rfl⟩ (fun k hk => by
    match k, hk with
    | 0, _ => exact ⟨rfl, rfl⟩
    | 1, _ => exact ⟨rfl, rfl⟩
    | 2, _ => exact ⟨rfl, rfl⟩
    | 3, _ => exact ⟨rfl, rfl⟩) (fun k hk => by
    match k, hk with
    | 0, _ => exact ⟨_, rfl, rfl, rfl⟩
    | 1, _ => exact ⟨_, rfl, rfl, rfl⟩
    | 2, _ => exact ⟨_, rfl, rfl, rfl⟩
    | 3, _ => exact ⟨_, rfl, rfl, rfl⟩)
def gd1_T : List xk_C := (kw_get 0).2.1
def gd1_rt : List (Nat × Nat) := [(0, 1), (6, 16)]
def gd1_ts : List Nat := [0, 13, 10, 10, 10, 10, 0]
def gd1_pr : List (Nat × Nat) := [(0, 0), (0, 1), (1, 0), (1, 1), (1, 2), (1, 3), (0, 0)]
def gd1_bl : List (Nat × Nat × Nat × Nat) := [(1, 32, 2, 0), (33, 32, 3, 0), (65, 32, 4, 0), (97, 32, 5, 0), (129, 1, 6, 0)]
theorem gd1_k : gx_ck gv_tab gs_31.2.2 gd1_rt gd1_ts gd1_pr gd1_bl gd1_T = true := by decide +kernel
theorem gd1_4 : gx_r4 gd1_rt gd1_ts gd1_T = true := by decide +kernel
theorem gd1_l : gd1_ts.length = gd1_T.length := by decide +kernel
theorem gd1_nd {g : Nat → Nat → Value} {ext : Nat → Int} (q : Nat) (hq : q < 128) : xg_ρ gd1_bl g ext (1 + q) = xg_I (g (2 + q / 32) (q % 32)) := by
  have key : ∀ k, k < 4 → gd1_T[2 + k]? = some ((1, 0), xi (1 + 32 * k) 32) := fun k hk => by
    match k, hk with
    | 0, _ => rfl
    | 1, _ => rfl
    | 2, _ => rfl
    | 3, _ => rfl
  have := gx_node gd1_k (g := g) (ext := ext) (key (q / 32) (by omega)) (j := q % 32) (gi_xi (by omega)) (by decide) (by omega)
  rwa [show 1 + 32 * (q / 32) + q % 32 = 1 + q by omega] at this
theorem gd1_rw {D : va_G} {AC : Nat → ClassId} {L : Heap} {G : Nat → Nat} {Nl : List Nat} {H : Heap} {N : List Nat} {g : Nat → Nat → Value} {d a : Nat} {r : Nat → Nat} (hN : N.length = gd1_T.length) (hg : ∀ i a c, N[i]? = some a → gd1_T[i]? = some c → gx_cell D AC gv_tab L G Nl gs_31.2.2 H gd1_rt gd1_ts gd1_pr g i a c) (hR : gr_R G H d a r) : ∀ k, k < 4 → N[2 + k]? = some (r k) ∧ ∀ j, j < 32 → gk_at H (r k) j = some (g (2 + k) j) := gi_rows hN hg hR (by decide +kernel) ⟨rfl, rfl, rfl⟩ (fun k hk => by
    match k, hk with
    | 0, _ => exact ⟨rfl, rfl⟩
    | 1, _ => exact ⟨rfl, rfl⟩
    | 2, _ => exact ⟨rfl, rfl⟩
    | 3, _ => exact ⟨rfl, rfl⟩) (fun k hk => by
    match k, hk with
    | 0, _ => exact ⟨_, rfl, rfl, rfl⟩
    | 1, _ => exact ⟨_, rfl, rfl, rfl⟩
    | 2, _ => exact ⟨_, rfl, rfl, rfl⟩
    | 3, _ => exact ⟨_, rfl, rfl, rfl⟩)
def gm2_T : List xk_C := (kg_ma 0).2.1
def gm2_rt : List (Nat × Nat) := [(0, 12)]
def gm2_ts : List Nat := [0, 15, 16, 46]
def gm2_pr : List (Nat × Nat) := [(0, 0), (0, 10), (0, 11), (0, 2)]
def gm2_bl : List (Nat × Nat × Nat × Nat) := [(1, 1, 0, 0), (2, 256, 1, 0), (258, 31, 2, 0), (289, 352, 3, 0)]
theorem gm2_k : gx_ck gv_tab gs_34.2.2 gm2_rt gm2_ts gm2_pr gm2_bl gm2_T = true := by decide +kernel
theorem gm2_4 : gx_r4 gm2_rt gm2_ts gm2_T = true := by decide +kernel
theorem gm2_l : gm2_ts.length = gm2_T.length := by decide +kernel
theorem gm2_nd {g : Nat → Nat → Value} {ext : Nat → Int} (q : Nat) (hq : q < 352) : xg_ρ gm2_bl g ext (289 + q) = xg_I (g 3 q) := gx_node gm2_k (g := g) (ext := ext) (show gm2_T[3]? = some ((6000, 0), xi 289 352) from rfl) (j := q) (gi_xi hq) (by decide) (by omega)
def gm3_T : List xk_C := kmr_T (0, (1, 0)) (0, (2, 0))
def gm3_rt : List (Nat × Nat) := [(0, 12)]
def gm3_ts : List Nat := [0, 47, 52, 53, 63, 49, 46, 48]
def gm3_pr : List (Nat × Nat) := [(0, 0), (0, 3), (0, 9), (0, 7), (0, 8), (0, 6), (0, 2), (0, 4)]
def gm3_bl : List (Nat × Nat × Nat × Nat) := [(1, 1, 0, 0), (2, 1, 0, 5), (3, 192, 1, 0), (195, 64, 2, 0), (259, 8, 3, 0), (267, 8, 4, 0), (275, 352, 6, 0), (627, 300, 7, 0)]
theorem gm3_k : gx_ck gv_tab gs_36.2.2 gm3_rt gm3_ts gm3_pr gm3_bl gm3_T = true := by decide +kernel
theorem gm3_4 : gx_r4 gm3_rt gm3_ts gm3_T = true := by decide +kernel
theorem gm3_l : gm3_ts.length = gm3_T.length := by decide +kernel
theorem gm3_nd {g : Nat → Nat → Value} {ext : Nat → Int} (q : Nat) (hq : q < 352) : xg_ρ gm3_bl g ext (275 + q) = xg_I (g 6 q) := gx_node gm3_k (g := g) (ext := ext) (show gm3_T[6]? = some ((6000, 0), xi 275 352) from rfl) (j := q) (gi_xi hq) (by decide) (by omega)
def gm4_T : List xk_C := kt_T (0, (1, 0))
def gm4_rt : List (Nat × Nat) := [(0, 12)]
def gm4_ts : List Nat := [0, 47, 52, 53, 63, 49, 46]
def gm4_pr : List (Nat × Nat) := [(0, 0), (0, 3), (0, 9), (0, 7), (0, 8), (0, 6), (0, 2)]
def gm4_bl : List (Nat × Nat × Nat × Nat) := [(1, 1, 0, 0), (2, 192, 1, 0), (194, 64, 2, 0), (258, 8, 3, 0), (266, 8, 4, 0), (274, 352, 6, 0)]
theorem gm4_k : gx_ck gv_tab gs_38.2.2 gm4_rt gm4_ts gm4_pr gm4_bl gm4_T = true := by decide +kernel
theorem gm4_4 : gx_r4 gm4_rt gm4_ts gm4_T = true := by decide +kernel
theorem gm4_l : gm4_ts.length = gm4_T.length := by decide +kernel
theorem gm4_nd {g : Nat → Nat → Value} {ext : Nat → Int} (q : Nat) (hq : q < 352) : xg_ρ gm4_bl g ext (274 + q) = xg_I (g 6 q) := gx_node gm4_k (g := g) (ext := ext) (show gm4_T[6]? = some ((6000, 0), xi 274 352) from rfl) (j := q) (gi_xi hq) (by decide) (by omega)
def gm0_T : List xk_C := (ke_mp 0).2.1
def gm0_rt : List (Nat × Nat) := [(0, 12)]
def gm0_ts : List Nat := [0, 46]
def gm0_pr : List (Nat × Nat) := [(0, 0), (0, 2)]
def gm0_bl : List (Nat × Nat × Nat × Nat) := [(2, 1, 0, 0), (3, 352, 1, 0)]
theorem gm0_k : gx_ck gv_tab gs_30.2.2 gm0_rt gm0_ts gm0_pr gm0_bl gm0_T = true := by decide +kernel
theorem gm0_4 : gx_r4 gm0_rt gm0_ts gm0_T = true := by decide +kernel
theorem gm0_l : gm0_ts.length = gm0_T.length := by decide +kernel
theorem gm0_nd {g : Nat → Nat → Value} {ext : Nat → Int} (q : Nat) (hq : q < 352) : xg_ρ gm0_bl g ext (3 + q) = xg_I (g 1 q) := gx_node gm0_k (g := g) (ext := ext) (show gm0_T[1]? = some ((6000, 0), xi 3 352) from rfl) (j := q) (gi_xi hq) (by decide) (by omega)
def gm1_T : List xk_C := (ke_mg 0).2.1
def gm1_rt : List (Nat × Nat) := [(0, 12)]
def gm1_ts : List Nat := [0, 46]
def gm1_pr : List (Nat × Nat) := [(0, 0), (0, 2)]
def gm1_bl : List (Nat × Nat × Nat × Nat) := [(1, 1, 0, 0), (2, 352, 1, 0)]
theorem gm1_k : gx_ck gv_tab gs_32.2.2 gm1_rt gm1_ts gm1_pr gm1_bl gm1_T = true := by decide +kernel
theorem gm1_4 : gx_r4 gm1_rt gm1_ts gm1_T = true := by decide +kernel
theorem gm1_l : gm1_ts.length = gm1_T.length := by decide +kernel
theorem gm1_nd {g : Nat → Nat → Value} {ext : Nat → Int} (q : Nat) (hq : q < 352) : xg_ρ gm1_bl g ext (2 + q) = xg_I (g 1 q) := gx_node gm1_k (g := g) (ext := ext) (show gm1_T[1]? = some ((6000, 0), xi 2 352) from rfl) (j := q) (gi_xi hq) (by decide) (by omega)
