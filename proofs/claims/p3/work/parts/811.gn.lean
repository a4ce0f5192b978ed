/-! ===== agree ===== -/
theorem gi_by {D : va_G} {AC : Nat → ClassId} {S : Nat → Nat} {L : Heap} {ρ : Nat → Int} {G : Nat → Nat} {N : List Nat} {T : List ck_C} {H : Heap} (hH : ck_H D AC S gv_tab L ρ G N T H) {a q : Nat} {v : Value} (ha : G a = 46) (hv : gk_at H a q = some v) (hq : q < 6000) : 0 ≤ xg_I v ∧ xg_I v ≤ 255 := by
  obtain ⟨f, -, f2, f3⟩ := gs_arr hH ha (by decide) (show gv_tab[46]? = some (.inl (0, 6000, [(6000, gv_i 0 255)])) from rfl)
  rw [f2 q hq] at hv
  cases hv
  have h := f3 q hq
  have e3 : ck_kat [(6000, gv_i 0 255)] q = gv_i 0 255 := by
    unfold ck_kat
    rw [if_pos hq]
  rw [e3] at h
  obtain ⟨x, e, x1, x2, -⟩ := h
  rw [e]
  exact ⟨x1, x2⟩
section GN
variable {p : Program} {l : Launch} {e : Env} {m : MethodId} {args : Array Value} {below : List Frame} {meth : Method} {c : Code}
variable {D : va_G} {AC : Nat → ClassId} {S : Nat → Nat} {L : Heap} {n : Nat}
theorem gn_2 (htr : e.platform.stackTraces = false) (hn1 : 1 ≤ n) (hn2 : n ≤ 2561) {Φc Φr : Nat → Nat → List Int → Int} (HD : kX Φc) (HM : kY Φr) : gl_In p l e m args below meth c D AC S L n 296 gp_i2_1_B := by
  intro k b s R ls ρ G N d a r ih hc hs hf hlo hB hKf hSt hρ hbn hS hR hE
  have hz : ∀ q, s.heap.size ≤ q → G q = 0 := by
    obtain ⟨lv, -, -, -, i4⟩ := hS
    exact fun q hq => i4.zero hq
  refine gk_piece (M := glw_M) (S := gl_S S b) (n := n) (al := []) hB htr ⟨Nat.zero_le _, Nat.zero_le _, Nat.zero_le _, Nat.zero_le _⟩ hn1 hn2 hKf ce_ok11 rfl cm_ok gp_i2_1_h ce_glob kco_law_ok (fun a ha => by cases ha) rfl (fun _ => hρ) (by decide) gp_i2_1_m hS (fun a' ha' s1 ls1 st1 ρ1 G1 N1 hW1 hS1 hF1 hρ1 => ?_)
  rw [gp_i2_1_n, List.mem_singleton] at ha'
  subst ha'
  refine ⟨3 * (k + 1 + 1), 18 * (k + 1 + 1), by show 0 + _ ≤ _; omega, by show 0 + _ ≤ _; omega, ?_⟩
  have hR1 := hR.keep hF1 hz (by decide)
  have hE1 := hE.keep hF1 hz (by decide) hR
  obtain ⟨lv1, a1, a2, a3, a4⟩ := id hS1
  have hz1 : ∀ q, s1.heap.size ≤ q → G1 q = 0 := fun q hq => a4.zero hq
  obtain ⟨x1, x2, x3, aX, rfl, hX, e1, e2, e3, b1, b2, b3⟩ := gi_stk3 (h1 := 3) (h2 := 3) (h3 := 3) (nm := 1) a3
  obtain ⟨k1, f1⟩ : ∃ k : Nat, x1.toInt = (k : Int) := ⟨x1.toInt.toNat, by omega⟩
  obtain ⟨k2, f2⟩ : ∃ k : Nat, x2.toInt = (k : Int) := ⟨x2.toInt.toNat, by omega⟩
  obtain ⟨k3, f3⟩ : ∃ k : Nat, x3.toInt = (k : Int) := ⟨x3.toInt.toNat, by omega⟩
  have X1 : (16 * k1 + 4 * k2 + k3) / 16 = k1 := by omega
  have X2 : (16 * k1 + 4 * k2 + k3) / 4 % 4 = k2 := by omega
  have X3 : (16 * k1 + 4 * k2 + k3) % 4 = k3 := by omega
  obtain ⟨Nx, g, hNx, hg, hxH⟩ := gx_build (rt := gd2_rt) (τs := gd2_ts) (par := gd2_pr) (bl := gd2_bl) (T := gd2_T) a4 gd2_k hR1.row (gx_r4_ok gd2_4) hR1.2.2.2.2.2.2 (fun _ => 0)
  have hrw := gd2_rw hNx hg hR1
  have hX0 := gi_own hNx hg (i := 0) (nm := 1) (by decide +kernel) rfl hX
  refine gl_both (S := gl_S S b) (Φ := Φc) (Xc := gt_826) (mi0 := 106) (M0 := cm_106) (K := gq_2_1_K) (Kx := kw_agr (16 * k1 + 4 * k2 + k3)) (B := gs_33) (y := gq_2_1_y) (va := [.ref aX, .int x1, .int x2, .int x3]) (rest := []) (ρ := ρ1) (G := G1) (N := N1) (Nx := Nx) (θ := xg_θ g) (ρ0 := xg_ρ gd2_bl g (fun _ => 0)) (c2 := 3 * (k + 1 + 1)) (s2 := 18 * (k + 1 + 1)) (gk_Bmv hB hW1) htr ⟨by show 5 ≤ R.frames; omega, by show 157 ≤ R.locals; omega, Nat.zero_le _, Nat.zero_le _⟩ hn1 hn2 (hKf.moved hW1) (gl_St (hSt.moved hW1.alike)) cm_g106 rfl (gt_826_ok.wid (Nat.zero_le _) (by decide)) (kw_agr_ok HD (by omega)).1 ⟨Nat.le_of_ble_eq_true rfl, Nat.le_of_ble_eq_true rfl⟩ rfl rfl gq_2_1_m rfl (Nat.zero_le _) (Nat.zero_le _) (by show 0 + _ ≤ _; omega) (by show 0 + _ ≤ _; omega) hS1 ?_ hxH (fun s2 w ρ2 G2 N2 hW2 hS2 hF2 hρ2 hrs hxH2 hxF => ?_)
  · exact ck_all.cons (gi_a1 hX0) (ck_all.cons (gi_ac (by rw [f1, X1])) (ck_all.cons (gi_ac (by rw [f2, X2])) (ck_all.cons (gi_ac (by rw [f3, X3])) ck_all.nil)))
  have V2 := State.WarmedH.trans hW1 hW2
  have hR2 := hR1.keep hF2 hz1 (by decide)
  have hz2 : ∀ q, s2.heap.size ≤ q → G2 q = 0 := by
    obtain ⟨lv, -, -, -, i4⟩ := hS2
    exact fun q hq => i4.zero hq
  have hin : (xn (1 + 32 * ((16 * k1 + 4 * k2 + k3) / 16)) 32 ++ xn (1 + 32 * ((16 * k1 + 4 * k2 + k3) / 4 % 4)) 32).map (xg_ρ gd2_bl g (fun _ => 0)) = (List.range 32).map (fun i => xg_I (g (2 + k1) i)) ++ (List.range 32).map (fun i => xg_I (g (2 + k2) i)) := by
    rw [X1, X2, List.map_append, gi_xm, gi_xm]
    refine congr (congrArg _ (gi_mp fun i hi => ?_)) (gi_mp fun i hi => ?_)
    · have := gd2_nd (g := g) (ext := fun _ => 0) (32 * k1 + i) (by omega)
      rwa [show 1 + (32 * k1 + i) = 1 + 32 * k1 + i by omega, show (32 * k1 + i) / 32 = k1 by omega, show (32 * k1 + i) % 32 = i by omega] at this
    · have := gd2_nd (g := g) (ext := fun _ => 0) (32 * k2 + i) (by omega)
      rwa [show 1 + (32 * k2 + i) = 1 + 32 * k2 + i by omega, show (32 * k2 + i) / 32 = k2 by omega, show (32 * k2 + i) % 32 = i by omega] at this
  generalize hIN : (List.range 32).map (fun i => xg_I (g (2 + k1) i)) ++ (List.range 32).map (fun i => xg_I (g (2 + k2) i)) = IN at hin
  have rows2 : ∀ q, q < 128 → ∃ x : Int32, gk_at s2.heap (r (q / 32)) (q % 32) = some (.int x) ∧ x.toInt = if q / 32 = k3 then Φc 50 (q % 32) IN else xg_I (g (2 + q / 32) (q % 32)) := by
    intro q hq
    have key : ∀ k, k < 4 → (kw_agr (16 * k1 + 4 * k2 + k3)).2.2.2.1[2 + k]? = some ((1, 0), xi (if k = (16 * k1 + 4 * k2 + k3) % 4 then 249 else 1 + 32 * k) 32) := fun k hk => by
      match k, hk with
      | 0, _ => rfl
      | 1, _ => rfl
      | 2, _ => rfl
      | 3, _ => rfl
    obtain ⟨x, y1, y2⟩ := gx_post hxH2 (key (q / 32) (by omega)) (hrw (q / 32) (by omega)).1 (by show (1 : Nat) ≠ 0; omega) (j := q % 32) (gi_xi (by omega)) (by split <;> omega)
    refine ⟨x, y1, ?_⟩
    rw [y2]
    show xk_rho Φc (50, 248, xn (1 + 32 * ((16 * k1 + 4 * k2 + k3) / 16)) 32 ++ xn (1 + 32 * ((16 * k1 + 4 * k2 + k3) / 4 % 4)) 32) (xg_ρ gd2_bl g (fun _ => 0)) _ = _
    rw [X3]
    by_cases h : q / 32 = k3
    · rw [if_pos h, if_pos h, gi_rn (k := q % 32) (by omega), hin]
    · rw [if_neg h, if_neg h, gi_rz (by omega)]
      have := gd2_nd (g := g) (ext := fun _ => 0) q hq
      rwa [show 1 + q = 1 + 32 * (q / 32) + q % 32 by omega] at this
  have mem2 : ∀ q, gk_at s2.heap a q = gk_at s1.heap a q := fun q => gi_keep hNx hg hxF hR1.2.1 (by decide) (by decide) gd2_l
  refine gk_piece (M := glw_M) (S := gl_S S b) (n := n) (al := []) (gk_Bmv hB V2) htr ⟨Nat.zero_le _, Nat.zero_le _, Nat.zero_le _, Nat.zero_le _⟩ hn1 hn2 (hKf.moved V2) ce_ok11 rfl cm_ok gp_i2_2_h ce_glob kco_law_ok (fun a ha => by cases ha) rfl (fun _ => by rw [hρ2 149 (by omega) (by omega), hρ1 149 (by omega) (by omega)]; exact hρ) (by decide) gp_i2_2_m (gi_le gq_2_1_e hS2) (fun a' ha' s3 ls3 st3 ρ3 G3 N3 hW3 hS3 hF3 hρ3 => ?_)
  rw [gp_i2_2_n, List.mem_singleton] at ha'
  subst ha'
  refine ⟨3 * (k + 1 + 1), 18 * (k + 1 + 1), by show 0 + _ ≤ _; omega, by show 0 + _ ≤ _; omega, ?_⟩
  have V3 := State.WarmedH.trans V2 hW3
  have hR3 := hR2.keep hF3 hz2 (by decide)
  obtain ⟨lv3, c1, c2, c3, c4⟩ := id hS3
  have hz3 : ∀ q, s3.heap.size ≤ q → G3 q = 0 := fun q hq => c4.zero hq
  have rows3 : ∀ q, q < 128 → gk_at s3.heap (r (q / 32)) (q % 32) = gk_at s2.heap (r (q / 32)) (q % 32) := fun q hq => gr_at hF3 hz2 (hR2.2.2.2.2.2.1 (q / 32) (by omega)).1 (by decide) (by decide) (by omega)
  have mem3 : ∀ q, q < 128 → gk_at s3.heap a q = gk_at s2.heap a q := fun q hq => gr_at hF3 hz2 hR2.2.1 (by decide) (by decide) hq
  obtain ⟨z1, z2, z3, aM, rfl, hM, u1, u2, u3, -, -, -⟩ := gi_stk3 (h1 := 3) (h2 := 3) (h3 := 3) (nm := 12) c3
  have v1 : z1.toInt = (k1 : Int) := by rw [u1, hρ3 144 (by omega) (by omega), hρ2 144 (by omega) (by omega), ← e1, f1]
  have v2 : z2.toInt = (k2 : Int) := by rw [u2, hρ3 145 (by omega) (by omega), hρ2 145 (by omega) (by omega), ← e2, f2]
  have v3 : z3.toInt = (k3 : Int) := by rw [u3, hρ3 146 (by omega) (by omega), hρ2 146 (by omega) (by omega), ← e3, f3]
  obtain ⟨Ny, gm, hNy, hgm, hyH⟩ := gx_build (rt := gm2_rt) (τs := gm2_ts) (par := gm2_pr) (bl := gm2_bl) (T := gm2_T) c4 gm2_k hR3.row (gx_r4_ok gm2_4) hR3.2.2.2.2.2.2 (fun _ => 0)
  have hmem := gi_mem hNy hgm hR3 (im := 3) ⟨rfl, rfl, rfl⟩
  have hM0 := gi_own hNy hgm (i := 0) (nm := 12) (by decide +kernel) rfl hM
  have hgq : ∀ q, q < 128 → gm 3 q = g (2 + q / 32) (q % 32) := fun q hq => by
    have h1 := hmem.2 q (by omega)
    have h2 := hE1 (q / 32) (q % 32) (by omega) (by omega)
    rw [show 32 * (q / 32) + q % 32 = q by omega, (hrw (q / 32) (by omega)).2 (q % 32) (by omega), ← mem2 q, ← mem3 q hq, h1] at h2
    exact (Option.some.inj h2).symm
  refine gl_both (S := gl_S S b) (Φ := Φr) (Xc := gt_828) (mi0 := 128) (M0 := cm_128) (K := gq_2_2_K) (Kx := kg_ma (16 * k1 + 4 * k2 + k3)) (B := gs_34) (y := gq_2_2_y) (va := [.ref aM, .int z1, .int z2, .int z3]) (rest := []) (ρ := ρ3) (G := G3) (N := N3) (Nx := Ny) (θ := xg_θ gm) (ρ0 := xg_ρ gm2_bl gm (fun _ => 0)) (c2 := 3 * (k + 1 + 1)) (s2 := 18 * (k + 1 + 1)) (gk_Bmv hB V3) htr ⟨by show 5 ≤ R.frames; omega, by show 79 ≤ R.locals; omega, Nat.zero_le _, Nat.zero_le _⟩ hn1 hn2 (hKf.moved V3) (gl_St (hSt.moved V3.alike)) cm_g128 rfl (gt_828_ok.wid (Nat.zero_le _) (by decide)) (kg_ma_ok HM (by omega)).1 ⟨Nat.le_of_ble_eq_true rfl, Nat.le_of_ble_eq_true rfl⟩ rfl rfl gq_2_2_m rfl (Nat.zero_le _) (Nat.zero_le _) (by show 0 + _ ≤ _; omega) (by show 0 + _ ≤ _; omega) hS3 ?_ hyH (fun s4 w' ρ4 G4 N4 hW4 hS4 hF4 hρ4 hrs' hyH2 hyF => ?_)
  · exact ck_all.cons (gi_a1 hM0) (ck_all.cons (gi_ac (by rw [v1, X1])) (ck_all.cons (gi_ac (by rw [v2, X2])) (ck_all.cons (gi_ac (by rw [v3, X3])) ck_all.nil)))
  have V4 := State.WarmedH.trans V3 hW4
  have hR4 := hR3.keep hF4 hz3 (by decide)
  have hz4 : ∀ q, s4.heap.size ≤ q → G4 q = 0 := by
    obtain ⟨lv, -, -, -, i4⟩ := hS4
    exact fun q hq => i4.zero hq
  have hinM : (xn (289 + 32 * ((16 * k1 + 4 * k2 + k3) / 16)) 32 ++ xn (289 + 32 * ((16 * k1 + 4 * k2 + k3) / 4 % 4)) 32).map (xg_ρ gm2_bl gm (fun _ => 0)) = IN := by
    rw [X1, X2, List.map_append, gi_xm, gi_xm, ← hIN]
    refine congr (congrArg _ (gi_mp fun i hi => ?_)) (gi_mp fun i hi => ?_)
    · have := gm2_nd (g := gm) (ext := fun _ => 0) (32 * k1 + i) (by omega)
      rw [hgq (32 * k1 + i) (by omega)] at this
      rwa [show 289 + (32 * k1 + i) = 289 + 32 * k1 + i by omega, show (32 * k1 + i) / 32 = k1 by omega, show (32 * k1 + i) % 32 = i by omega] at this
    · have := gm2_nd (g := gm) (ext := fun _ => 0) (32 * k2 + i) (by omega)
      rw [hgq (32 * k2 + i) (by omega)] at this
      rwa [show 289 + (32 * k2 + i) = 289 + 32 * k2 + i by omega, show (32 * k2 + i) / 32 = k2 by omega, show (32 * k2 + i) % 32 = i by omega] at this
  have hsame : ∀ j, j < 32 → Φr (62 + (16 * k1 + 4 * k2 + k3) / 4 % 4) j IN = Φc 50 j IN := by
    intro j hj
    rw [← hIN]
    rw [X2]
    refine (gf_agr HD HM (by omega) (by simp) ⟨by simp, fun v hv => ?_⟩ j).symm
    obtain ⟨i, hi, rfl⟩ := List.mem_map.mp hv
    have hi := List.mem_range.mp hi
    have hb := gi_by c4 hR3.2.1 (hmem.2 (32 * k2 + i) (by omega)) (by omega)
    rw [hgq (32 * k2 + i) (by omega), show (32 * k2 + i) / 32 = k2 by omega, show (32 * k2 + i) % 32 = i by omega] at hb
    exact hb
  have mem4 : ∀ q, q < 128 → ∃ x : Int32, gk_at s4.heap a q = some (.int x) ∧ x.toInt = if q / 32 = k3 then Φc 50 (q % 32) IN else xg_I (g (2 + q / 32) (q % 32)) := by
    intro q hq
    have hl : (xi 289 (32 * ((16 * k1 + 4 * k2 + k3) % 4)) ++ xi 641 32 ++ xi (321 + 32 * ((16 * k1 + 4 * k2 + k3) % 4)) (288 - 32 * ((16 * k1 + 4 * k2 + k3) % 4)) ++ List.replicate 32 (4, 0, 0))[q]? = some (0, (if 32 * k3 ≤ q ∧ q < 32 * k3 + 32 then 641 + (q - 32 * k3) else 289 + q), 0) := by
      rw [X3, List.append_assoc]
      exact gi_seg (s0 := 289) (p := 32 * k3) (mm := 32) (r := 288 - 32 * k3) (s2 := 321 + 32 * k3) (q := q) (M := xi 641 32) (f := fun i => 641 + i) (by omega) gi_xil (fun i hi => gi_xi hi) (by omega)
    obtain ⟨x, y1, y2⟩ := gx_post hyH2 (show (kg_ma (16 * k1 + 4 * k2 + k3)).2.2.2.1[3]? = some ((6000, 0), xi 289 (32 * ((16 * k1 + 4 * k2 + k3) % 4)) ++ xi 641 32 ++ xi (321 + 32 * ((16 * k1 + 4 * k2 + k3) % 4)) (288 - 32 * ((16 * k1 + 4 * k2 + k3) % 4)) ++ List.replicate 32 (4, 0, 0)) from rfl) hmem.1 (by show (6000 : Nat) ≠ 0; omega) hl (by split <;> omega)
    refine ⟨x, y1, ?_⟩
    rw [y2]
    show xk_rho Φr ((62 + (16 * k1 + 4 * k2 + k3) / 4 % 4), 640, xn (289 + 32 * ((16 * k1 + 4 * k2 + k3) / 16)) 32 ++ xn (289 + 32 * ((16 * k1 + 4 * k2 + k3) / 4 % 4)) 32) (xg_ρ gm2_bl gm (fun _ => 0)) _ = _
    by_cases h : q / 32 = k3
    · rw [if_pos h, if_pos (by omega), gi_rn (k := q % 32) (by omega), hinM]
      exact hsame _ (by omega)
    · rw [if_neg h, if_neg (by omega), gi_rz (by omega), gm2_nd q (by omega), hgq q hq]
  have rows4 : ∀ q, q < 128 → gk_at s4.heap (r (q / 32)) (q % 32) = gk_at s3.heap (r (q / 32)) (q % 32) := fun q hq => gi_keep hNy hgm hyF (hR3.2.2.2.2.2.1 (q / 32) (by omega)).1 (by decide) (by decide) gm2_l
  refine gk_piece (M := glw_M) (S := gl_S S b) (n := n) (al := []) (gk_Bmv hB V4) htr ⟨Nat.zero_le _, Nat.zero_le _, Nat.zero_le _, Nat.zero_le _⟩ hn1 hn2 (hKf.moved V4) ce_ok11 rfl cm_ok gp_i2_3_h ce_glob kco_law_ok (fun a ha => by cases ha) rfl (fun _ => by rw [hρ4 149 (by omega) (by omega), hρ3 149 (by omega) (by omega), hρ2 149 (by omega) (by omega), hρ1 149 (by omega) (by omega)]; exact hρ) (by decide) gp_i2_3_m (gi_le gq_2_2_e hS4) (fun a' ha' s5 ls5 st5 ρ5 G5 N5 hW5 hS5 hF5 hρ5 => ?_)
  rw [gp_i2_3_n, List.mem_singleton] at ha'
  subst ha'
  obtain ⟨rfl, hS6⟩ := gl_back (b := b) (ρ := ρ5) (by rw [hρ5 149 (by omega) (by omega), hρ4 149 (by omega) (by omega), hρ3 149 (by omega) (by omega), hρ2 149 (by omega) (by omega), hρ1 149 (by omega) (by omega)]; exact hρ) (by rw [gl_eE]; exact hS5)
  have V5 := State.WarmedH.trans V4 hW5
  refine ⟨3 * (k + 1), 18 * (k + 1), by show 0 + _ ≤ _; omega, by show 0 + _ ≤ _; omega, ?_⟩
  refine ih s5 _ ls5 ρ5 G5 N5 d a r (by show _ ≤ R.cells - 0 - 0 - 0 - 0 - 0; omega) (by show _ ≤ R.slots - 0 - 0 - 0 - 0 - 0; omega) hf hlo (gk_Bmv hB V5) (hKf.moved V5) (hSt.moved V5.alike) hS6 (hR4.keep hF5 hz4 (by decide)) (gi_E (nw := fun q => if q / 32 = k3 then Φc 50 (q % 32) IN else xg_I (g (2 + q / 32) (q % 32))) (fun q hq => ?_) (fun q hq => ?_))
  · obtain ⟨x, x1, x2⟩ := rows2 q hq
    refine ⟨x, ?_, x2⟩
    rw [gr_at hF5 hz4 (hR4.2.2.2.2.2.1 (q / 32) (by omega)).1 (by decide) (by decide) (by omega), rows4 q hq, rows3 q hq]
    exact x1
  · obtain ⟨x, x1, x2⟩ := mem4 q hq
    refine ⟨x, ?_, x2⟩
    rw [gr_at hF5 hz4 hR4.2.1 (by decide) (by decide) hq]
    exact x1
end GN
