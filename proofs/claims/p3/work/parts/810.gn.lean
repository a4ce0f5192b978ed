/-! ===== put ===== -/
section GN
variable {p : Program} {l : Launch} {e : Env} {m : MethodId} {args : Array Value} {below : List Frame} {meth : Method} {c : Code}
variable {D : va_G} {AC : Nat → ClassId} {S : Nat → Nat} {L : Heap} {n : Nat}
theorem gn_0 (htr : e.platform.stackTraces = false) (hn1 : 1 ≤ n) (hn2 : n ≤ 2561) {Φ : Nat → Nat → List Int → Int} (HE : kE Φ) : gl_In p l e m args below meth c D AC S L n 148 gp_i0_1_B := by
  intro k b s R ls ρ G N d a r ih hc hs hf hlo hB hKf hSt hρ hbn hS hR hE
  have hz : ∀ q, s.heap.size ≤ q → G q = 0 := by
    obtain ⟨lv, -, -, -, i4⟩ := hS
    exact fun q hq => i4.zero hq
  refine gk_piece (M := glw_M) (B := gp_i0_1b_B) (S := gl_S S b) (n := n) (al := []) hB htr ⟨Nat.zero_le _, Nat.zero_le _, Nat.zero_le _, Nat.zero_le _⟩ hn1 hn2 hKf ce_ok11 rfl cm_ok gp_i0_1b_h ce_glob kco_law_ok (fun a ha => by cases ha) rfl (fun _ => hρ) (by decide) gp_i0_1b_m hS (fun a' ha' s1 ls1 st1 ρ1 G1 N1 hW1 hS1 hF1 hρ1 => ?_)
  rw [gp_i0_1b_n, List.mem_singleton] at ha'
  subst ha'
  refine ⟨3 * (k + 1 + 1), 18 * (k + 1 + 1), by show 0 + _ ≤ _; omega, by show 0 + _ ≤ _; omega, ?_⟩
  have hR1 := hR.keep hF1 hz (by decide)
  have hE1 := hE.keep hF1 hz (by decide) hR
  obtain ⟨lv1, a1, a2, a3, a4⟩ := id hS1
  have hz1 : ∀ q, s1.heap.size ≤ q → G1 q = 0 := fun q hq => a4.zero hq
  obtain ⟨w3, x1, x2, aX, rfl, hX, e3, e1, e2, b1, b2, a5⟩ := gh_stk (nm := 1) a3
  obtain ⟨l0, ⟨xb, l4, l5⟩, w4, q4, q5⟩ := gh_ls (S := S) hS1 rfl rfl rfl rfl (by rw [hρ1 149 (by omega) (by omega)]; exact hρ)
  refine gh_long (S := S) (pc := 167) (b := b) (gk_Bmv hB hW1) (hKf.moved hW1) ⟨a4.1.1, a4.1.2.1⟩ l0 l4 l5 hbn hn2 (gl_dec 167 rfl) (gl_dec 168 rfl) (gl_dec 170 rfl) (gl_dec 171 rfl) (gl_dec 172 rfl) (gl_dec 174 rfl) (gl_dec 175 rfl) (gl_dec 176 rfl) (gl_dec 177 rfl) (gl_dec 178 rfl) (gl_dec 181 rfl) (gl_dec 182 rfl) q5 ?_
  generalize hv : gh_v w3 w4 = v
  have hS1' : gk_S D AC (gl_S S b) gv_tab L 8 ρ1 G1 N1 gs_29 s1.heap ls1 (([.ref aX, .int x1, .int x2, .long v] : List Value).reverse ++ []) := gi_le gh_da ⟨lv1, a1, a2, ck_all.cons ⟨v, rfl, (ck_i64 v).1, (ck_i64 v).2⟩ a5, a4⟩
  obtain ⟨k1, f1⟩ : ∃ k : Nat, x1.toInt = (k : Int) := ⟨x1.toInt.toNat, by omega⟩
  obtain ⟨k2, f2⟩ : ∃ k : Nat, x2.toInt = (k : Int) := ⟨x2.toInt.toNat, by omega⟩
  have X1 : (4 * k1 + k2) / 4 = k1 := by omega
  have X2 : (4 * k1 + k2) % 4 = k2 := by omega
  obtain ⟨Nx, g, hNx, hg, hxH⟩ := gx_build (rt := gd0_rt) (τs := gd0_ts) (par := gd0_pr) (bl := gd0_bl) (T := gd0_T) (Tl := gs_29.2.2) a4 gd0_k hR1.row (gx_r4_ok gd0_4) hR1.2.2.2.2.2.2 (fun _ => v.toInt)
  have hrw := gd0_rw hNx hg hR1
  have hX0 := gi_own hNx hg (i := 0) (nm := 1) (by decide +kernel) rfl hX
  refine gl_both (S := gl_S S b) (Φ := Φ) (Xc := gt_784) (mi0 := 120) (M0 := cm_120) (K := gq_0_1_K) (Kx := kw_put (4 * k1 + k2)) (B := gs_29) (y := gq_0_1_y) (va := [.ref aX, .int x1, .int x2, .long v]) (rest := []) (ρ := ρ1) (G := G1) (N := N1) (Nx := Nx) (θ := xg_θ g) (ρ0 := xg_ρ gd0_bl g (fun _ => v.toInt)) (c2 := 3 * (k + 1 + 1)) (s2 := 18 * (k + 1 + 1)) (gk_Bmv hB hW1) htr ⟨by show 3 ≤ R.frames; omega, by show 49 ≤ R.locals; omega, Nat.zero_le _, Nat.zero_le _⟩ hn1 hn2 (hKf.moved hW1) (gl_St (hSt.moved hW1.alike)) cm_g120 rfl (gt_784_ok.wid (Nat.zero_le _) (by decide)) (kw_put_ok HE (by omega)).1 ⟨Nat.le_of_ble_eq_true rfl, Nat.le_of_ble_eq_true rfl⟩ rfl rfl gq_0_1_m rfl (Nat.zero_le _) (Nat.zero_le _) (by show 0 + _ ≤ _; omega) (by show 0 + _ ≤ _; omega) hS1' ?_ hxH (fun s2 w ρ2 G2 N2 hW2 hS2 hF2 hρ2 hrs hxH2 hxF => ?_)
  · exact ck_all.cons (gi_a1 hX0) (ck_all.cons (gi_ac (by rw [f1, X1])) (ck_all.cons (gi_ac (by rw [f2, X2])) (ck_all.cons ⟨v, rfl, rfl⟩ ck_all.nil)))
  have V2 := State.WarmedH.trans hW1 hW2
  have hR2 := hR1.keep hF2 hz1 (by decide)
  have hz2 : ∀ q, s2.heap.size ≤ q → G2 q = 0 := by
    obtain ⟨lv, -, -, -, i4⟩ := hS2
    exact fun q hq => i4.zero hq
  have rows2 : ∀ q, q < 128 → ∃ x : Int32, gk_at s2.heap (r (q / 32)) (q % 32) = some (.int x) ∧ x.toInt = if 8 * (4 * k1 + k2) ≤ q ∧ q < 8 * (4 * k1 + k2) + 8 then Φ 1010 (2 + 3 * (q - 8 * (4 * k1 + k2))) [v.toInt] else xg_I (g (2 + q / 32) (q % 32)) := by
    intro q hq
    have key : ∀ k, k < 4 → (kw_put (4 * k1 + k2)).2.2.2.1[2 + k]? = some ((1, 0), if k = (4 * k1 + k2) / 4 then xi (2 + 32 * k) (8 * ((4 * k1 + k2) % 4)) ++ (List.range 8).map (fun i => (0, (132 + 3 * i, 0))) ++ xi (10 + 32 * k + 8 * ((4 * k1 + k2) % 4)) (24 - 8 * ((4 * k1 + k2) % 4)) else xi (2 + 32 * k) 32) := fun k hk => by
      match k, hk with
      | 0, _ => rfl
      | 1, _ => rfl
      | 2, _ => rfl
      | 3, _ => rfl
    have hl : (if q / 32 = (4 * k1 + k2) / 4 then xi (2 + 32 * (q / 32)) (8 * ((4 * k1 + k2) % 4)) ++ (List.range 8).map (fun i => ((0, (132 + 3 * i, 0)) : xk_V)) ++ xi (10 + 32 * (q / 32) + 8 * ((4 * k1 + k2) % 4)) (24 - 8 * ((4 * k1 + k2) % 4)) else xi (2 + 32 * (q / 32)) 32)[q % 32]? = some (0, (if 8 * (4 * k1 + k2) ≤ q ∧ q < 8 * (4 * k1 + k2) + 8 then 132 + 3 * (q - 8 * (4 * k1 + k2)) else 2 + q), 0) := by
      rw [X1, X2]
      by_cases h : q / 32 = k1
      · rw [if_pos h]
        have := gi_seg (s0 := 2 + 32 * (q / 32)) (p := 8 * k2) (mm := 8) (r := 24 - 8 * k2) (s2 := 10 + 32 * (q / 32) + 8 * k2) (q := q % 32) (M := (List.range 8).map (fun i => ((0, (132 + 3 * i, 0)) : xk_V))) (tl := []) (f := fun i => 132 + 3 * i) (by omega) (by simp) gi_m8 (by omega)
        rw [List.append_nil] at this
        rw [this]
        refine congrArg some (congrArg (fun z => ((0, z, 0) : xk_V)) ?_)
        by_cases h2 : 8 * k2 ≤ q % 32 ∧ q % 32 < 8 * k2 + 8
        · rw [if_pos h2, if_pos (by omega)]
          show 132 + 3 * (q % 32 - 8 * k2) = _
          omega
        · rw [if_neg h2, if_neg (by omega)]
          omega
      · rw [if_neg h, gi_xi (by omega), if_neg (by omega)]
        exact congrArg some (congrArg (fun z => ((0, z, 0) : xk_V)) (by omega))
    obtain ⟨x, y1, y2⟩ := gx_post hxH2 (key (q / 32) (by omega)) (hrw (q / 32) (by omega)).1 (by show (1 : Nat) ≠ 0; omega) (j := q % 32) hl (by split <;> omega)
    refine ⟨x, y1, ?_⟩
    rw [y2]
    show xk_rho Φ (1010, 129, [1]) (xg_ρ gd0_bl g (fun _ => v.toInt)) _ = _
    by_cases h : 8 * (4 * k1 + k2) ≤ q ∧ q < 8 * (4 * k1 + k2) + 8
    · rw [if_pos h, if_pos h, gi_rn (k := 2 + 3 * (q - 8 * (4 * k1 + k2))) (by omega)]
      rfl
    · rw [if_neg h, if_neg h, gi_rz (by omega)]
      exact gd0_nd q hq
  have mem2 : ∀ q, gk_at s2.heap a q = gk_at s1.heap a q := fun q => gi_keep hNx hg hxF hR1.2.1 (by decide) (by decide) gd0_l
  refine gk_piece (M := glw_M) (B := gp_i0_2b_B) (S := gl_S S b) (n := n) (al := []) (gk_Bmv hB V2) htr ⟨Nat.zero_le _, Nat.zero_le _, Nat.zero_le _, Nat.zero_le _⟩ hn1 hn2 (hKf.moved V2) ce_ok11 rfl cm_ok gp_i0_2b_h ce_glob kco_law_ok (fun a ha => by cases ha) rfl (fun _ => by rw [hρ2 149 (by omega) (by omega), hρ1 149 (by omega) (by omega)]; exact hρ) (by decide) gp_i0_2b_m (gi_le gq_0_1_e hS2) (fun a' ha' s3 ls3 st3 ρ3 G3 N3 hW3 hS3 hF3 hρ3 => ?_)
  rw [gp_i0_2b_n, List.mem_singleton] at ha'
  subst ha'
  refine ⟨3 * (k + 1 + 1), 18 * (k + 1 + 1), by show 0 + _ ≤ _; omega, by show 0 + _ ≤ _; omega, ?_⟩
  have V3 := State.WarmedH.trans V2 hW3
  have hR3 := hR2.keep hF3 hz2 (by decide)
  obtain ⟨lv3, c1, c2, c3, c4⟩ := id hS3
  have hz3 : ∀ q, s3.heap.size ≤ q → G3 q = 0 := fun q hq => c4.zero hq
  have rows3 : ∀ q, q < 128 → gk_at s3.heap (r (q / 32)) (q % 32) = gk_at s2.heap (r (q / 32)) (q % 32) := fun q hq => gr_at hF3 hz2 (hR2.2.2.2.2.2.1 (q / 32) (by omega)).1 (by decide) (by decide) (by omega)
  have mem3 : ∀ q, q < 128 → gk_at s3.heap a q = gk_at s2.heap a q := fun q hq => gr_at hF3 hz2 hR2.2.1 (by decide) (by decide) hq
  obtain ⟨w3', z1, z2, aM, rfl, hM, u3, u1, u2, -, -, c5⟩ := gh_stk (nm := 12) c3
  have v1 : z1.toInt = (k1 : Int) := by rw [u1, hρ3 144 (by omega) (by omega), hρ2 144 (by omega) (by omega), ← e1, f1]
  have v2 : z2.toInt = (k2 : Int) := by rw [u2, hρ3 145 (by omega) (by omega), hρ2 145 (by omega) (by omega), ← e2, f2]
  have ew : w3' = w3 := gi_ieq (by rw [u3, hρ3 146 (by omega) (by omega), hρ2 146 (by omega) (by omega), ← e3])
  subst ew
  obtain ⟨m0, ⟨xb', m4, m5⟩, w4', q4', q5'⟩ := gh_ls (S := S) hS3 rfl rfl rfl rfl (by rw [hρ3 149 (by omega) (by omega), hρ2 149 (by omega) (by omega), hρ1 149 (by omega) (by omega)]; exact hρ)
  have ew4 : w4' = w4 := gi_ieq (by rw [q4', hρ3 147 (by omega) (by omega), hρ2 147 (by omega) (by omega), ← q4])
  subst ew4
  refine gh_long (S := S) (pc := 207) (b := b) (gk_Bmv hB V3) (hKf.moved V3) ⟨c4.1.1, c4.1.2.1⟩ m0 m4 m5 hbn hn2 (gl_dec 207 rfl) (gl_dec 208 rfl) (gl_dec 210 rfl) (gl_dec 211 rfl) (gl_dec 212 rfl) (gl_dec 214 rfl) (gl_dec 215 rfl) (gl_dec 216 rfl) (gl_dec 217 rfl) (gl_dec 218 rfl) (gl_dec 221 rfl) (gl_dec 222 rfl) q5' ?_
  rw [hv]
  have hS3' : gk_S D AC (gl_S S b) gv_tab L 8 ρ3 G3 N3 gs_30 s3.heap ls3 (([.ref aM, .int z1, .int z2, .long v] : List Value).reverse ++ []) := gi_le gh_db ⟨lv3, c1, c2, ck_all.cons ⟨v, rfl, (ck_i64 v).1, (ck_i64 v).2⟩ c5, c4⟩
  obtain ⟨Ny, gm, hNy, hgm, hyH⟩ := gx_build (rt := gm0_rt) (τs := gm0_ts) (par := gm0_pr) (bl := gm0_bl) (T := gm0_T) (Tl := gs_30.2.2) c4 gm0_k hR3.row (gx_r4_ok gm0_4) hR3.2.2.2.2.2.2 (fun _ => v.toInt)
  have hmem := gi_mem hNy hgm hR3 (im := 1) ⟨rfl, rfl, rfl⟩
  have hM0 := gi_own hNy hgm (i := 0) (nm := 12) (by decide +kernel) rfl hM
  have hgq : ∀ q, q < 128 → gm 1 q = g (2 + q / 32) (q % 32) := fun q hq => by
    have h1 := hmem.2 q (by omega)
    have h2 := hE1 (q / 32) (q % 32) (by omega) (by omega)
    rw [show 32 * (q / 32) + q % 32 = q by omega, (hrw (q / 32) (by omega)).2 (q % 32) (by omega), ← mem2 q, ← mem3 q hq, h1] at h2
    exact (Option.some.inj h2).symm
  refine gl_both (S := gl_S S b) (Φ := Φ) (Xc := gt_785) (mi0 := 174) (M0 := cm_174) (K := gq_0_2_K) (Kx := ke_mp (4 * k1 + k2)) (B := gs_30) (y := gq_0_2_y) (va := [.ref aM, .int z1, .int z2, .long v]) (rest := []) (ρ := ρ3) (G := G3) (N := N3) (Nx := Ny) (θ := xg_θ gm) (ρ0 := xg_ρ gm0_bl gm (fun _ => v.toInt)) (c2 := 3 * (k + 1 + 1)) (s2 := 18 * (k + 1 + 1)) (gk_Bmv hB V3) htr ⟨by show 2 ≤ R.frames; omega, by show 31 ≤ R.locals; omega, Nat.zero_le _, Nat.zero_le _⟩ hn1 hn2 (hKf.moved V3) (gl_St (hSt.moved V3.alike)) cm_g174 rfl (gt_785_ok.wid (Nat.zero_le _) (by decide)) (ke_mp_ok HE (by omega)).1 ⟨Nat.le_of_ble_eq_true rfl, Nat.le_of_ble_eq_true rfl⟩ rfl rfl gq_0_2_m rfl (Nat.zero_le _) (Nat.zero_le _) (by show 0 + _ ≤ _; omega) (by show 0 + _ ≤ _; omega) hS3' ?_ hyH (fun s4 w' ρ4 G4 N4 hW4 hS4 hF4 hρ4 hrs' hyH2 hyF => ?_)
  · exact ck_all.cons (gi_a1 hM0) (ck_all.cons (gi_ac (by rw [v1, X1])) (ck_all.cons (gi_ac (by rw [v2, X2])) (ck_all.cons ⟨v, rfl, rfl⟩ ck_all.nil)))
  have V4 := State.WarmedH.trans V3 hW4
  have hR4 := hR3.keep hF4 hz3 (by decide)
  have hz4 : ∀ q, s4.heap.size ≤ q → G4 q = 0 := by
    obtain ⟨lv, -, -, -, i4⟩ := hS4
    exact fun q hq => i4.zero hq
  have mem4 : ∀ q, q < 128 → ∃ x : Int32, gk_at s4.heap a q = some (.int x) ∧ x.toInt = if 8 * (4 * k1 + k2) ≤ q ∧ q < 8 * (4 * k1 + k2) + 8 then Φ 1010 (2 + 3 * (q - 8 * (4 * k1 + k2))) [v.toInt] else xg_I (g (2 + q / 32) (q % 32)) := by
    intro q hq
    have hl : (xi 3 (8 * (4 * k1 + k2)) ++ (List.range 8).map (fun i => ((0, (357 + 3 * i, 0)) : xk_V)) ++ xi (11 + 8 * (4 * k1 + k2)) (344 - 8 * (4 * k1 + k2)))[q]? = some (0, (if 8 * (4 * k1 + k2) ≤ q ∧ q < 8 * (4 * k1 + k2) + 8 then 357 + 3 * (q - 8 * (4 * k1 + k2)) else 3 + q), 0) := by
      have := gi_seg (s0 := 3) (p := 8 * (4 * k1 + k2)) (mm := 8) (r := 344 - 8 * (4 * k1 + k2)) (s2 := 11 + 8 * (4 * k1 + k2)) (q := q) (M := (List.range 8).map (fun i => ((0, (357 + 3 * i, 0)) : xk_V))) (tl := []) (f := fun i => 357 + 3 * i) (by omega) (by simp) gi_m8 (by omega)
      rwa [List.append_nil] at this
    obtain ⟨x, y1, y2⟩ := gx_post hyH2 (show (ke_mp (4 * k1 + k2)).2.2.2.1[1]? = some ((6000, 0), xi 3 (8 * (4 * k1 + k2)) ++ (List.range 8).map (fun i => ((0, (357 + 3 * i, 0)) : xk_V)) ++ xi (11 + 8 * (4 * k1 + k2)) (344 - 8 * (4 * k1 + k2))) from rfl) hmem.1 (by show (6000 : Nat) ≠ 0; omega) hl (by split <;> omega)
    refine ⟨x, y1, ?_⟩
    rw [y2]
    show xk_rho Φ (1031, 354, [1]) (xg_ρ gm0_bl gm (fun _ => v.toInt)) _ = _
    by_cases h : 8 * (4 * k1 + k2) ≤ q ∧ q < 8 * (4 * k1 + k2) + 8
    · rw [if_pos h, if_pos h, gi_rn (k := 2 + 3 * (q - 8 * (4 * k1 + k2))) (by omega)]
      exact (gf_put HE v (by omega)).symm
    · rw [if_neg h, if_neg h, gi_rz (by omega), gm0_nd q (by omega), hgq q hq]
  have rows4 : ∀ q, q < 128 → gk_at s4.heap (r (q / 32)) (q % 32) = gk_at s3.heap (r (q / 32)) (q % 32) := fun q hq => gi_keep hNy hgm hyF (hR3.2.2.2.2.2.1 (q / 32) (by omega)).1 (by decide) (by decide) gm0_l
  refine gk_piece (M := glw_M) (S := gl_S S b) (n := n) (al := []) (gk_Bmv hB V4) htr ⟨Nat.zero_le _, Nat.zero_le _, Nat.zero_le _, Nat.zero_le _⟩ hn1 hn2 (hKf.moved V4) ce_ok11 rfl cm_ok gp_i0_3_h ce_glob kco_law_ok (fun a ha => by cases ha) rfl (fun _ => by rw [hρ4 149 (by omega) (by omega), hρ3 149 (by omega) (by omega), hρ2 149 (by omega) (by omega), hρ1 149 (by omega) (by omega)]; exact hρ) (by decide) gp_i0_3_m (gi_le gq_0_2_e hS4) (fun a' ha' s5 ls5 st5 ρ5 G5 N5 hW5 hS5 hF5 hρ5 => ?_)
  rw [gp_i0_3_n, List.mem_singleton] at ha'
  subst ha'
  obtain ⟨rfl, hS6⟩ := gl_back (b := b) (ρ := ρ5) (by rw [hρ5 149 (by omega) (by omega), hρ4 149 (by omega) (by omega), hρ3 149 (by omega) (by omega), hρ2 149 (by omega) (by omega), hρ1 149 (by omega) (by omega)]; exact hρ) (by rw [gl_eE]; exact hS5)
  have V5 := State.WarmedH.trans V4 hW5
  refine ⟨3 * (k + 1), 18 * (k + 1), by show 0 + _ ≤ _; omega, by show 0 + _ ≤ _; omega, ?_⟩
  refine ih s5 _ ls5 ρ5 G5 N5 d a r (by show _ ≤ R.cells - 0 - 0 - 0 - 0 - 0; omega) (by show _ ≤ R.slots - 0 - 0 - 0 - 0 - 0; omega) hf hlo (gk_Bmv hB V5) (hKf.moved V5) (hSt.moved V5.alike) hS6 (hR4.keep hF5 hz4 (by decide)) (gi_E (nw := fun q => if 8 * (4 * k1 + k2) ≤ q ∧ q < 8 * (4 * k1 + k2) + 8 then Φ 1010 (2 + 3 * (q - 8 * (4 * k1 + k2))) [v.toInt] else xg_I (g (2 + q / 32) (q % 32))) (fun q hq => ?_) (fun q hq => ?_))
  · obtain ⟨x, x1, x2⟩ := rows2 q hq
    refine ⟨x, ?_, x2⟩
    rw [gr_at hF5 hz4 (hR4.2.2.2.2.2.1 (q / 32) (by omega)).1 (by decide) (by decide) (by omega), rows4 q hq, rows3 q hq]
    exact x1
  · obtain ⟨x, x1, x2⟩ := mem4 q hq
    refine ⟨x, ?_, x2⟩
    rw [gr_at hF5 hz4 hR4.2.1 (by decide) (by decide) hq]
    exact x1
end GN
