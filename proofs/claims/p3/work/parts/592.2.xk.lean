/-! ===== the class: reckon, way 2 of its arrays ===== -/
def kx2_T : List xk_C := [((0, 4), [(5, 0, 0), (2, 5, 0), (2, 1, 0), (2, 2, 0), (2, 3, 0), (2, 4, 0), (2, 6, 0), (2, 7, 0), (2, 8, 0), (2, 9, 0), (2, 10, 0), (2, 11, 0), (2, 12, 0)])] ++ (List.range 12).map (fun i => ((1, 1), xl (10 * i + 1) 10)) ++ [((1, 0), xi 121 32), ((1, 0), xi 153 32)]
def kx2_F : List xk_C := [((0, 4), [(5, 0, 0), (2, 5, 0), (2, 1, 0), (2, 2, 0), (2, 3, 0), (2, 4, 0), (2, 6, 0), (2, 7, 0), (2, 8, 0), (2, 9, 0), (2, 10, 0), (2, 11, 0), (2, 12, 0)])] ++ List.replicate 12 ((1, 1), List.replicate 10 (4, 0, 0)) ++ [((1, 0), xi 185 32), ((1, 0), xi 153 32)]
def kx2_rf : List (Nat × xk_V) := [(0, (2, 0, 0)), (1, (2, 13, 0)), (2, (2, 14, 0)), (3, (2, 13, 0))]
def kx2_ls (o : xk_O) : List (Nat × xk_V) := (4, (0, o)) :: kx2_rf
def kx2_b (t : Nat) : Bool := xk_sg ce_2 cm_ms [(43, (99, 0), ki t)] kco_46 cm_46.1 2 110 kwf [63] 20 184 (52, kx2_ls (0, (t : Int)), [], kx2_T, [], 185) (if 3 ≤ t ∧ t < 254 then [(185, 1100 + t, [(121 + t / 8, 0)])] else []) (fun g => if g ≤ 184 then (g, 0) else if g = 185 then (0, (t : Int)) else if 3 ≤ t ∧ t < 254 then (187, 0) else (0, if t = 254 then 1 else 0)) 63 (kx2_ls (185, 0), [(0, (186, 0))], kx2_T)
theorem kx2_a0 : (List.range 16).all (fun c => kx2_b (0 + c)) = true := by decide +kernel
theorem kx2_a1 : (List.range 16).all (fun c => kx2_b (16 + c)) = true := by decide +kernel
theorem kx2_a2 : (List.range 16).all (fun c => kx2_b (32 + c)) = true := by decide +kernel
theorem kx2_a3 : (List.range 16).all (fun c => kx2_b (48 + c)) = true := by decide +kernel
theorem kx2_a4 : (List.range 16).all (fun c => kx2_b (64 + c)) = true := by decide +kernel
theorem kx2_a5 : (List.range 16).all (fun c => kx2_b (80 + c)) = true := by decide +kernel
theorem kx2_a6 : (List.range 16).all (fun c => kx2_b (96 + c)) = true := by decide +kernel
theorem kx2_a7 : (List.range 16).all (fun c => kx2_b (112 + c)) = true := by decide +kernel
theorem kx2_a8 : (List.range 16).all (fun c => kx2_b (128 + c)) = true := by decide +kernel
theorem kx2_a9 : (List.range 16).all (fun c => kx2_b (144 + c)) = true := by decide +kernel
theorem kx2_a10 : (List.range 16).all (fun c => kx2_b (160 + c)) = true := by decide +kernel
theorem kx2_a11 : (List.range 16).all (fun c => kx2_b (176 + c)) = true := by decide +kernel
theorem kx2_a12 : (List.range 16).all (fun c => kx2_b (192 + c)) = true := by decide +kernel
theorem kx2_a13 : (List.range 16).all (fun c => kx2_b (208 + c)) = true := by decide +kernel
theorem kx2_a14 : (List.range 16).all (fun c => kx2_b (224 + c)) = true := by decide +kernel
theorem kx2_a15 : (List.range 15).all (fun c => kx2_b (240 + c)) = true := by decide +kernel
theorem kx2_all (c : Nat) (h0 : 0 ≤ c) (hc : c < 255) : kx2_b c = true := by
  by_cases h0 : c < 16
  · exact xk_ran kx2_a0 (by omega) (by omega)
  by_cases h1 : c < 32
  · exact xk_ran kx2_a1 (by omega) (by omega)
  by_cases h2 : c < 48
  · exact xk_ran kx2_a2 (by omega) (by omega)
  by_cases h3 : c < 64
  · exact xk_ran kx2_a3 (by omega) (by omega)
  by_cases h4 : c < 80
  · exact xk_ran kx2_a4 (by omega) (by omega)
  by_cases h5 : c < 96
  · exact xk_ran kx2_a5 (by omega) (by omega)
  by_cases h6 : c < 112
  · exact xk_ran kx2_a6 (by omega) (by omega)
  by_cases h7 : c < 128
  · exact xk_ran kx2_a7 (by omega) (by omega)
  by_cases h8 : c < 144
  · exact xk_ran kx2_a8 (by omega) (by omega)
  by_cases h9 : c < 160
  · exact xk_ran kx2_a9 (by omega) (by omega)
  by_cases h10 : c < 176
  · exact xk_ran kx2_a10 (by omega) (by omega)
  by_cases h11 : c < 192
  · exact xk_ran kx2_a11 (by omega) (by omega)
  by_cases h12 : c < 208
  · exact xk_ran kx2_a12 (by omega) (by omega)
  by_cases h13 : c < 224
  · exact xk_ran kx2_a13 (by omega) (by omega)
  by_cases h14 : c < 240
  · exact xk_ran kx2_a14 (by omega) (by omega)
  exact xk_ran kx2_a15 (by omega) (by omega)
def kx2_r0 : Nat → xk_O := fun g => if g ≤ 40 then (186 + kx_l0.getD (g - 1) 0, 0) else if g ≤ 50 then (g, 0) else if g ≤ 120 then (186 + kx_sc.getD (g - 51) 0, 0) else if g ≤ 184 then (g, 0) else (2668, 0)
def kx2_r1 : Nat → xk_O := fun g => if g ≤ 40 then (186 + kx_l1.getD (g - 1) 0, 0) else if g ≤ 50 then (g, 0) else if g ≤ 120 then (186 + kx_sc.getD (g - 51) 0, 0) else if g ≤ 184 then (g, 0) else (2668, 0)
def kx2_t0 : List xk_E := [(186, 1011, (xn 1 50).map (fun g => (g, 0))), (2668, 0, [(185, 0), (0, -1)])]
def kx2_t1 : List xk_E := [(186, 1011, (xn 21 20 ++ xn 1 20 ++ xn 41 10).map (fun g => (g, 0))), (2668, 0, [(185, 0), (0, -1)])]
theorem kx2_body0 : xk_sg ce_2 cm_ms [(50, (99, 0), kc_step)] kco_46 cm_46.1 2 110 kwf [52] 40 185 (63, kx2_ls (185, 0), [(0, (0, 0))], kx2_T, [], 186) kx2_t0 kx2_r0 52 (kx2_ls (185, 0), [], kx2_T) = true := by decide +kernel
theorem kx2_body1 : xk_sg ce_2 cm_ms [(50, (99, 0), kc_step)] kco_46 cm_46.1 2 110 kwf [52] 40 185 (63, kx2_ls (185, 0), [(0, (0, 1))], kx2_T, [], 186) kx2_t1 kx2_r1 52 (kx2_ls (185, 0), [], kx2_T) = true := by decide +kernel
def kx2_re : Nat → xk_O := fun g => if g = 1 then (0, 1) else if g ≤ 20 then (0, 0) else if g ≤ 30 then (185 + kx_oR.getD (g - 21) 0, 0) else if g = 31 then (0, 1) else if g ≤ 40 then (0, 0) else if g ≤ 50 then (185 + kx_oR.getD (g - 41) 0, 0) else (g, 0)
theorem kx2_ent : xk_sg ce_2 cm_ms [(45, (99, 0), kc_read), (49, (99, 0), kc_set0), (49, (99, 0), kc_set1)] kco_46 cm_46.1 2 110 kwf [52] 60 184 (0, kx2_rf, [], kx2_T, [], 185) [(185, 1012, (xn 153 32).map (fun g => (g, 0)))] kx2_re 52 (kx2_ls (0, 254), [], kx2_T) = true := by decide +kernel
def kx2_rx : Nat → xk_O := fun g => if g ≤ 184 then (g, 0) else (516 + kx_oW.getD (g - 185) 0, 0)
def kx2_tx : List xk_E := [(185, 1040, (xn 11 10).map (fun g => (g, 0))), (195, 1003, (xn 1 10 ++ xn 185 10).map (fun g => (g, 0))), (455, 1010, kv_oX.map (fun r => (195 + r, 0))), (516, 1013, kx_oD.map (fun r => (455 + r, 0)))]
theorem kx2_ext : xk_sg ce_2 cm_ms [(42, (99, 0), kc_inv), (44, (99, 0), kc_mulIX), (47, (99, 0), kc_reduce), (52, (99, 0), kc_write)] kco_46 cm_46.1 2 110 kwf [156] 60 184 (52, kx2_ls (0, -1), [], kx2_T, [], 185) kx2_tx kx2_rx 156 ([], [], kx2_F) = true := by decide +kernel
section KX
variable {p : Program} {l : Launch} {e : Env} {R : Room} {s : State} {m : MethodId} {args : Array Value} {below : List Frame} {meth : Method} {c : Code} {Q : State → Prop}
variable {D : va_G} {AC : Nat → ClassId} {S : Nat → Nat} {θ : Nat → Value} {L : Heap} {ρ : Nat → Int} {N : List Nat} {H0 : Heap} {Φ : Nat → Nat → List Int → Int}
theorem kx2_loop (H : kV Φ) (hy : xk_Hy p l e R s m meth c cm_46.1 2 110 ce_2 cm_ms [] Φ kwf (0, 2147483647) D AC S L H0 kco_46) : ∀ (t : Nat), t ≤ 255 → ∀ ρ : Nat → Int, (∀ ρ' : Nat → Int, (∀ g, 121 ≤ g → g ≤ 184 → ρ' g = ρ g) → (xn 1 50).map ρ' = kx_it Φ (fun j => ρ (121 + j)) t ((xn 1 50).map ρ) → xk_W p l e R s m args below meth c Q D AC S θ L cm_46.1.2.2.1 ρ' N H0 52 (kx2_ls (0, -1), [], kx2_T)) → xk_W p l e R s m args below meth c Q D AC S θ L cm_46.1.2.2.1 ρ N H0 52 (kx2_ls (0, (t : Int) - 1), [], kx2_T)
  | 0, _, ρ, k => k ρ (fun g _ _ => rfl) rfl
  | t + 1, ht, ρ, k => by
    have e0 : (((t + 1 : Nat) : Int) - 1) = (t : Int) := by omega
    rw [e0]
    have hb := kx2_all t (Nat.zero_le _) (by omega)
    unfold kx2_b at hb
    refine xw_sg (hy.ct (xk_Cts.one cm_g43 (ki_ok H.1 t (by omega)) xk_Cts.nil)) hb fun ρ1 h1 ht1 => ?_
    generalize hrn : (fun g => if g ≤ 184 then ((g, 0) : xk_O) else if g = 185 then (0, (t : Int)) else if 3 ≤ t ∧ t < 254 then (187, 0) else (0, if t = 254 then 1 else 0)) = rn
    have b1 : xk_rno rn ρ1 185 = (t : Int) := by rw [← hrn]; rfl
    have b2 : xk_rno rn ρ1 186 = kb_bit t (ρ (121 + t / 8)) := by
      rw [← hrn]
      show xk_ov ρ1 (if 3 ≤ t ∧ t < 254 then (187, 0) else (0, if t = 254 then 1 else 0)) = _
      by_cases h3 : 3 ≤ t ∧ t < 254
      · rw [if_pos h3] at ht1
        rw [if_pos h3]
        have he := ht1 _ List.mem_cons_self
        have he : xk_eok Φ kwf ρ1 (185, 1000 + (100 + t), [(121 + t / 8, 0)]) := by
          have e : 1000 + (100 + t) = 1100 + t := by omega
          rw [e]
          exact he
        unfold xk_eok at he
        dsimp only at he
        rw [if_neg (by omega), Nat.add_sub_cancel_left] at he
        have hw : 2 < kwf (100 + t) := by
          unfold kwf
          rw [if_neg (by omega), if_neg (by omega), if_neg (by omega), if_pos (by omega)]
          decide
        have h2 := he 2 hw
        have ea : ([(121 + t / 8, 0)] : List xk_O).map (xk_ov ρ1) = [ρ (121 + t / 8)] := by
          show [xk_ov ρ1 (121 + t / 8, 0)] = _
          unfold xk_ov
          rw [if_neg (by show ¬ 121 + t / 8 = 0; omega), h1 _ (by omega)]
        rw [ea, ki_val H.1 h3.1 h3.2] at h2
        exact h2
      · rw [if_neg h3]
        unfold kb_bit
        rw [if_neg h3]
        rfl
    have b3 : ∀ g, 0 < g → g ≤ 184 → xk_rno rn ρ1 g = ρ g := fun g g0 hg => by
      rw [← hrn]
      show xk_ov ρ1 (if g ≤ 184 then ((g, 0) : xk_O) else _) = _
      rw [if_pos hg]
      unfold xk_ov
      rw [if_neg (by show ¬ g = 0; omega), h1 g hg]
    generalize xk_rno rn ρ1 = ρ2 at b1 b2 b3
    have m50 : (xn 1 50).map ρ2 = (xn 1 50).map ρ := List.map_congr_left fun g hg => by
      unfold xn at hg
      obtain ⟨i, hi, rfl⟩ := List.mem_map.mp hg
      have := List.mem_range.mp hi
      exact b3 _ (by omega) (by omega)
    have fin : ∀ (ρ3 : Nat → Int) (b : Int), kb_bit t (ρ (121 + t / 8)) = b → (∀ g, 121 ≤ g → g ≤ 184 → ρ3 g = ρ g) → ρ3 185 = (t : Int) - 1 → (xn 1 50).map ρ3 = kx_st Φ b ((xn 1 50).map ρ) → xk_W p l e R s m args below meth c Q D AC S θ L cm_46.1.2.2.1 ρ3 N H0 52 (kx2_ls (185, 0), [], kx2_T) := by
      intro ρ3 b hbit g1 g2 g3
      refine xk_W.loc (by decide) (b := (t : Int) - 1) (by rw [← g2]; rfl) ?_
      refine kx2_loop H hy t (by omega) ρ3 fun ρ4 a1 a2 => k ρ4 (fun g z1 z2 => (a1 g z1 z2).trans (g1 g z1 z2)) ?_
      rw [a2, g3]
      show _ = kx_it Φ _ t (kx_st Φ (kb_bit t (ρ (121 + t / 8))) _)
      rw [hbit]
      exact kx_it_congr (fun j hj => g1 _ (by omega) (by omega)) t (by omega) _
    have hst : xk_Cts l Φ kwf (0, 2147483647) cm_ms [(50, (99, 0), kc_step)] := xk_Cts.one cm_g50 ((kc_step_ok H.1.1.1.1).wd rfl) xk_Cts.nil
    rcases kb_01 t (ρ (121 + t / 8)) with z | z
    · refine xk_W.top (b := 0) (by rw [← z, ← b2]; rfl) ?_
      refine xw_sg (hy.ct hst) kx2_body0 fun ρ3 h3 ht3 => ?_
      have he := xk_cv (b := 186) (t := 11) (ht3 _ List.mem_cons_self) kx_l0 (by decide +kernel)
      have ea : ((xn 1 50).map (fun g => ((g, 0) : xk_O))).map (xk_ov ρ3) = (xn 1 50).map ρ := by
        rw [← m50, ← xk_lowm (n := 185) h3 (by decide)]
        rfl
      rw [ea] at he
      refine fin _ 0 z (fun g z1 z2 => ?_) ?_ ?_
      · show xk_ov ρ3 (if g ≤ 40 then _ else if g ≤ 50 then _ else if g ≤ 120 then _ else if g ≤ 184 then ((g, 0) : xk_O) else _) = _
        rw [if_neg (by omega), if_neg (by omega), if_neg (by omega), if_pos z2]
        unfold xk_ov
        rw [if_neg (by show ¬ g = 0; omega), h3 g (by omega), b3 g (by omega) z2]
      · have e1 := ht3 (2668, 0, [(185, 0), (0, -1)]) (List.mem_cons_of_mem _ List.mem_cons_self)
        have e1 : ρ3 2668 = xk_sem 0 [ρ3 185, -1] := e1
        show ρ3 2668 = _
        rw [e1, h3 _ (by decide), b1]
        exact kx_m1 t (by omega)
      · have d4 : ((xn 1 50).map ρ).drop 40 = (xn 41 10).map ρ3 := by
          rw [← m50, ← xk_lowm (n := 185) h3 (by decide)]
          rfl
        unfold kx_st
        rw [if_pos rfl, ← he, d4]
        rfl
    · refine xk_W.top (b := 1) (by rw [← z, ← b2]; rfl) ?_
      refine xw_sg (hy.ct hst) kx2_body1 fun ρ3 h3 ht3 => ?_
      have he := xk_cv (b := 186) (t := 11) (ht3 _ List.mem_cons_self) kx_l1 (by decide +kernel)
      have ea : ((xn 21 20 ++ xn 1 20 ++ xn 41 10).map (fun g => ((g, 0) : xk_O))).map (xk_ov ρ3) = (((xn 1 50).map ρ).drop 20).take 20 ++ ((xn 1 50).map ρ).take 20 ++ ((xn 1 50).map ρ).drop 40 := by
        rw [← m50, ← xk_lowm (n := 185) h3 (by decide)]
        rfl
      rw [ea] at he
      refine fin _ 1 z (fun g z1 z2 => ?_) ?_ ?_
      · show xk_ov ρ3 (if g ≤ 40 then _ else if g ≤ 50 then _ else if g ≤ 120 then _ else if g ≤ 184 then ((g, 0) : xk_O) else _) = _
        rw [if_neg (by omega), if_neg (by omega), if_neg (by omega), if_pos z2]
        unfold xk_ov
        rw [if_neg (by show ¬ g = 0; omega), h3 g (by omega), b3 g (by omega) z2]
      · have e1 := ht3 (2668, 0, [(185, 0), (0, -1)]) (List.mem_cons_of_mem _ List.mem_cons_self)
        have e1 : ρ3 2668 = xk_sem 0 [ρ3 185, -1] := e1
        show ρ3 2668 = _
        rw [e1, h3 _ (by decide), b1]
        exact kx_m1 t (by omega)
      · have d4 : ((xn 1 50).map ρ).drop 40 = (xn 41 10).map ρ3 := by
          rw [← m50, ← xk_lowm (n := 185) h3 (by decide)]
          rfl
        unfold kx_st
        rw [if_neg (by decide), ← he, d4]
        rfl
end KX
def kx2 : xk_K := ([(2, 0, 0), (2, 13, 0), (2, 14, 0), (2, 13, 0)], kx2_T, none, kx2_F, (50, 184, xn 121 32 ++ xn 153 32), (2, 110))
theorem kx2_ok {l : Launch} {Φ : Nat → Nat → List Int → Int} (H : kX Φ) : xk_Cd l Φ kwf (0, 2147483647) cm_46.1 kx2 := by
  refine xk_okw (E := ce_2) (ms := cm_ms) (cod := kco_46) (by decide) (by decide) (by decide +kernel) (by decide) (by decide +kernel) ce_ok2 rfl cm_ok ce_glob kco_46_ok ?_
  intro p e R s m args below meth c D AC S θ L ρ0 N hy
  have H1 := H.1.1.1
  have c1 : xk_Cts l Φ kwf (0, 2147483647) cm_ms [(45, (99, 0), kc_read), (49, (99, 0), kc_set0), (49, (99, 0), kc_set1)] := xk_Cts.one cm_g45 ((kc_read_ok H1.1).wd rfl) (xk_Cts.one cm_g49 ((kc_set0_ok H1.1.1.1.1).wd rfl) (xk_Cts.one cm_g49 ((kc_set1_ok H1.1.1.1.1).wd rfl) xk_Cts.nil))
  have c2 : xk_Cts l Φ kwf (0, 2147483647) cm_ms [(42, (99, 0), kc_inv), (44, (99, 0), kc_mulIX), (47, (99, 0), kc_reduce), (52, (99, 0), kc_write)] := xk_Cts.one cm_g42 (kc_inv_ok H.1) (xk_Cts.one cm_g44 ((kc_mulIX_ok H1.1.1.1.1.1.1.1.1.1.1).wd rfl) (xk_Cts.one cm_g47 ((kc_reduce_ok H1.1.1.1).wd rfl) (xk_Cts.one cm_g52 ((kc_write_ok H1).wd rfl) xk_Cts.nil)))
  refine xw_sg (ρ := ρ0) (hy.ct c1) kx2_ent fun ρ1 h1 t1 => ?_
  have he := xk_cv (b := 185) (t := 12) (t1 _ List.mem_cons_self) kx_oR (by decide +kernel)
  have ea : ((xn 153 32).map (fun g => ((g, 0) : xk_O))).map (xk_ov ρ1) = (xn 153 32).map ρ0 := by
    rw [← xk_lowm (n := 184) h1 (by decide)]
    rfl
  rw [ea] at he
  have v0 : (xn 1 50).map (xk_rno kx2_re ρ1) = kx_v0 Φ ((xn 153 32).map ρ0) := by
    unfold kx_v0
    rw [← he]
    rfl
  have b0 : ∀ g, 121 ≤ g → g ≤ 184 → xk_rno kx2_re ρ1 g = ρ0 g := fun g z1 z2 => by
    show xk_ov ρ1 (if g = 1 then _ else if g ≤ 20 then _ else if g ≤ 30 then _ else if g = 31 then _ else if g ≤ 40 then _ else if g ≤ 50 then _ else ((g, 0) : xk_O)) = _
    rw [if_neg (by omega), if_neg (by omega), if_neg (by omega), if_neg (by omega), if_neg (by omega), if_neg (by omega)]
    unfold xk_ov
    rw [if_neg (by show ¬ g = 0; omega), h1 g z2]
  generalize xk_rno kx2_re ρ1 = ρ2 at v0 b0
  have e254 : (254 : Int) = ((255 : Nat) : Int) - 1 := rfl
  rw [e254]
  refine kx2_loop H.1 hy 255 (by omega) ρ2 fun ρ3 h3 h4 => ?_
  refine xw_sg (hy.ct c2) kx2_ext fun ρ4 h5 t5 => ?_
  have bb : (fun j => ρ2 (121 + j)) = fun j => ρ2 (121 + j) := rfl
  rw [v0] at h4
  have hit : kx_it Φ (fun j => ρ2 (121 + j)) 255 (kx_v0 Φ ((xn 153 32).map ρ0)) = kx_it Φ (fun j => ((xn 121 32).map ρ0).getD j 0) 255 (kx_v0 Φ ((xn 153 32).map ρ0)) := kx_it_congr (fun j hj => by
    rw [b0 _ (by omega) (by omega), List.getD_eq_getElem?_getD, List.getElem?_map]
    unfold xn
    rw [List.getElem?_map, List.getElem?_range hj]
    rfl) 255 (by omega) _
  rw [hit] at h4
  have m50 : (xn 1 50).map ρ4 = kx_it Φ (fun j => ((xn 121 32).map ρ0).getD j 0) 255 (kx_v0 Φ ((xn 153 32).map ρ0)) := by
    rw [← h4]
    exact xk_lowm (n := 184) h5 (by decide)
  have g1 := xk_cv (b := 185) (t := 40) (t5 _ List.mem_cons_self) (List.range 10) (by decide +kernel)
  have g2 := xk_cv (b := 195) (t := 3) (t5 _ (List.mem_cons_of_mem _ List.mem_cons_self)) kv_oX (by decide +kernel)
  have g3 := xk_cv (b := 455) (t := 10) (t5 _ (List.mem_cons_of_mem _ (List.mem_cons_of_mem _ List.mem_cons_self))) kx_oD (by decide +kernel)
  have g4 := xk_cv (b := 516) (t := 13) (t5 _ (List.mem_cons_of_mem _ (List.mem_cons_of_mem _ (List.mem_cons_of_mem _ List.mem_cons_self)))) kx_oW (by decide +kernel)
  have a1 : ((xn 11 10).map (fun g => ((g, 0) : xk_O))).map (xk_ov ρ4) = (((xn 1 50).map ρ4).drop 10).take 10 := rfl
  have a2 : ((xn 1 10 ++ xn 185 10).map (fun g => ((g, 0) : xk_O))).map (xk_ov ρ4) = ((xn 1 50).map ρ4).take 10 ++ (List.range 10).map (fun r => ρ4 (185 + r)) := rfl
  have a3 : (kv_oX.map (fun r => ((195 + r, 0) : xk_O))).map (xk_ov ρ4) = kv_oX.map (fun r => ρ4 (195 + r)) := rfl
  have a4 : (kx_oD.map (fun r => ((455 + r, 0) : xk_O))).map (xk_ov ρ4) = kx_oD.map (fun r => ρ4 (455 + r)) := rfl
  rw [a1] at g1
  rw [a2, g1] at g2
  rw [a3, g2] at g3
  rw [a4, g3] at g4
  have hend : kx_oW.map (fun r => ρ4 (516 + r)) = kx_rk Φ ((xn 121 32).map ρ0) ((xn 153 32).map ρ0) := by
    unfold kx_rk kx_end
    rw [← m50]
    exact g4
  refine xw_fin (ls := []) hy rfl rfl (xk_refl2 (lo := 121) (k := 184 + 32) (by decide +kernel) fun g z1 z2 => ?_)
  show _ = if g ≤ 184 then ρ0 g else Φ 50 (g - 184 - 1) ((xn 121 32 ++ xn 153 32).map ρ0)
  by_cases hg : g ≤ 184
  · rw [if_pos hg]
    show xk_ov ρ4 (if g ≤ 184 then ((g, 0) : xk_O) else _) = _
    rw [if_pos hg]
    unfold xk_ov
    rw [if_neg (by show ¬ g = 0; omega), h5 g hg, h3 g z1 hg, b0 g z1 hg]
  · rw [if_neg hg, H.2]
    have e1 : ((xn 121 32 ++ xn 153 32).map ρ0).take 32 = (xn 121 32).map ρ0 := rfl
    have e2 : ((xn 121 32 ++ xn 153 32).map ρ0).drop 32 = (xn 153 32).map ρ0 := rfl
    rw [e1, e2, ← hend]
    show xk_ov ρ4 (if g ≤ 184 then ((g, 0) : xk_O) else (516 + kx_oW.getD (g - 185) 0, 0)) = _
    rw [if_neg hg]
    have hlen : g - 184 - 1 < kx_oW.length := by
      show g - 184 - 1 < 32
      omega
    rw [show g - 185 = g - 184 - 1 by omega, List.getD_eq_getElem?_getD, List.getD_eq_getElem?_getD, List.getElem?_map, List.getElem?_eq_getElem hlen]
    unfold xk_ov
    rw [if_neg (by show ¬ 516 + _ = 0; omega)]
    rfl
