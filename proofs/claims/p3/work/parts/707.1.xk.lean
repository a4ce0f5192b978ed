/-! ===== the reference: reckon with the key at 32 ===== -/
def ky1_b (t : Nat) : Bool := xk_sg ce_12 cm_ms [(131, (99, 0), kj t)] kco_175 cm_175.1 3 47 kwg [60] 30 640 (36, ky_ls (0, (t : Int)) (0, 32), [], ky_T, [], 641) (if 3 ≤ t ∧ t < 254 then [(641, 1100 + t, [(320 + t / 8, 0)])] else []) (fun g => if g ≤ 640 then (g, 0) else if g = 641 then (if 3 ≤ t ∧ t < 254 then (642, 0) else (0, if t = 254 then 1 else 0)) else if g = 642 then (0, (t : Int)) else (0, 32)) 60 (ky_mid (641, 0), [], ky_T)
theorem ky1_a0 : (List.range 16).all (fun c => ky1_b (0 + c)) = true := by decide +kernel
theorem ky1_a1 : (List.range 16).all (fun c => ky1_b (16 + c)) = true := by decide +kernel
theorem ky1_a2 : (List.range 16).all (fun c => ky1_b (32 + c)) = true := by decide +kernel
theorem ky1_a3 : (List.range 16).all (fun c => ky1_b (48 + c)) = true := by decide +kernel
theorem ky1_a4 : (List.range 16).all (fun c => ky1_b (64 + c)) = true := by decide +kernel
theorem ky1_a5 : (List.range 16).all (fun c => ky1_b (80 + c)) = true := by decide +kernel
theorem ky1_a6 : (List.range 16).all (fun c => ky1_b (96 + c)) = true := by decide +kernel
theorem ky1_a7 : (List.range 16).all (fun c => ky1_b (112 + c)) = true := by decide +kernel
theorem ky1_a8 : (List.range 16).all (fun c => ky1_b (128 + c)) = true := by decide +kernel
theorem ky1_a9 : (List.range 16).all (fun c => ky1_b (144 + c)) = true := by decide +kernel
theorem ky1_a10 : (List.range 16).all (fun c => ky1_b (160 + c)) = true := by decide +kernel
theorem ky1_a11 : (List.range 16).all (fun c => ky1_b (176 + c)) = true := by decide +kernel
theorem ky1_a12 : (List.range 16).all (fun c => ky1_b (192 + c)) = true := by decide +kernel
theorem ky1_a13 : (List.range 16).all (fun c => ky1_b (208 + c)) = true := by decide +kernel
theorem ky1_a14 : (List.range 16).all (fun c => ky1_b (224 + c)) = true := by decide +kernel
theorem ky1_a15 : (List.range 15).all (fun c => ky1_b (240 + c)) = true := by decide +kernel
theorem ky1_all (c : Nat) (h0 : 0 ≤ c) (hc : c < 255) : ky1_b c = true := by
  by_cases h0 : c < 16
  · exact xk_ran ky1_a0 (by omega) (by omega)
  by_cases h1 : c < 32
  · exact xk_ran ky1_a1 (by omega) (by omega)
  by_cases h2 : c < 48
  · exact xk_ran ky1_a2 (by omega) (by omega)
  by_cases h3 : c < 64
  · exact xk_ran ky1_a3 (by omega) (by omega)
  by_cases h4 : c < 80
  · exact xk_ran ky1_a4 (by omega) (by omega)
  by_cases h5 : c < 96
  · exact xk_ran ky1_a5 (by omega) (by omega)
  by_cases h6 : c < 112
  · exact xk_ran ky1_a6 (by omega) (by omega)
  by_cases h7 : c < 128
  · exact xk_ran ky1_a7 (by omega) (by omega)
  by_cases h8 : c < 144
  · exact xk_ran ky1_a8 (by omega) (by omega)
  by_cases h9 : c < 160
  · exact xk_ran ky1_a9 (by omega) (by omega)
  by_cases h10 : c < 176
  · exact xk_ran ky1_a10 (by omega) (by omega)
  by_cases h11 : c < 192
  · exact xk_ran ky1_a11 (by omega) (by omega)
  by_cases h12 : c < 208
  · exact xk_ran ky1_a12 (by omega) (by omega)
  by_cases h13 : c < 224
  · exact xk_ran ky1_a13 (by omega) (by omega)
  by_cases h14 : c < 240
  · exact xk_ran ky1_a14 (by omega) (by omega)
  exact xk_ran ky1_a15 (by omega) (by omega)
theorem ky1_ext : xk_sg ce_12 cm_ms ky_ctx kco_175 cm_175.1 3 47 kwg [290] 30 640 (36, ky_ls (0, -1) (0, 32), [], ky_T, [], 641) ky_tx ky_rx 290 ([], [], ky_F) = true := by decide +kernel
section KY
variable {p : Program} {l : Launch} {e : Env} {R : Room} {s : State} {m : MethodId} {args : Array Value} {below : List Frame} {meth : Method} {c : Code} {Q : State → Prop}
variable {D : va_G} {AC : Nat → ClassId} {S : Nat → Nat} {θ : Nat → Value} {L : Heap} {ρ : Nat → Int} {N : List Nat} {H0 : Heap} {Φ : Nat → Nat → List Int → Int}
theorem ky1_loop (H : kJ Φ) (hy : xk_Hy p l e R s m meth c cm_175.1 3 47 ce_12 cm_ms [] Φ kwg (0, 2147483647) D AC S L H0 kco_175) : ∀ (t : Nat), t ≤ 255 → ∀ ρ : Nat → Int, (∀ ρ' : Nat → Int, (∀ g, 288 ≤ g → g < 640 → ρ' g = ρ g) → ky_ag.map ρ' = ky_it Φ (fun j => ρ (320 + j)) t (ky_ag.map ρ) → xk_W p l e R s m args below meth c Q D AC S θ L cm_175.1.2.2.1 ρ' N H0 36 (ky_ls (0, -1) (0, 32), [], ky_T)) → xk_W p l e R s m args below meth c Q D AC S θ L cm_175.1.2.2.1 ρ N H0 36 (ky_ls (0, (t : Int) - 1) (0, 32), [], ky_T)
  | 0, _, ρ, k => k ρ (fun g _ _ => rfl) rfl
  | t + 1, ht, ρ, k => by
    have e0 : (((t + 1 : Nat) : Int) - 1) = (t : Int) := by omega
    rw [e0]
    have hb := ky1_all t (Nat.zero_le _) (by omega)
    unfold ky1_b at hb
    refine xw_sg (hy.ct (xk_Cts.one cm_g131 (kj_ok H t (by omega)) xk_Cts.nil)) hb fun ρ1 h1 ht1 => ?_
    generalize hrn : (fun g => if g ≤ 640 then ((g, 0) : xk_O) else if g = 641 then (if 3 ≤ t ∧ t < 254 then (642, 0) else (0, if t = 254 then 1 else 0)) else if g = 642 then (0, (t : Int)) else (0, 32)) = rn
    have b1 : xk_rno rn ρ1 642 = (t : Int) := by rw [← hrn]; rfl
    have b4 : xk_rno rn ρ1 643 = ((32 : Nat) : Int) := by rw [← hrn]; rfl
    have b2 : xk_rno rn ρ1 641 = kb_bit t (ρ (320 + t / 8)) := by
      rw [← hrn]
      show xk_ov ρ1 (if 3 ≤ t ∧ t < 254 then (642, 0) else (0, if t = 254 then 1 else 0)) = _
      by_cases h3 : 3 ≤ t ∧ t < 254
      · rw [if_pos h3] at ht1
        rw [if_pos h3]
        have he : xk_eok Φ kwg ρ1 (641, 1000 + (100 + t), [(320 + t / 8, 0)]) := by
          have e : 1000 + (100 + t) = 1100 + t := by omega
          rw [e]
          exact ht1 _ List.mem_cons_self
        unfold xk_eok at he
        dsimp only at he
        rw [if_neg (by omega), Nat.add_sub_cancel_left] at he
        have hw : 1 < kwg (100 + t) := by
          unfold kwg
          rw [if_neg (by omega), if_neg (by omega), if_neg (by omega), if_neg (by omega), if_pos (by omega)]
          decide
        have h2 := he 1 hw
        have ea : ([(320 + t / 8, 0)] : List xk_O).map (xk_ov ρ1) = [ρ (320 + t / 8)] := by
          show [xk_ov ρ1 (320 + t / 8, 0)] = _
          unfold xk_ov
          rw [if_neg (by show ¬ 320 + t / 8 = 0; omega), h1 _ (by omega)]
        rw [ea, kj_val H h3.1 h3.2] at h2
        exact h2
      · rw [if_neg h3]
        unfold kb_bit
        rw [if_neg h3]
        rfl
    have b3 : ∀ g, 0 < g → g ≤ 640 → xk_rno rn ρ1 g = ρ g := fun g g0 hg => by
      rw [← hrn]
      show xk_ov ρ1 (if g ≤ 640 then ((g, 0) : xk_O) else _) = _
      rw [if_pos hg]
      show (if g = 0 then (0 : Int) else ρ1 g) = _
      rw [if_neg (by omega), h1 g hg]
    generalize xk_rno rn ρ1 = ρ2 at b1 b2 b3 b4
    have m80 : ky_ag.map ρ2 = ky_ag.map ρ := List.map_congr_left fun g hg => by
      have hall : ky_ag.all (fun g => decide (0 < g ∧ g ≤ 640)) = true := by decide
      have := of_decide_eq_true (List.all_eq_true.mp hall g hg)
      exact b3 g this.1 this.2
    refine ky_body H.1 hy (kb_01 t (ρ (320 + t / 8))) (by omega) b2 b1 b4 fun ρ3 g1 g2 => ?_
    refine ky1_loop H hy t (by omega) ρ3 fun ρ4 a1 a2 => k ρ4 (fun g z1 z2 => (a1 g z1 z2).trans ((g1 g z1 z2).trans (b3 g (by omega) (by omega)))) ?_
    rw [a2, g2, m80]
    show _ = ky_it Φ _ t (ky_st Φ (kb_bit t (ρ (320 + t / 8))) _)
    exact ky_it_congr (fun j hj => (g1 _ (by omega) (by omega)).trans (b3 _ (by omega) (by omega))) t (by omega) _
end KY
def ky1 (u : Nat) : xk_K := ([(2, 0, 0), (0, 0, 32), (0, 0, ((32 * u : Nat) : Int)), (0, 0, 320)], ky_T, none, ky_F, (62 + u, 639, xn 320 32 ++ xn (288 + 32 * u) 32), (3, 47))
theorem ky1_ent0 : xk_sg ce_12 cm_ms [(193, (99, 0), kr_unp9_0), (193, (99, 0), kr_unp2_0), (184, (99, 0), kr_set0), (184, (99, 0), kr_set1), (184, (99, 0), kr_set3)] kco_175 cm_175.1 3 47 kwg [36] 60 639 (0, [(0, (2, 0, 0)), (1, (0, 0, 32)), (2, (0, 0, ((32 * 0 : Nat) : Int))), (3, (0, 0, 320))], [], ky_T, [], 640) (ky_te 0) (ky_re 0) 36 (ky_ls (0, 254) (0, 32), [], ky_T) = true := by decide +kernel
theorem ky1_ok0 {l : Launch} {Φ : Nat → Nat → List Int → Int} (H : kY Φ) : xk_Cd l Φ kwg (0, 2147483647) cm_175.1 (ky1 0) := by
  refine xk_okw (E := ce_12) (ms := cm_ms) (cod := kco_175) (by decide) (by decide) (by decide +kernel) (by decide) (by decide +kernel) ce_ok12 rfl cm_ok ce_glob kco_175_ok ?_
  intro p e R s m args below meth c D AC S θ L ρ0 N hy
  have H1 := H.1.1.1.1
  have c1 : xk_Cts l Φ kwg (0, 2147483647) cm_ms [(193, (99, 0), kr_unp9_0), (193, (99, 0), kr_unp2_0), (184, (99, 0), kr_set0), (184, (99, 0), kr_set1), (184, (99, 0), kr_set3)] := (xk_Cts.one cm_g193 ((kr_unp9_0_ok (H1.1.1.1.1.1.1.1.1.1.1.1.1.1.1.1.1.1.1.1)).wd rfl) (xk_Cts.one cm_g193 ((kr_unp2_0_ok (H1.1.1.1.1.1.1.1.1.1.1.1.1.1.1.1.1.1.1)).wd rfl) (xk_Cts.one cm_g184 ((kr_set0_ok (H1.1.1.1.1.1.1.1.1.1.1.1.1.1.1.1.1.1.1.1.1)).wd rfl) (xk_Cts.one cm_g184 ((kr_set1_ok (H1.1.1.1.1.1.1.1.1.1.1.1.1.1.1.1.1.1.1.1.1)).wd rfl) (xk_Cts.one cm_g184 ((kr_set3_ok (H1.1.1.1.1.1.1.1.1.1.1.1.1.1.1.1.1.1.1.1.1)).wd rfl) xk_Cts.nil)))))
  have c2 : xk_Cts l Φ kwg (0, 2147483647) cm_ms ky_ctx := (xk_Cts.one cm_g151 (kr_inv_ok H.1.1) (xk_Cts.one cm_g189 ((kr_tim0_0_11_ok H1).wd rfl) (xk_Cts.one cm_g169 (kr_pack_ok H.1) xk_Cts.nil)))
  refine xw_sg (ρ := ρ0) (hy.ct c1) ky1_ent0 fun ρ1 h1 t1 => ?_
  have he9 := xk_cv (b := 640) (t := 22) (t1 _ List.mem_cons_self) ky_oU (by decide +kernel)
  have he2 := xk_cv (b := 673) (t := 23) (t1 _ (List.mem_cons_of_mem _ List.mem_cons_self)) ky_oU (by decide +kernel)
  have ea : ((xn 288 32).map (fun g => ((g, 0) : xk_O))).map (xk_ov ρ1) = (xn 288 32).map ρ0 := by
    rw [← xk_lowm (n := 639) h1 (by decide)]
    rfl
  have he9 : ky_oU.map (fun r => ρ1 (640 + r)) = ky_oU.map (fun r => Φ 22 r ((xn 288 32).map ρ0)) := by rw [← ea]; exact he9
  have he2 : ky_oU.map (fun r => ρ1 (673 + r)) = ky_oU.map (fun r => Φ 23 r ((xn 288 32).map ρ0)) := by rw [← ea]; exact he2
  have v0 : ky_ag.map (xk_rno (ky_re 0) ρ1) = ky_v0 Φ 0 ((xn 288 32).map ρ0) := by
    show _ = (1 :: List.replicate 15 0) ++ List.replicate 16 0 ++ ky_oU.map (fun r => Φ 23 r ((xn 288 32).map ρ0)) ++ (1 :: List.replicate 15 0) ++ ky_oU.map (fun r => Φ 22 r ((xn 288 32).map ρ0))
    rw [← he9, ← he2]
    rfl
  have b0 : ∀ g, 288 ≤ g → g < 640 → xk_rno (ky_re 0) ρ1 g = ρ0 g := fun g z1 z2 => by
    show xk_ov ρ1 (if g = 1 then _ else if g < 33 then _ else if g < 49 then _ else if g = 49 then _ else if g < 65 then _ else if 145 ≤ g ∧ g < 161 then _ else if g = 640 then _ else ((g, 0) : xk_O)) = _
    rw [if_neg (by omega), if_neg (by omega), if_neg (by omega), if_neg (by omega), if_neg (by omega), if_neg (by omega), if_neg (by omega)]
    show (if g = 0 then (0 : Int) else ρ1 g) = _
    rw [if_neg (by omega), h1 g (by omega)]
  generalize xk_rno (ky_re 0) ρ1 = ρ2 at v0 b0
  have e254 : (254 : Int) = ((255 : Nat) : Int) - 1 := rfl
  rw [e254]
  refine ky1_loop H.1.1.1 hy 255 (by omega) ρ2 fun ρ3 h3 h4 => ?_
  refine xw_sg (hy.ct c2) ky1_ext fun ρ4 h5 t5 => ?_
  rw [v0] at h4
  have hit : ky_it Φ (fun j => ρ2 (320 + j)) 255 (ky_v0 Φ 0 ((xn 288 32).map ρ0)) = ky_it Φ (fun j => ((xn 320 32).map ρ0).getD j 0) 255 (ky_v0 Φ 0 ((xn 288 32).map ρ0)) := ky_it_congr (fun j hj => by
    rw [b0 _ (by omega) (by omega), List.getD_eq_getElem?_getD, List.getElem?_map]
    unfold xn
    rw [List.getElem?_map, List.getElem?_range hj]
    rfl) 255 (by omega) _
  rw [hit] at h4
  have m80 : ky_ag.map ρ4 = ky_it Φ (fun j => ((xn 320 32).map ρ0).getD j 0) 255 (ky_v0 Φ 0 ((xn 288 32).map ρ0)) := by
    rw [← h4]
    exact List.map_congr_left fun g hg => h5 g (by
      have hall : ky_ag.all (fun g => decide (g ≤ 640)) = true := by decide
      exact of_decide_eq_true (List.all_eq_true.mp hall g hg))
  have g1 := xk_cv (b := 641) (t := 60) (t5 _ List.mem_cons_self) (List.range 16) (by decide +kernel)
  have g2 := xk_cv (b := 688) (t := 41) (t5 _ (List.mem_cons_of_mem _ List.mem_cons_self)) ky_oT (by decide +kernel)
  have g3 := xk_cv (b := 1361) (t := 61) (t5 _ (List.mem_cons_of_mem _ (List.mem_cons_of_mem _ List.mem_cons_self))) (List.range 32) (by decide +kernel)
  have a1 : ((xn 17 16).map (fun g => ((g, 0) : xk_O))).map (xk_ov ρ4) = ((ky_ag.map ρ4).drop 16).take 16 := rfl
  have a2 : ((xn 1 16 ++ xn 641 16).map (fun g => ((g, 0) : xk_O))).map (xk_ov ρ4) = (ky_ag.map ρ4).take 16 ++ (List.range 16).map (fun r => ρ4 (641 + r)) := rfl
  have a3 : (ky_oT.map (fun r => ((688 + r, 0) : xk_O))).map (xk_ov ρ4) = ky_oT.map (fun r => ρ4 (688 + r)) := rfl
  rw [a1] at g1
  rw [a2, g1] at g2
  rw [a3, g2] at g3
  have hend : (List.range 32).map (fun r => ρ4 (1361 + r)) = ky_rk Φ 0 ((xn 320 32).map ρ0) ((xn 288 32).map ρ0) := by
    unfold ky_rk ky_end
    rw [← m80]
    exact g3
  refine xw_fin (ls := []) hy rfl rfl (xk_refl2 (lo := 288) (k := 671) (by decide +kernel) fun g z1 z2 => ?_)
  show _ = if g ≤ 639 then ρ0 g else Φ (62 + 0) (g - 639 - 1) ((xn 320 32 ++ xn 288 32).map ρ0)
  by_cases hg : g < 640
  · rw [if_pos (by omega)]
    show xk_ov ρ4 (if g < 640 then ((g, 0) : xk_O) else _) = _
    rw [if_pos hg]
    show (if g = 0 then (0 : Int) else ρ4 g) = _
    rw [if_neg (by omega), h5 g (by omega), h3 g z1 hg, b0 g z1 hg]
  · rw [if_neg (by omega), H.2 0 (by decide)]
    have e1 : ((xn 320 32 ++ xn 288 32).map ρ0).take 32 = (xn 320 32).map ρ0 := rfl
    have e2 : ((xn 320 32 ++ xn 288 32).map ρ0).drop 32 = (xn 288 32).map ρ0 := rfl
    rw [e1, e2, ← hend]
    show xk_ov ρ4 (if g < 640 then ((g, 0) : xk_O) else (1361 + (g - 640), 0)) = _
    rw [if_neg hg, List.getD_eq_getElem?_getD, List.getElem?_map, show g - 639 - 1 = g - 640 by omega, List.getElem?_range (by omega)]
    show (if 1361 + (g - 640) = 0 then (0 : Int) else ρ4 (1361 + (g - 640))) = _
    rw [if_neg (by omega)]
    rfl
theorem ky1_ent1 : xk_sg ce_12 cm_ms [(193, (99, 0), kr_unp9_1), (193, (99, 0), kr_unp2_1), (184, (99, 0), kr_set0), (184, (99, 0), kr_set1), (184, (99, 0), kr_set3)] kco_175 cm_175.1 3 47 kwg [36] 60 639 (0, [(0, (2, 0, 0)), (1, (0, 0, 32)), (2, (0, 0, ((32 * 1 : Nat) : Int))), (3, (0, 0, 320))], [], ky_T, [], 640) (ky_te 1) (ky_re 1) 36 (ky_ls (0, 254) (0, 32), [], ky_T) = true := by decide +kernel
theorem ky1_ok1 {l : Launch} {Φ : Nat → Nat → List Int → Int} (H : kY Φ) : xk_Cd l Φ kwg (0, 2147483647) cm_175.1 (ky1 1) := by
  refine xk_okw (E := ce_12) (ms := cm_ms) (cod := kco_175) (by decide) (by decide) (by decide +kernel) (by decide) (by decide +kernel) ce_ok12 rfl cm_ok ce_glob kco_175_ok ?_
  intro p e R s m args below meth c D AC S θ L ρ0 N hy
  have H1 := H.1.1.1.1
  have c1 : xk_Cts l Φ kwg (0, 2147483647) cm_ms [(193, (99, 0), kr_unp9_1), (193, (99, 0), kr_unp2_1), (184, (99, 0), kr_set0), (184, (99, 0), kr_set1), (184, (99, 0), kr_set3)] := (xk_Cts.one cm_g193 ((kr_unp9_1_ok (H1.1.1.1.1.1.1.1.1.1.1.1.1.1.1.1.1.1)).wd rfl) (xk_Cts.one cm_g193 ((kr_unp2_1_ok (H1.1.1.1.1.1.1.1.1.1.1.1.1.1.1.1.1)).wd rfl) (xk_Cts.one cm_g184 ((kr_set0_ok (H1.1.1.1.1.1.1.1.1.1.1.1.1.1.1.1.1.1.1.1.1)).wd rfl) (xk_Cts.one cm_g184 ((kr_set1_ok (H1.1.1.1.1.1.1.1.1.1.1.1.1.1.1.1.1.1.1.1.1)).wd rfl) (xk_Cts.one cm_g184 ((kr_set3_ok (H1.1.1.1.1.1.1.1.1.1.1.1.1.1.1.1.1.1.1.1.1)).wd rfl) xk_Cts.nil)))))
  have c2 : xk_Cts l Φ kwg (0, 2147483647) cm_ms ky_ctx := (xk_Cts.one cm_g151 (kr_inv_ok H.1.1) (xk_Cts.one cm_g189 ((kr_tim0_0_11_ok H1).wd rfl) (xk_Cts.one cm_g169 (kr_pack_ok H.1) xk_Cts.nil)))
  refine xw_sg (ρ := ρ0) (hy.ct c1) ky1_ent1 fun ρ1 h1 t1 => ?_
  have he9 := xk_cv (b := 640) (t := 24) (t1 _ List.mem_cons_self) ky_oU (by decide +kernel)
  have he2 := xk_cv (b := 673) (t := 25) (t1 _ (List.mem_cons_of_mem _ List.mem_cons_self)) ky_oU (by decide +kernel)
  have ea : ((xn 320 32).map (fun g => ((g, 0) : xk_O))).map (xk_ov ρ1) = (xn 320 32).map ρ0 := by
    rw [← xk_lowm (n := 639) h1 (by decide)]
    rfl
  have he9 : ky_oU.map (fun r => ρ1 (640 + r)) = ky_oU.map (fun r => Φ 24 r ((xn 320 32).map ρ0)) := by rw [← ea]; exact he9
  have he2 : ky_oU.map (fun r => ρ1 (673 + r)) = ky_oU.map (fun r => Φ 25 r ((xn 320 32).map ρ0)) := by rw [← ea]; exact he2
  have v0 : ky_ag.map (xk_rno (ky_re 1) ρ1) = ky_v0 Φ 1 ((xn 320 32).map ρ0) := by
    show _ = (1 :: List.replicate 15 0) ++ List.replicate 16 0 ++ ky_oU.map (fun r => Φ 25 r ((xn 320 32).map ρ0)) ++ (1 :: List.replicate 15 0) ++ ky_oU.map (fun r => Φ 24 r ((xn 320 32).map ρ0))
    rw [← he9, ← he2]
    rfl
  have b0 : ∀ g, 288 ≤ g → g < 640 → xk_rno (ky_re 1) ρ1 g = ρ0 g := fun g z1 z2 => by
    show xk_ov ρ1 (if g = 1 then _ else if g < 33 then _ else if g < 49 then _ else if g = 49 then _ else if g < 65 then _ else if 145 ≤ g ∧ g < 161 then _ else if g = 640 then _ else ((g, 0) : xk_O)) = _
    rw [if_neg (by omega), if_neg (by omega), if_neg (by omega), if_neg (by omega), if_neg (by omega), if_neg (by omega), if_neg (by omega)]
    show (if g = 0 then (0 : Int) else ρ1 g) = _
    rw [if_neg (by omega), h1 g (by omega)]
  generalize xk_rno (ky_re 1) ρ1 = ρ2 at v0 b0
  have e254 : (254 : Int) = ((255 : Nat) : Int) - 1 := rfl
  rw [e254]
  refine ky1_loop H.1.1.1 hy 255 (by omega) ρ2 fun ρ3 h3 h4 => ?_
  refine xw_sg (hy.ct c2) ky1_ext fun ρ4 h5 t5 => ?_
  rw [v0] at h4
  have hit : ky_it Φ (fun j => ρ2 (320 + j)) 255 (ky_v0 Φ 1 ((xn 320 32).map ρ0)) = ky_it Φ (fun j => ((xn 320 32).map ρ0).getD j 0) 255 (ky_v0 Φ 1 ((xn 320 32).map ρ0)) := ky_it_congr (fun j hj => by
    rw [b0 _ (by omega) (by omega), List.getD_eq_getElem?_getD, List.getElem?_map]
    unfold xn
    rw [List.getElem?_map, List.getElem?_range hj]
    rfl) 255 (by omega) _
  rw [hit] at h4
  have m80 : ky_ag.map ρ4 = ky_it Φ (fun j => ((xn 320 32).map ρ0).getD j 0) 255 (ky_v0 Φ 1 ((xn 320 32).map ρ0)) := by
    rw [← h4]
    exact List.map_congr_left fun g hg => h5 g (by
      have hall : ky_ag.all (fun g => decide (g ≤ 640)) = true := by decide
      exact of_decide_eq_true (List.all_eq_true.mp hall g hg))
  have g1 := xk_cv (b := 641) (t := 60) (t5 _ List.mem_cons_self) (List.range 16) (by decide +kernel)
  have g2 := xk_cv (b := 688) (t := 41) (t5 _ (List.mem_cons_of_mem _ List.mem_cons_self)) ky_oT (by decide +kernel)
  have g3 := xk_cv (b := 1361) (t := 61) (t5 _ (List.mem_cons_of_mem _ (List.mem_cons_of_mem _ List.mem_cons_self))) (List.range 32) (by decide +kernel)
  have a1 : ((xn 17 16).map (fun g => ((g, 0) : xk_O))).map (xk_ov ρ4) = ((ky_ag.map ρ4).drop 16).take 16 := rfl
  have a2 : ((xn 1 16 ++ xn 641 16).map (fun g => ((g, 0) : xk_O))).map (xk_ov ρ4) = (ky_ag.map ρ4).take 16 ++ (List.range 16).map (fun r => ρ4 (641 + r)) := rfl
  have a3 : (ky_oT.map (fun r => ((688 + r, 0) : xk_O))).map (xk_ov ρ4) = ky_oT.map (fun r => ρ4 (688 + r)) := rfl
  rw [a1] at g1
  rw [a2, g1] at g2
  rw [a3, g2] at g3
  have hend : (List.range 32).map (fun r => ρ4 (1361 + r)) = ky_rk Φ 1 ((xn 320 32).map ρ0) ((xn 320 32).map ρ0) := by
    unfold ky_rk ky_end
    rw [← m80]
    exact g3
  refine xw_fin (ls := []) hy rfl rfl (xk_refl2 (lo := 288) (k := 671) (by decide +kernel) fun g z1 z2 => ?_)
  show _ = if g ≤ 639 then ρ0 g else Φ (62 + 1) (g - 639 - 1) ((xn 320 32 ++ xn 320 32).map ρ0)
  by_cases hg : g < 640
  · rw [if_pos (by omega)]
    show xk_ov ρ4 (if g < 640 then ((g, 0) : xk_O) else _) = _
    rw [if_pos hg]
    show (if g = 0 then (0 : Int) else ρ4 g) = _
    rw [if_neg (by omega), h5 g (by omega), h3 g z1 hg, b0 g z1 hg]
  · rw [if_neg (by omega), H.2 1 (by decide)]
    have e1 : ((xn 320 32 ++ xn 320 32).map ρ0).take 32 = (xn 320 32).map ρ0 := rfl
    have e2 : ((xn 320 32 ++ xn 320 32).map ρ0).drop 32 = (xn 320 32).map ρ0 := rfl
    rw [e1, e2, ← hend]
    show xk_ov ρ4 (if g < 640 then ((g, 0) : xk_O) else (1361 + (g - 640), 0)) = _
    rw [if_neg hg, List.getD_eq_getElem?_getD, List.getElem?_map, show g - 639 - 1 = g - 640 by omega, List.getElem?_range (by omega)]
    show (if 1361 + (g - 640) = 0 then (0 : Int) else ρ4 (1361 + (g - 640))) = _
    rw [if_neg (by omega)]
    rfl
theorem ky1_ent2 : xk_sg ce_12 cm_ms [(193, (99, 0), kr_unp9_2), (193, (99, 0), kr_unp2_2), (184, (99, 0), kr_set0), (184, (99, 0), kr_set1), (184, (99, 0), kr_set3)] kco_175 cm_175.1 3 47 kwg [36] 60 639 (0, [(0, (2, 0, 0)), (1, (0, 0, 32)), (2, (0, 0, ((32 * 2 : Nat) : Int))), (3, (0, 0, 320))], [], ky_T, [], 640) (ky_te 2) (ky_re 2) 36 (ky_ls (0, 254) (0, 32), [], ky_T) = true := by decide +kernel
theorem ky1_ok2 {l : Launch} {Φ : Nat → Nat → List Int → Int} (H : kY Φ) : xk_Cd l Φ kwg (0, 2147483647) cm_175.1 (ky1 2) := by
  refine xk_okw (E := ce_12) (ms := cm_ms) (cod := kco_175) (by decide) (by decide) (by decide +kernel) (by decide) (by decide +kernel) ce_ok12 rfl cm_ok ce_glob kco_175_ok ?_
  intro p e R s m args below meth c D AC S θ L ρ0 N hy
  have H1 := H.1.1.1.1
  have c1 : xk_Cts l Φ kwg (0, 2147483647) cm_ms [(193, (99, 0), kr_unp9_2), (193, (99, 0), kr_unp2_2), (184, (99, 0), kr_set0), (184, (99, 0), kr_set1), (184, (99, 0), kr_set3)] := (xk_Cts.one cm_g193 ((kr_unp9_2_ok (H1.1.1.1.1.1.1.1.1.1.1.1.1.1.1.1)).wd rfl) (xk_Cts.one cm_g193 ((kr_unp2_2_ok (H1.1.1.1.1.1.1.1.1.1.1.1.1.1.1)).wd rfl) (xk_Cts.one cm_g184 ((kr_set0_ok (H1.1.1.1.1.1.1.1.1.1.1.1.1.1.1.1.1.1.1.1.1)).wd rfl) (xk_Cts.one cm_g184 ((kr_set1_ok (H1.1.1.1.1.1.1.1.1.1.1.1.1.1.1.1.1.1.1.1.1)).wd rfl) (xk_Cts.one cm_g184 ((kr_set3_ok (H1.1.1.1.1.1.1.1.1.1.1.1.1.1.1.1.1.1.1.1.1)).wd rfl) xk_Cts.nil)))))
  have c2 : xk_Cts l Φ kwg (0, 2147483647) cm_ms ky_ctx := (xk_Cts.one cm_g151 (kr_inv_ok H.1.1) (xk_Cts.one cm_g189 ((kr_tim0_0_11_ok H1).wd rfl) (xk_Cts.one cm_g169 (kr_pack_ok H.1) xk_Cts.nil)))
  refine xw_sg (ρ := ρ0) (hy.ct c1) ky1_ent2 fun ρ1 h1 t1 => ?_
  have he9 := xk_cv (b := 640) (t := 26) (t1 _ List.mem_cons_self) ky_oU (by decide +kernel)
  have he2 := xk_cv (b := 673) (t := 27) (t1 _ (List.mem_cons_of_mem _ List.mem_cons_self)) ky_oU (by decide +kernel)
  have ea : ((xn 352 32).map (fun g => ((g, 0) : xk_O))).map (xk_ov ρ1) = (xn 352 32).map ρ0 := by
    rw [← xk_lowm (n := 639) h1 (by decide)]
    rfl
  have he9 : ky_oU.map (fun r => ρ1 (640 + r)) = ky_oU.map (fun r => Φ 26 r ((xn 352 32).map ρ0)) := by rw [← ea]; exact he9
  have he2 : ky_oU.map (fun r => ρ1 (673 + r)) = ky_oU.map (fun r => Φ 27 r ((xn 352 32).map ρ0)) := by rw [← ea]; exact he2
  have v0 : ky_ag.map (xk_rno (ky_re 2) ρ1) = ky_v0 Φ 2 ((xn 352 32).map ρ0) := by
    show _ = (1 :: List.replicate 15 0) ++ List.replicate 16 0 ++ ky_oU.map (fun r => Φ 27 r ((xn 352 32).map ρ0)) ++ (1 :: List.replicate 15 0) ++ ky_oU.map (fun r => Φ 26 r ((xn 352 32).map ρ0))
    rw [← he9, ← he2]
    rfl
  have b0 : ∀ g, 288 ≤ g → g < 640 → xk_rno (ky_re 2) ρ1 g = ρ0 g := fun g z1 z2 => by
    show xk_ov ρ1 (if g = 1 then _ else if g < 33 then _ else if g < 49 then _ else if g = 49 then _ else if g < 65 then _ else if 145 ≤ g ∧ g < 161 then _ else if g = 640 then _ else ((g, 0) : xk_O)) = _
    rw [if_neg (by omega), if_neg (by omega), if_neg (by omega), if_neg (by omega), if_neg (by omega), if_neg (by omega), if_neg (by omega)]
    show (if g = 0 then (0 : Int) else ρ1 g) = _
    rw [if_neg (by omega), h1 g (by omega)]
  generalize xk_rno (ky_re 2) ρ1 = ρ2 at v0 b0
  have e254 : (254 : Int) = ((255 : Nat) : Int) - 1 := rfl
  rw [e254]
  refine ky1_loop H.1.1.1 hy 255 (by omega) ρ2 fun ρ3 h3 h4 => ?_
  refine xw_sg (hy.ct c2) ky1_ext fun ρ4 h5 t5 => ?_
  rw [v0] at h4
  have hit : ky_it Φ (fun j => ρ2 (320 + j)) 255 (ky_v0 Φ 2 ((xn 352 32).map ρ0)) = ky_it Φ (fun j => ((xn 320 32).map ρ0).getD j 0) 255 (ky_v0 Φ 2 ((xn 352 32).map ρ0)) := ky_it_congr (fun j hj => by
    rw [b0 _ (by omega) (by omega), List.getD_eq_getElem?_getD, List.getElem?_map]
    unfold xn
    rw [List.getElem?_map, List.getElem?_range hj]
    rfl) 255 (by omega) _
  rw [hit] at h4
  have m80 : ky_ag.map ρ4 = ky_it Φ (fun j => ((xn 320 32).map ρ0).getD j 0) 255 (ky_v0 Φ 2 ((xn 352 32).map ρ0)) := by
    rw [← h4]
    exact List.map_congr_left fun g hg => h5 g (by
      have hall : ky_ag.all (fun g => decide (g ≤ 640)) = true := by decide
      exact of_decide_eq_true (List.all_eq_true.mp hall g hg))
  have g1 := xk_cv (b := 641) (t := 60) (t5 _ List.mem_cons_self) (List.range 16) (by decide +kernel)
  have g2 := xk_cv (b := 688) (t := 41) (t5 _ (List.mem_cons_of_mem _ List.mem_cons_self)) ky_oT (by decide +kernel)
  have g3 := xk_cv (b := 1361) (t := 61) (t5 _ (List.mem_cons_of_mem _ (List.mem_cons_of_mem _ List.mem_cons_self))) (List.range 32) (by decide +kernel)
  have a1 : ((xn 17 16).map (fun g => ((g, 0) : xk_O))).map (xk_ov ρ4) = ((ky_ag.map ρ4).drop 16).take 16 := rfl
  have a2 : ((xn 1 16 ++ xn 641 16).map (fun g => ((g, 0) : xk_O))).map (xk_ov ρ4) = (ky_ag.map ρ4).take 16 ++ (List.range 16).map (fun r => ρ4 (641 + r)) := rfl
  have a3 : (ky_oT.map (fun r => ((688 + r, 0) : xk_O))).map (xk_ov ρ4) = ky_oT.map (fun r => ρ4 (688 + r)) := rfl
  rw [a1] at g1
  rw [a2, g1] at g2
  rw [a3, g2] at g3
  have hend : (List.range 32).map (fun r => ρ4 (1361 + r)) = ky_rk Φ 2 ((xn 320 32).map ρ0) ((xn 352 32).map ρ0) := by
    unfold ky_rk ky_end
    rw [← m80]
    exact g3
  refine xw_fin (ls := []) hy rfl rfl (xk_refl2 (lo := 288) (k := 671) (by decide +kernel) fun g z1 z2 => ?_)
  show _ = if g ≤ 639 then ρ0 g else Φ (62 + 2) (g - 639 - 1) ((xn 320 32 ++ xn 352 32).map ρ0)
  by_cases hg : g < 640
  · rw [if_pos (by omega)]
    show xk_ov ρ4 (if g < 640 then ((g, 0) : xk_O) else _) = _
    rw [if_pos hg]
    show (if g = 0 then (0 : Int) else ρ4 g) = _
    rw [if_neg (by omega), h5 g (by omega), h3 g z1 hg, b0 g z1 hg]
  · rw [if_neg (by omega), H.2 2 (by decide)]
    have e1 : ((xn 320 32 ++ xn 352 32).map ρ0).take 32 = (xn 320 32).map ρ0 := rfl
    have e2 : ((xn 320 32 ++ xn 352 32).map ρ0).drop 32 = (xn 352 32).map ρ0 := rfl
    rw [e1, e2, ← hend]
    show xk_ov ρ4 (if g < 640 then ((g, 0) : xk_O) else (1361 + (g - 640), 0)) = _
    rw [if_neg hg, List.getD_eq_getElem?_getD, List.getElem?_map, show g - 639 - 1 = g - 640 by omega, List.getElem?_range (by omega)]
    show (if 1361 + (g - 640) = 0 then (0 : Int) else ρ4 (1361 + (g - 640))) = _
    rw [if_neg (by omega)]
    rfl
theorem ky1_ent3 : xk_sg ce_12 cm_ms [(193, (99, 0), kr_unp9_3), (193, (99, 0), kr_unp2_3), (184, (99, 0), kr_set0), (184, (99, 0), kr_set1), (184, (99, 0), kr_set3)] kco_175 cm_175.1 3 47 kwg [36] 60 639 (0, [(0, (2, 0, 0)), (1, (0, 0, 32)), (2, (0, 0, ((32 * 3 : Nat) : Int))), (3, (0, 0, 320))], [], ky_T, [], 640) (ky_te 3) (ky_re 3) 36 (ky_ls (0, 254) (0, 32), [], ky_T) = true := by decide +kernel
theorem ky1_ok3 {l : Launch} {Φ : Nat → Nat → List Int → Int} (H : kY Φ) : xk_Cd l Φ kwg (0, 2147483647) cm_175.1 (ky1 3) := by
  refine xk_okw (E := ce_12) (ms := cm_ms) (cod := kco_175) (by decide) (by decide) (by decide +kernel) (by decide) (by decide +kernel) ce_ok12 rfl cm_ok ce_glob kco_175_ok ?_
  intro p e R s m args below meth c D AC S θ L ρ0 N hy
  have H1 := H.1.1.1.1
  have c1 : xk_Cts l Φ kwg (0, 2147483647) cm_ms [(193, (99, 0), kr_unp9_3), (193, (99, 0), kr_unp2_3), (184, (99, 0), kr_set0), (184, (99, 0), kr_set1), (184, (99, 0), kr_set3)] := (xk_Cts.one cm_g193 ((kr_unp9_3_ok (H1.1.1.1.1.1.1.1.1.1.1.1.1.1)).wd rfl) (xk_Cts.one cm_g193 ((kr_unp2_3_ok (H1.1.1.1.1.1.1.1.1.1.1.1.1)).wd rfl) (xk_Cts.one cm_g184 ((kr_set0_ok (H1.1.1.1.1.1.1.1.1.1.1.1.1.1.1.1.1.1.1.1.1)).wd rfl) (xk_Cts.one cm_g184 ((kr_set1_ok (H1.1.1.1.1.1.1.1.1.1.1.1.1.1.1.1.1.1.1.1.1)).wd rfl) (xk_Cts.one cm_g184 ((kr_set3_ok (H1.1.1.1.1.1.1.1.1.1.1.1.1.1.1.1.1.1.1.1.1)).wd rfl) xk_Cts.nil)))))
  have c2 : xk_Cts l Φ kwg (0, 2147483647) cm_ms ky_ctx := (xk_Cts.one cm_g151 (kr_inv_ok H.1.1) (xk_Cts.one cm_g189 ((kr_tim0_0_11_ok H1).wd rfl) (xk_Cts.one cm_g169 (kr_pack_ok H.1) xk_Cts.nil)))
  refine xw_sg (ρ := ρ0) (hy.ct c1) ky1_ent3 fun ρ1 h1 t1 => ?_
  have he9 := xk_cv (b := 640) (t := 28) (t1 _ List.mem_cons_self) ky_oU (by decide +kernel)
  have he2 := xk_cv (b := 673) (t := 29) (t1 _ (List.mem_cons_of_mem _ List.mem_cons_self)) ky_oU (by decide +kernel)
  have ea : ((xn 384 32).map (fun g => ((g, 0) : xk_O))).map (xk_ov ρ1) = (xn 384 32).map ρ0 := by
    rw [← xk_lowm (n := 639) h1 (by decide)]
    rfl
  have he9 : ky_oU.map (fun r => ρ1 (640 + r)) = ky_oU.map (fun r => Φ 28 r ((xn 384 32).map ρ0)) := by rw [← ea]; exact he9
  have he2 : ky_oU.map (fun r => ρ1 (673 + r)) = ky_oU.map (fun r => Φ 29 r ((xn 384 32).map ρ0)) := by rw [← ea]; exact he2
  have v0 : ky_ag.map (xk_rno (ky_re 3) ρ1) = ky_v0 Φ 3 ((xn 384 32).map ρ0) := by
    show _ = (1 :: List.replicate 15 0) ++ List.replicate 16 0 ++ ky_oU.map (fun r => Φ 29 r ((xn 384 32).map ρ0)) ++ (1 :: List.replicate 15 0) ++ ky_oU.map (fun r => Φ 28 r ((xn 384 32).map ρ0))
    rw [← he9, ← he2]
    rfl
  have b0 : ∀ g, 288 ≤ g → g < 640 → xk_rno (ky_re 3) ρ1 g = ρ0 g := fun g z1 z2 => by
    show xk_ov ρ1 (if g = 1 then _ else if g < 33 then _ else if g < 49 then _ else if g = 49 then _ else if g < 65 then _ else if 145 ≤ g ∧ g < 161 then _ else if g = 640 then _ else ((g, 0) : xk_O)) = _
    rw [if_neg (by omega), if_neg (by omega), if_neg (by omega), if_neg (by omega), if_neg (by omega), if_neg (by omega), if_neg (by omega)]
    show (if g = 0 then (0 : Int) else ρ1 g) = _
    rw [if_neg (by omega), h1 g (by omega)]
  generalize xk_rno (ky_re 3) ρ1 = ρ2 at v0 b0
  have e254 : (254 : Int) = ((255 : Nat) : Int) - 1 := rfl
  rw [e254]
  refine ky1_loop H.1.1.1 hy 255 (by omega) ρ2 fun ρ3 h3 h4 => ?_
  refine xw_sg (hy.ct c2) ky1_ext fun ρ4 h5 t5 => ?_
  rw [v0] at h4
  have hit : ky_it Φ (fun j => ρ2 (320 + j)) 255 (ky_v0 Φ 3 ((xn 384 32).map ρ0)) = ky_it Φ (fun j => ((xn 320 32).map ρ0).getD j 0) 255 (ky_v0 Φ 3 ((xn 384 32).map ρ0)) := ky_it_congr (fun j hj => by
    rw [b0 _ (by omega) (by omega), List.getD_eq_getElem?_getD, List.getElem?_map]
    unfold xn
    rw [List.getElem?_map, List.getElem?_range hj]
    rfl) 255 (by omega) _
  rw [hit] at h4
  have m80 : ky_ag.map ρ4 = ky_it Φ (fun j => ((xn 320 32).map ρ0).getD j 0) 255 (ky_v0 Φ 3 ((xn 384 32).map ρ0)) := by
    rw [← h4]
    exact List.map_congr_left fun g hg => h5 g (by
      have hall : ky_ag.all (fun g => decide (g ≤ 640)) = true := by decide
      exact of_decide_eq_true (List.all_eq_true.mp hall g hg))
  have g1 := xk_cv (b := 641) (t := 60) (t5 _ List.mem_cons_self) (List.range 16) (by decide +kernel)
  have g2 := xk_cv (b := 688) (t := 41) (t5 _ (List.mem_cons_of_mem _ List.mem_cons_self)) ky_oT (by decide +kernel)
  have g3 := xk_cv (b := 1361) (t := 61) (t5 _ (List.mem_cons_of_mem _ (List.mem_cons_of_mem _ List.mem_cons_self))) (List.range 32) (by decide +kernel)
  have a1 : ((xn 17 16).map (fun g => ((g, 0) : xk_O))).map (xk_ov ρ4) = ((ky_ag.map ρ4).drop 16).take 16 := rfl
  have a2 : ((xn 1 16 ++ xn 641 16).map (fun g => ((g, 0) : xk_O))).map (xk_ov ρ4) = (ky_ag.map ρ4).take 16 ++ (List.range 16).map (fun r => ρ4 (641 + r)) := rfl
  have a3 : (ky_oT.map (fun r => ((688 + r, 0) : xk_O))).map (xk_ov ρ4) = ky_oT.map (fun r => ρ4 (688 + r)) := rfl
  rw [a1] at g1
  rw [a2, g1] at g2
  rw [a3, g2] at g3
  have hend : (List.range 32).map (fun r => ρ4 (1361 + r)) = ky_rk Φ 3 ((xn 320 32).map ρ0) ((xn 384 32).map ρ0) := by
    unfold ky_rk ky_end
    rw [← m80]
    exact g3
  refine xw_fin (ls := []) hy rfl rfl (xk_refl2 (lo := 288) (k := 671) (by decide +kernel) fun g z1 z2 => ?_)
  show _ = if g ≤ 639 then ρ0 g else Φ (62 + 3) (g - 639 - 1) ((xn 320 32 ++ xn 384 32).map ρ0)
  by_cases hg : g < 640
  · rw [if_pos (by omega)]
    show xk_ov ρ4 (if g < 640 then ((g, 0) : xk_O) else _) = _
    rw [if_pos hg]
    show (if g = 0 then (0 : Int) else ρ4 g) = _
    rw [if_neg (by omega), h5 g (by omega), h3 g z1 hg, b0 g z1 hg]
  · rw [if_neg (by omega), H.2 3 (by decide)]
    have e1 : ((xn 320 32 ++ xn 384 32).map ρ0).take 32 = (xn 320 32).map ρ0 := rfl
    have e2 : ((xn 320 32 ++ xn 384 32).map ρ0).drop 32 = (xn 384 32).map ρ0 := rfl
    rw [e1, e2, ← hend]
    show xk_ov ρ4 (if g < 640 then ((g, 0) : xk_O) else (1361 + (g - 640), 0)) = _
    rw [if_neg hg, List.getD_eq_getElem?_getD, List.getElem?_map, show g - 639 - 1 = g - 640 by omega, List.getElem?_range (by omega)]
    show (if 1361 + (g - 640) = 0 then (0 : Int) else ρ4 (1361 + (g - 640))) = _
    rw [if_neg (by omega)]
    rfl
