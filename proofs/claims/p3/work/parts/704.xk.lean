/-! ===== the reference: invert ===== -/
def ku_T : List xk_C := [((0, 11), [(5, 0, 0), (5, 1, 0), (5, 2, 0), (5, 3, 0), (5, 4, 0), (5, 5, 0), (5, 6, 0), (5, 7, 0), (5, 8, 0), (5, 9, 0), (2, 1, 0), (2, 2, 0), (5, 12, 0), (5, 13, 0), (5, 14, 0), (5, 15, 0), (5, 16, 0), (5, 17, 0), (5, 18, 0), (5, 19, 0), (5, 20, 0), (5, 21, 0), (5, 22, 0), (5, 23, 0), (5, 24, 0), (5, 25, 0), (5, 26, 0), (5, 27, 0), (5, 28, 0), (5, 29, 0), (5, 30, 0), (5, 31, 0), (5, 32, 0), (5, 33, 0), (5, 34, 0), (5, 35, 0), (5, 36, 0)]), ((1, 1), xl 1 256), ((1, 1), xl 257 31)]
def ku_cts : List xk_Q := [(189, (99, 0), kr_tim11_11_11), (189, (99, 0), kr_tim11_11_1)]
theorem ku_cts_ok {l : Launch} {Φ : Nat → Nat → List Int → Int} (H : kR_41 Φ) : xk_Cts l Φ kwg (0, 2147483647) cm_ms ku_cts := (xk_Cts.one cm_g189 ((kr_tim11_11_11_ok (H.1.1)).wd rfl) (xk_Cts.one cm_g189 ((kr_tim11_11_1_ok (H.1)).wd rfl) xk_Cts.nil))
def ku_ls (t : Int) : List (Nat × xk_V) := [(1, (0, (0, t))), (0, (2, 0, 0))]
def ku_t1 : List xk_E := [(288, 1039, [(177, 0), (178, 0), (179, 0), (180, 0), (181, 0), (182, 0), (183, 0), (184, 0), (185, 0), (186, 0), (187, 0), (188, 0), (189, 0), (190, 0), (191, 0), (192, 0)]), (961, 1040, [(17, 0), (18, 0), (19, 0), (20, 0), (21, 0), (22, 0), (23, 0), (24, 0), (25, 0), (26, 0), (27, 0), (28, 0), (29, 0), (30, 0), (31, 0), (32, 0), (960, 0), (902, 0), (906, 0), (910, 0), (914, 0), (918, 0), (922, 0), (926, 0), (930, 0), (934, 0), (938, 0), (942, 0), (946, 0), (950, 0), (954, 0), (958, 0)])]
def ku_t2 : List xk_E := [(288, 1039, [(177, 0), (178, 0), (179, 0), (180, 0), (181, 0), (182, 0), (183, 0), (184, 0), (185, 0), (186, 0), (187, 0), (188, 0), (189, 0), (190, 0), (191, 0), (192, 0)])]
def ku_o1 : List xk_O := [(1633, 0), (1575, 0), (1579, 0), (1583, 0), (1587, 0), (1591, 0), (1595, 0), (1599, 0), (1603, 0), (1607, 0), (1611, 0), (1615, 0), (1619, 0), (1623, 0), (1627, 0), (1631, 0), (962, 0), (994, 0), (1026, 0), (1058, 0), (1090, 0), (1122, 0), (1154, 0), (1186, 0), (1218, 0), (1250, 0), (1282, 0), (1314, 0), (1346, 0), (1378, 0), (1410, 0), (1442, 0), (1444, 0), (1446, 0), (1448, 0), (1450, 0), (1452, 0), (1454, 0), (1456, 0), (1458, 0), (1460, 0), (1462, 0), (1464, 0), (1466, 0), (1468, 0), (1470, 0), (1472, 0)]
def ku_o2 : List xk_O := [(960, 0), (902, 0), (906, 0), (910, 0), (914, 0), (918, 0), (922, 0), (926, 0), (930, 0), (934, 0), (938, 0), (942, 0), (946, 0), (950, 0), (954, 0), (958, 0), (289, 0), (321, 0), (353, 0), (385, 0), (417, 0), (449, 0), (481, 0), (513, 0), (545, 0), (577, 0), (609, 0), (641, 0), (673, 0), (705, 0), (737, 0), (769, 0), (771, 0), (773, 0), (775, 0), (777, 0), (779, 0), (781, 0), (783, 0), (785, 0), (787, 0), (789, 0), (791, 0), (793, 0), (795, 0), (797, 0), (799, 0)]
def ku_tb (t : Nat) : List xk_E := if t = 4 ∨ t = 2 then ku_t2 else ku_t1
def ku_os (t : Nat) : List xk_O := if t = 4 ∨ t = 2 then ku_o2 else ku_o1
def ku_rn (t : Nat) : Nat → xk_O := fun g => if g < 177 then (g, 0) else if g < 193 then (ku_os t).getD (g - 177) (0, 0) else if g < 257 then (g, 0) else (ku_os t).getD (g - 257 + 16) (0, 0)
def ku_b (t : Nat) : Bool := xk_sg ce_12 cm_ms ku_cts kco_151 cm_151.1 2 34 kwg [37] 30 287 (37, ku_ls (t : Int), [], ku_T, [], 288) (ku_tb t) (ku_rn t) 37 (ku_ls ((t : Int) - 1), [], ku_T)
theorem ku_a0 : (List.range 8).all (fun c => ku_b (0 + c)) = true := by decide +kernel
theorem ku_a1 : (List.range 8).all (fun c => ku_b (8 + c)) = true := by decide +kernel
theorem ku_a2 : (List.range 8).all (fun c => ku_b (16 + c)) = true := by decide +kernel
theorem ku_a3 : (List.range 8).all (fun c => ku_b (24 + c)) = true := by decide +kernel
theorem ku_a4 : (List.range 8).all (fun c => ku_b (32 + c)) = true := by decide +kernel
theorem ku_a5 : (List.range 8).all (fun c => ku_b (40 + c)) = true := by decide +kernel
theorem ku_a6 : (List.range 8).all (fun c => ku_b (48 + c)) = true := by decide +kernel
theorem ku_a7 : (List.range 8).all (fun c => ku_b (56 + c)) = true := by decide +kernel
theorem ku_a8 : (List.range 8).all (fun c => ku_b (64 + c)) = true := by decide +kernel
theorem ku_a9 : (List.range 8).all (fun c => ku_b (72 + c)) = true := by decide +kernel
theorem ku_a10 : (List.range 8).all (fun c => ku_b (80 + c)) = true := by decide +kernel
theorem ku_a11 : (List.range 8).all (fun c => ku_b (88 + c)) = true := by decide +kernel
theorem ku_a12 : (List.range 8).all (fun c => ku_b (96 + c)) = true := by decide +kernel
theorem ku_a13 : (List.range 8).all (fun c => ku_b (104 + c)) = true := by decide +kernel
theorem ku_a14 : (List.range 8).all (fun c => ku_b (112 + c)) = true := by decide +kernel
theorem ku_a15 : (List.range 8).all (fun c => ku_b (120 + c)) = true := by decide +kernel
theorem ku_a16 : (List.range 8).all (fun c => ku_b (128 + c)) = true := by decide +kernel
theorem ku_a17 : (List.range 8).all (fun c => ku_b (136 + c)) = true := by decide +kernel
theorem ku_a18 : (List.range 8).all (fun c => ku_b (144 + c)) = true := by decide +kernel
theorem ku_a19 : (List.range 8).all (fun c => ku_b (152 + c)) = true := by decide +kernel
theorem ku_a20 : (List.range 8).all (fun c => ku_b (160 + c)) = true := by decide +kernel
theorem ku_a21 : (List.range 8).all (fun c => ku_b (168 + c)) = true := by decide +kernel
theorem ku_a22 : (List.range 8).all (fun c => ku_b (176 + c)) = true := by decide +kernel
theorem ku_a23 : (List.range 8).all (fun c => ku_b (184 + c)) = true := by decide +kernel
theorem ku_a24 : (List.range 8).all (fun c => ku_b (192 + c)) = true := by decide +kernel
theorem ku_a25 : (List.range 8).all (fun c => ku_b (200 + c)) = true := by decide +kernel
theorem ku_a26 : (List.range 8).all (fun c => ku_b (208 + c)) = true := by decide +kernel
theorem ku_a27 : (List.range 8).all (fun c => ku_b (216 + c)) = true := by decide +kernel
theorem ku_a28 : (List.range 8).all (fun c => ku_b (224 + c)) = true := by decide +kernel
theorem ku_a29 : (List.range 8).all (fun c => ku_b (232 + c)) = true := by decide +kernel
theorem ku_a30 : (List.range 8).all (fun c => ku_b (240 + c)) = true := by decide +kernel
theorem ku_a31 : (List.range 6).all (fun c => ku_b (248 + c)) = true := by decide +kernel
theorem ku_all (c : Nat) (h0 : 0 ≤ c) (hc : c < 254) : ku_b c = true := by
  by_cases h0 : c < 8
  · exact xk_ran ku_a0 (by omega) (by omega)
  by_cases h1 : c < 16
  · exact xk_ran ku_a1 (by omega) (by omega)
  by_cases h2 : c < 24
  · exact xk_ran ku_a2 (by omega) (by omega)
  by_cases h3 : c < 32
  · exact xk_ran ku_a3 (by omega) (by omega)
  by_cases h4 : c < 40
  · exact xk_ran ku_a4 (by omega) (by omega)
  by_cases h5 : c < 48
  · exact xk_ran ku_a5 (by omega) (by omega)
  by_cases h6 : c < 56
  · exact xk_ran ku_a6 (by omega) (by omega)
  by_cases h7 : c < 64
  · exact xk_ran ku_a7 (by omega) (by omega)
  by_cases h8 : c < 72
  · exact xk_ran ku_a8 (by omega) (by omega)
  by_cases h9 : c < 80
  · exact xk_ran ku_a9 (by omega) (by omega)
  by_cases h10 : c < 88
  · exact xk_ran ku_a10 (by omega) (by omega)
  by_cases h11 : c < 96
  · exact xk_ran ku_a11 (by omega) (by omega)
  by_cases h12 : c < 104
  · exact xk_ran ku_a12 (by omega) (by omega)
  by_cases h13 : c < 112
  · exact xk_ran ku_a13 (by omega) (by omega)
  by_cases h14 : c < 120
  · exact xk_ran ku_a14 (by omega) (by omega)
  by_cases h15 : c < 128
  · exact xk_ran ku_a15 (by omega) (by omega)
  by_cases h16 : c < 136
  · exact xk_ran ku_a16 (by omega) (by omega)
  by_cases h17 : c < 144
  · exact xk_ran ku_a17 (by omega) (by omega)
  by_cases h18 : c < 152
  · exact xk_ran ku_a18 (by omega) (by omega)
  by_cases h19 : c < 160
  · exact xk_ran ku_a19 (by omega) (by omega)
  by_cases h20 : c < 168
  · exact xk_ran ku_a20 (by omega) (by omega)
  by_cases h21 : c < 176
  · exact xk_ran ku_a21 (by omega) (by omega)
  by_cases h22 : c < 184
  · exact xk_ran ku_a22 (by omega) (by omega)
  by_cases h23 : c < 192
  · exact xk_ran ku_a23 (by omega) (by omega)
  by_cases h24 : c < 200
  · exact xk_ran ku_a24 (by omega) (by omega)
  by_cases h25 : c < 208
  · exact xk_ran ku_a25 (by omega) (by omega)
  by_cases h26 : c < 216
  · exact xk_ran ku_a26 (by omega) (by omega)
  by_cases h27 : c < 224
  · exact xk_ran ku_a27 (by omega) (by omega)
  by_cases h28 : c < 232
  · exact xk_ran ku_a28 (by omega) (by omega)
  by_cases h29 : c < 240
  · exact xk_ran ku_a29 (by omega) (by omega)
  by_cases h30 : c < 248
  · exact xk_ran ku_a30 (by omega) (by omega)
  exact xk_ran ku_a31 (by omega) (by omega)
def ku_re : Nat → xk_O := fun g => if g < 177 then (g, 0) else if g < 193 then (g - 160, 0) else (g, 0)
theorem ku_ent : xk_sg ce_12 cm_ms ku_cts kco_151 cm_151.1 2 34 kwg [37] 300 287 (0, [(0, (2, 0, 0))], [], ku_T, [], 288) [] ku_re 37 (ku_ls 253, [], ku_T) = true := by decide +kernel
theorem ku_ext : xk_sg ce_12 cm_ms ku_cts kco_151 cm_151.1 2 34 kwg [76] 30 287 (37, ku_ls (-1), [], ku_T, [], 288) [] (fun g => (g, 0)) 76 ([], [], ku_T) = true := by decide +kernel
/-- the numbers: place 1, then 11 and the product's row -/
def ku_ag : List Nat := xn 17 16 ++ xn 177 16
theorem ku_k1 : xk_tck kwg 287 ku_ag ku_t1 ku_o1 = true := by decide +kernel
theorem ku_k2 : xk_tck kwg 287 ku_ag ku_t2 ku_o2 = true := by decide +kernel
def ku_one (Φ : Nat → Nat → List Int → Int) (x : List Int) (t : Nat) (v : List Int) : List Int := xk_tf Φ kwg (ku_tb t) ku_ag (ku_os t) (x ++ v.take 16)
def ku_it (Φ : Nat → Nat → List Int → Int) (x : List Int) : Nat → List Int → List Int
  | 0, v => v
  | t + 1, v => ku_it Φ x t (ku_one Φ x t v)
theorem ku_len (Φ : Nat → Nat → List Int → Int) (x : List Int) : ∀ (t : Nat) (v : List Int), v.length = 47 → (ku_it Φ x t v).length = 47
  | 0, v, h => h
  | t + 1, v, h => ku_len Φ x t _ (by
    unfold ku_one xk_tf ku_os
    rw [List.length_map]
    split <;> rfl)
theorem ku_ini {Φ : Nat → Nat → List Int → Int} {x v w : List Int} (t : Nat) (h : v.take 16 = w.take 16) : ku_it Φ x (t + 1) v = ku_it Φ x (t + 1) w := by
  unfold ku_it ku_one
  rw [h]
section KU
variable {p : Program} {l : Launch} {e : Env} {R : Room} {s : State} {m : MethodId} {args : Array Value} {below : List Frame} {meth : Method} {c : Code} {Q : State → Prop}
variable {D : va_G} {AC : Nat → ClassId} {S : Nat → Nat} {θ : Nat → Value} {L : Heap} {ρ : Nat → Int} {N : List Nat} {H0 : Heap} {Φ : Nat → Nat → List Int → Int}
theorem ku_loop (H : kR_41 Φ) (hy : xk_Hy p l e R s m meth c cm_151.1 2 34 ce_12 cm_ms [] Φ kwg (0, 2147483647) D AC S L H0 kco_151) : ∀ (t : Nat), t ≤ 254 → ∀ ρ : Nat → Int, (∀ ρ' : Nat → Int, (∀ g, 0 < g → g < 177 ∨ (193 ≤ g ∧ g < 257) → ρ' g = ρ g) → (xn 177 16 ++ xn 257 31).map ρ' = ku_it Φ ((xn 17 16).map ρ) t ((xn 177 16 ++ xn 257 31).map ρ) → xk_W p l e R s m args below meth c Q D AC S θ L cm_151.1.2.2.1 ρ' N H0 37 (ku_ls (-1), [], ku_T)) → xk_W p l e R s m args below meth c Q D AC S θ L cm_151.1.2.2.1 ρ N H0 37 (ku_ls ((t : Int) - 1), [], ku_T)
  | 0, _, ρ, k => k ρ (fun g _ _ => rfl) rfl
  | t + 1, ht, ρ, k => by
    have e0 : (((t + 1 : Nat) : Int) - 1) = (t : Int) := by omega
    rw [e0]
    have hb := ku_all t (Nat.zero_le _) (by omega)
    unfold ku_b at hb
    refine xw_sg (hy.ct (ku_cts_ok H)) hb fun ρ' hρ ht' => ?_
    have hs : ∀ g, 0 < g → g < 177 ∨ (193 ≤ g ∧ g < 257) → xk_rno (ku_rn t) ρ' g = ρ g := fun g g0 hg => by
      have : ku_rn t g = (g, 0) := by
        unfold ku_rn
        rcases hg with hg | hg
        · rw [if_pos hg]
        · rw [if_neg (by omega), if_neg (by omega), if_pos hg.2]
      unfold xk_rno xk_ov
      rw [this, if_neg (by show ¬ g = 0; omega)]
      exact hρ g (by omega)
    have m17 : (xn 17 16).map (xk_rno (ku_rn t) ρ') = (xn 17 16).map ρ := List.map_congr_left fun g hg => by
      unfold xn at hg
      obtain ⟨i, hi, rfl⟩ := List.mem_map.mp hg
      have := List.mem_range.mp hi
      exact hs _ (by omega) (by omega)
    have ho : (xn 177 16 ++ xn 257 31).map (xk_rno (ku_rn t) ρ') = (ku_os t).map (xk_ov ρ') := by
      unfold ku_rn ku_os
      by_cases h42 : t = 4 ∨ t = 2
      · simp only [if_pos h42]
        rfl
      · simp only [if_neg h42]
        rfl
    have hk : xk_tck kwg 287 ku_ag (ku_tb t) (ku_os t) = true := by
      unfold ku_tb ku_os
      split
      · exact ku_k2
      · exact ku_k1
    have ha : ku_ag.map ρ' = (xn 17 16).map ρ ++ ((xn 177 16 ++ xn 257 31).map ρ).take 16 := by
      have : ku_ag.map ρ' = ku_ag.map ρ := List.map_congr_left fun g hg => hρ g (by
        have hall : ku_ag.all (fun g => decide (g ≤ 287)) = true := by decide
        exact of_decide_eq_true (List.all_eq_true.mp hall g hg))
      rw [this]
      rfl
    have n2 : (xn 177 16 ++ xn 257 31).map (xk_rno (ku_rn t) ρ') = ku_one Φ ((xn 17 16).map ρ) t ((xn 177 16 ++ xn 257 31).map ρ) := by
      rw [ho, xk_tf_ok hk ht', ha]
      rfl
    refine ku_loop H hy t (by omega) (xk_rno (ku_rn t) ρ') fun ρ'' a b => k ρ'' (fun g g0 hg => (a g g0 hg).trans (hs g g0 hg)) ?_
    rw [b, m17, n2]
    rfl
end KU
def ku_fn (Φ : Nat → Nat → List Int → Int) (inp : List Int) : List Int := ku_it Φ inp 254 inp
def kU (Φ : Nat → Nat → List Int → Int) : Prop := kJ Φ ∧ ∀ r inp, Φ 60 r inp = (ku_fn Φ inp).getD r 0
def kr_inv : xk_K := ([(2, 0, 0)], ku_T, none, [((0, 11), [(5, 0, 0), (5, 1, 0), (5, 2, 0), (5, 3, 0), (5, 4, 0), (5, 5, 0), (5, 6, 0), (5, 7, 0), (5, 8, 0), (5, 9, 0), (2, 1, 0), (2, 2, 0), (5, 12, 0), (5, 13, 0), (5, 14, 0), (5, 15, 0), (5, 16, 0), (5, 17, 0), (5, 18, 0), (5, 19, 0), (5, 20, 0), (5, 21, 0), (5, 22, 0), (5, 23, 0), (5, 24, 0), (5, 25, 0), (5, 26, 0), (5, 27, 0), (5, 28, 0), (5, 29, 0), (5, 30, 0), (5, 31, 0), (5, 32, 0), (5, 33, 0), (5, 34, 0), (5, 35, 0), (5, 36, 0)]), ((1, 1), xl 1 176 ++ xl 288 16 ++ xl 193 64), ((1, 1), xl 304 31)], (60, 287, xn 17 16), (2, 34))
theorem kr_inv_ok {l : Launch} {Φ : Nat → Nat → List Int → Int} (H : kU Φ) : xk_Cd l Φ kwg (0, 2147483647) cm_151.1 kr_inv := by
  refine xk_okw (E := ce_12) (ms := cm_ms) (cod := kco_151) (by decide) (by decide) (by decide +kernel) (by decide) (by decide +kernel) ce_ok12 rfl cm_ok ce_glob kco_151_ok ?_
  intro p e R s m args below meth c D AC S θ L ρ0 N hy
  refine xw_sg (ρ := ρ0) (hy.ct (ku_cts_ok H.1.1)) ku_ent fun ρ1 h1 _ => ?_
  have e253 : (253 : Int) = ((254 : Nat) : Int) - 1 := rfl
  rw [e253]
  refine ku_loop H.1.1 hy 254 (by omega) _ fun ρ2 h2 h3 => ?_
  refine xw_sg (hy.ct (ku_cts_ok H.1.1)) ku_ext fun ρ3 h4 _ => ?_
  have lowg : ∀ g, 0 < g → g < 177 ∨ (193 ≤ g ∧ g < 257) → xk_rno ku_re ρ1 g = ρ0 g := fun g g0 hg => by
    have : ku_re g = (g, 0) := by
      unfold ku_re
      rcases hg with hg | hg
      · rw [if_pos hg]
      · rw [if_neg (by omega), if_neg (by omega)]
    unfold xk_rno xk_ov
    rw [this, if_neg (by show ¬ g = 0; omega)]
    exact h1 g (by omega)
  have z1 : (xn 17 16).map (xk_rno ku_re ρ1) = (xn 17 16).map ρ0 := List.map_congr_left fun g hg => by
    unfold xn at hg
    obtain ⟨i, hi, rfl⟩ := List.mem_map.mp hg
    have := List.mem_range.mp hi
    exact lowg _ (by omega) (by omega)
  have z2 : (xn 177 16 ++ xn 257 31).map (xk_rno ku_re ρ1) = (xn 17 16 ++ xn 257 31).map ρ1 := rfl
  have z3 : (xn 17 16 ++ xn 257 31).map ρ1 = (xn 17 16 ++ xn 257 31).map ρ0 := List.map_congr_left fun g hg => h1 g (by
    have hall : (xn 17 16 ++ xn 257 31).all (fun g => decide (g ≤ 287)) = true := by decide
    exact of_decide_eq_true (List.all_eq_true.mp hall g hg))
  rw [z2, z3, z1] at h3
  have hf : (xn 177 16 ++ xn 257 31).map ρ3 = ku_fn Φ ((xn 17 16).map ρ0) := by
    have : (xn 177 16 ++ xn 257 31).map ρ3 = (xn 177 16 ++ xn 257 31).map ρ2 := List.map_congr_left fun g hg => h4 g (by
      have hall : (xn 177 16 ++ xn 257 31).all (fun g => decide (g ≤ 287)) = true := by decide
      exact of_decide_eq_true (List.all_eq_true.mp hall g hg))
    rw [this, h3]
    exact ku_ini 253 rfl
  -- told once more, by the contract's numbers
  refine xw_re (rn := fun g => if g < 288 then (g, 0) else if g < 304 then (g - 111, 0) else (g - 47, 0)) (B := ([], [], [((0, 11), [(5, 0, 0), (5, 1, 0), (5, 2, 0), (5, 3, 0), (5, 4, 0), (5, 5, 0), (5, 6, 0), (5, 7, 0), (5, 8, 0), (5, 9, 0), (2, 1, 0), (2, 2, 0), (5, 12, 0), (5, 13, 0), (5, 14, 0), (5, 15, 0), (5, 16, 0), (5, 17, 0), (5, 18, 0), (5, 19, 0), (5, 20, 0), (5, 21, 0), (5, 22, 0), (5, 23, 0), (5, 24, 0), (5, 25, 0), (5, 26, 0), (5, 27, 0), (5, 28, 0), (5, 29, 0), (5, 30, 0), (5, 31, 0), (5, 32, 0), (5, 33, 0), (5, 34, 0), (5, 35, 0), (5, 36, 0)]), ((1, 1), xl 1 176 ++ xl 288 16 ++ xl 193 64), ((1, 1), xl 304 31)])) (by decide +kernel) ?_
  refine xw_fin (ls := []) hy rfl rfl (xk_refl3 (P := fun g => g < 177 ∨ (193 ≤ g ∧ g < 257) ∨ (288 ≤ g ∧ g < 335)) (by decide +kernel) fun g g0 hg => ?_)
  show _ = if g ≤ 287 then ρ0 g else Φ 60 (g - 287 - 1) ((xn 17 16).map ρ0)
  by_cases hg2 : g < 288
  · rw [if_pos (by omega)]
    have er : xk_rno (fun g => if g < 288 then ((g, 0) : xk_O) else if g < 304 then (g - 111, 0) else (g - 47, 0)) (xk_rno (fun g => (g, 0)) ρ3) g = ρ3 g := by
      show xk_ov (xk_rno (fun g => (g, 0)) ρ3) (if g < 288 then ((g, 0) : xk_O) else _) = _
      rw [if_pos hg2]
      show (if g = 0 then (0 : Int) else xk_ov ρ3 (g, 0)) = ρ3 g
      rw [if_neg (by omega)]
      show (if g = 0 then (0 : Int) else ρ3 g) = ρ3 g
      rw [if_neg (by omega)]
    rw [er, h4 g (by omega), h2 g (by omega) (by omega), lowg g (by omega) (by omega)]
  · rw [if_neg (by omega), H.2, ← hf]
    have er : xk_rno (fun g => if g < 288 then ((g, 0) : xk_O) else if g < 304 then (g - 111, 0) else (g - 47, 0)) (xk_rno (fun g => (g, 0)) ρ3) g = ρ3 (if g < 304 then g - 111 else g - 47) := by
      show xk_ov (xk_rno (fun g => (g, 0)) ρ3) (if g < 288 then ((g, 0) : xk_O) else if g < 304 then (g - 111, 0) else (g - 47, 0)) = _
      rw [if_neg hg2]
      split
      · show (if g - 111 = 0 then (0 : Int) else xk_ov ρ3 (g - 111, 0)) = ρ3 (g - 111)
        rw [if_neg (by omega)]
        show (if g - 111 = 0 then (0 : Int) else ρ3 (g - 111)) = ρ3 (g - 111)
        rw [if_neg (by omega)]
      · show (if g - 47 = 0 then (0 : Int) else xk_ov ρ3 (g - 47, 0)) = ρ3 (g - 47)
        rw [if_neg (by omega)]
        show (if g - 47 = 0 then (0 : Int) else ρ3 (g - 47)) = ρ3 (g - 47)
        rw [if_neg (by omega)]
    rw [er]
    have key : ∀ r, r < 47 → ((xn 177 16 ++ xn 257 31).map ρ3).getD r 0 = ρ3 (if r < 16 then 177 + r else 241 + r) := by
      intro r hr
      rw [List.getD_eq_getElem?_getD, List.getElem?_map]
      have : (xn 177 16 ++ xn 257 31)[r]? = some (if r < 16 then 177 + r else 241 + r) := by
        by_cases h16 : r < 16
        · rw [List.getElem?_append_left (by show r < 16; exact h16), if_pos h16]
          unfold xn
          rw [List.getElem?_map, List.getElem?_range h16]
          rfl
        · rw [List.getElem?_append_right (by show 16 ≤ r; omega), if_neg h16]
          unfold xn
          rw [List.length_map, List.length_range, List.getElem?_map, List.getElem?_range (by omega)]
          show some (257 + (r - 16)) = some (241 + r)
          congr 1
          omega
      rw [this]
      rfl
    rw [key (g - 287 - 1) (by omega)]
    congr 1
    by_cases h3 : g < 304
    · rw [if_pos h3, if_pos (by omega)]
      omega
    · rw [if_neg h3, if_neg (by omega)]
      omega
