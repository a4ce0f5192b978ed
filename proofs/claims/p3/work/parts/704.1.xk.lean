/-! ===== the reference: invert, its function ===== -/
def ku_re : Nat → xk_O := fun g => if g < 177 then (g, 0) else if g < 193 then (g - 160, 0) else (g, 0)
theorem ku_ent : xk_sg ce_12 cm_ms ku_cts kco_151 cm_151.1 2 34 kwg [37] 300 287 (0, [(0, (2, 0, 0))], [], ku_T, [], 288) [] ku_re 37 (ku_ls 253, [], ku_T) = true := by decide +kernel
theorem ku_ext : xk_sg ce_12 cm_ms ku_cts kco_151 cm_151.1 2 34 kwg [76] 30 287 (37, ku_ls (-1), [], ku_T, [], 288) [] (fun g => (g, 0)) 76 ([], [], ku_T) = true := by decide +kernel
/-- the numbers: place 1, then 11 and the product's row -/
def ku_ag : List Nat := xn 17 16 ++ xn 177 16
theorem ku_k1 : xk_tck kwg 287 ku_ag ku_t1 ku_o1 = true := by decide +kernel
theorem ku_k2 : xk_tck kwg 287 ku_ag ku_t2 ku_o2 = true := by decide +kernel
def ku_one (Φ : Nat → Nat → List Int → Int) (x : List Int) (t : Nat) (v : List Int) : List Int := xk_tf Φ kwg (ku_tb t) ku_ag (ku_os t) (x ++ v.take 16)
def ku_it (Φ : Nat → Nat → List Int → Int) (x : List Int) : Nat → List Int → List Int
  | 0, v => v
  | t + 1, v => ku_it Φ x t (ku_one Φ x t v)
theorem ku_len (Φ : Nat → Nat → List Int → Int) (x : List Int) : ∀ (t : Nat) (v : List Int), v.length = 47 → (ku_it Φ x t v).length = 47
  | 0, v, h => h
  | t + 1, v, h => ku_len Φ x t _ (by
    unfold ku_one xk_tf ku_os
    rw [List.length_map]
    split <;> rfl)
theorem ku_ini {Φ : Nat → Nat → List Int → Int} {x v w : List Int} (t : Nat) (h : v.take 16 = w.take 16) : ku_it Φ x (t + 1) v = ku_it Φ x (t + 1) w := by
  unfold ku_it ku_one
  rw [h]
section KU
variable {p : Program} {l : Launch} {e : Env} {R : Room} {s : State} {m : MethodId} {args : Array Value} {below : List Frame} {meth : Method} {c : Code} {Q : State → Prop}
variable {D : va_G} {AC : Nat → ClassId} {S : Nat → Nat} {θ : Nat → Value} {L : Heap} {ρ : Nat → Int} {N : List Nat} {H0 : Heap} {Φ : Nat → Nat → List Int → Int}
theorem ku_loop (H : kR_41 Φ) (hy : xk_Hy p l e R s m meth c cm_151.1 2 34 ce_12 cm_ms [] Φ kwg (0, 2147483647) D AC S L H0 kco_151) : ∀ (t : Nat), t ≤ 254 → ∀ ρ : Nat → Int, (∀ ρ' : Nat → Int, (∀ g, 0 < g → g < 177 ∨ (193 ≤ g ∧ g < 257) → ρ' g = ρ g) → (xn 177 16 ++ xn 257 31).map ρ' = ku_it Φ ((xn 17 16).map ρ) t ((xn 177 16 ++ xn 257 31).map ρ) → xk_W p l e R s m args below meth c Q D AC S θ L cm_151.1.2.2.1 ρ' N H0 37 (ku_ls (-1), [], ku_T)) → xk_W p l e R s m args below meth c Q D AC S θ L cm_151.1.2.2.1 ρ N H0 37 (ku_ls ((t : Int) - 1), [], ku_T)
  | 0, _, ρ, k => k ρ (fun g _ _ => rfl) rfl
  | t + 1, ht, ρ, k => by
    have e0 : (((t + 1 : Nat) : Int) - 1) = (t : Int) := by omega
    rw [e0]
    have hb := ku_all t (Nat.zero_le _) (by omega)
    unfold ku_b at hb
    refine xw_sg (hy.ct (ku_cts_ok H)) hb fun ρ' hρ ht' => ?_
    have hs : ∀ g, 0 < g → g < 177 ∨ (193 ≤ g ∧ g < 257) → xk_rno (ku_rn t) ρ' g = ρ g := fun g g0 hg => by
      have : ku_rn t g = (g, 0) := by
        unfold ku_rn
        rcases hg with hg | hg
        · rw [if_pos hg]
        · rw [if_neg (by omega), if_neg (by omega), if_pos hg.2]
      unfold xk_rno xk_ov
      rw [this, if_neg (by show ¬ g = 0; omega)]
      exact hρ g (by omega)
    have m17 : (xn 17 16).map (xk_rno (ku_rn t) ρ') = (xn 17 16).map ρ := List.map_congr_left fun g hg => by
      unfold xn at hg
      obtain ⟨i, hi, rfl⟩ := List.mem_map.mp hg
      have := List.mem_range.mp hi
      exact hs _ (by omega) (by omega)
    have ho : (xn 177 16 ++ xn 257 31).map (xk_rno (ku_rn t) ρ') = (ku_os t).map (xk_ov ρ') := by
      unfold ku_rn ku_os
      by_cases h42 : t = 4 ∨ t = 2
      · simp only [if_pos h42]
        rfl
      · simp only [if_neg h42]
        rfl
    have hk : xk_tck kwg 287 ku_ag (ku_tb t) (ku_os t) = true := by
      unfold ku_tb ku_os
      split
      · exact ku_k2
      · exact ku_k1
    have ha : ku_ag.map ρ' = (xn 17 16).map ρ ++ ((xn 177 16 ++ xn 257 31).map ρ).take 16 := by
      have : ku_ag.map ρ' = ku_ag.map ρ := List.map_congr_left fun g hg => hρ g (by
        have hall : ku_ag.all (fun g => decide (g ≤ 287)) = true := by decide
        exact of_decide_eq_true (List.all_eq_true.mp hall g hg))
      rw [this]
      rfl
    have n2 : (xn 177 16 ++ xn 257 31).map (xk_rno (ku_rn t) ρ') = ku_one Φ ((xn 17 16).map ρ) t ((xn 177 16 ++ xn 257 31).map ρ) := by
      rw [ho, xk_tf_ok hk ht', ha]
      rfl
    refine ku_loop H hy t (by omega) (xk_rno (ku_rn t) ρ') fun ρ'' a b => k ρ'' (fun g g0 hg => (a g g0 hg).trans (hs g g0 hg)) ?_
    rw [b, m17, n2]
    rfl
end KU
def ku_fn (Φ : Nat → Nat → List Int → Int) (inp : List Int) : List Int := ku_it Φ inp 254 inp
def kU (Φ : Nat → Nat → List Int → Int) : Prop := kJ Φ ∧ ∀ r inp, Φ 60 r inp = (ku_fn Φ inp).getD r 0
def kr_inv : xk_K := ([(2, 0, 0)], ku_T, none, [((0, 11), [(5, 0, 0), (5, 1, 0), (5, 2, 0), (5, 3, 0), (5, 4, 0), (5, 5, 0), (5, 6, 0), (5, 7, 0), (5, 8, 0), (5, 9, 0), (2, 1, 0), (2, 2, 0), (5, 12, 0), (5, 13, 0), (5, 14, 0), (5, 15, 0), (5, 16, 0), (5, 17, 0), (5, 18, 0), (5, 19, 0), (5, 20, 0), (5, 21, 0), (5, 22, 0), (5, 23, 0), (5, 24, 0), (5, 25, 0), (5, 26, 0), (5, 27, 0), (5, 28, 0), (5, 29, 0), (5, 30, 0), (5, 31, 0), (5, 32, 0), (5, 33, 0), (5, 34, 0), (5, 35, 0), (5, 36, 0)]), ((1, 1), xl 1 176 ++ xl 288 16 ++ xl 193 64), ((1, 1), xl 304 31)], (60, 287, xn 17 16), (2, 34))
theorem kr_inv_ok {l : Launch} {Φ : Nat → Nat → List Int → Int} (H : kU Φ) : xk_Cd l Φ kwg (0, 2147483647) cm_151.1 kr_inv := by
  refine xk_okw (E := ce_12) (ms := cm_ms) (cod := kco_151) (by decide) (by decide) (by decide +kernel) (by decide) (by decide +kernel) ce_ok12 rfl cm_ok ce_glob kco_151_ok ?_
  intro p e R s m args below meth c D AC S θ L ρ0 N hy
  refine xw_sg (ρ := ρ0) (hy.ct (ku_cts_ok H.1.1)) ku_ent fun ρ1 h1 _ => ?_
  have e253 : (253 : Int) = ((254 : Nat) : Int) - 1 := rfl
  rw [e253]
  refine ku_loop H.1.1 hy 254 (by omega) _ fun ρ2 h2 h3 => ?_
  refine xw_sg (hy.ct (ku_cts_ok H.1.1)) ku_ext fun ρ3 h4 _ => ?_
  have lowg : ∀ g, 0 < g → g < 177 ∨ (193 ≤ g ∧ g < 257) → xk_rno ku_re ρ1 g = ρ0 g := fun g g0 hg => by
    have : ku_re g = (g, 0) := by
      unfold ku_re
      rcases hg with hg | hg
      · rw [if_pos hg]
      · rw [if_neg (by omega), if_neg (by omega)]
    unfold xk_rno xk_ov
    rw [this, if_neg (by show ¬ g = 0; omega)]
    exact h1 g (by omega)
  have z1 : (xn 17 16).map (xk_rno ku_re ρ1) = (xn 17 16).map ρ0 := List.map_congr_left fun g hg => by
    unfold xn at hg
    obtain ⟨i, hi, rfl⟩ := List.mem_map.mp hg
    have := List.mem_range.mp hi
    exact lowg _ (by omega) (by omega)
  have z2 : (xn 177 16 ++ xn 257 31).map (xk_rno ku_re ρ1) = (xn 17 16 ++ xn 257 31).map ρ1 := rfl
  have z3 : (xn 17 16 ++ xn 257 31).map ρ1 = (xn 17 16 ++ xn 257 31).map ρ0 := List.map_congr_left fun g hg => h1 g (by
    have hall : (xn 17 16 ++ xn 257 31).all (fun g => decide (g ≤ 287)) = true := by decide
    exact of_decide_eq_true (List.all_eq_true.mp hall g hg))
  rw [z2, z3, z1] at h3
  have hf : (xn 177 16 ++ xn 257 31).map ρ3 = ku_fn Φ ((xn 17 16).map ρ0) := by
    have : (xn 177 16 ++ xn 257 31).map ρ3 = (xn 177 16 ++ xn 257 31).map ρ2 := List.map_congr_left fun g hg => h4 g (by
      have hall : (xn 177 16 ++ xn 257 31).all (fun g => decide (g ≤ 287)) = true := by decide
      exact of_decide_eq_true (List.all_eq_true.mp hall g hg))
    rw [this, h3]
    exact ku_ini 253 rfl
  -- told once more, by the contract's numbers
  refine xw_re (rn := fun g => if g < 288 then (g, 0) else if g < 304 then (g - 111, 0) else (g - 47, 0)) (B := ([], [], [((0, 11), [(5, 0, 0), (5, 1, 0), (5, 2, 0), (5, 3, 0), (5, 4, 0), (5, 5, 0), (5, 6, 0), (5, 7, 0), (5, 8, 0), (5, 9, 0), (2, 1, 0), (2, 2, 0), (5, 12, 0), (5, 13, 0), (5, 14, 0), (5, 15, 0), (5, 16, 0), (5, 17, 0), (5, 18, 0), (5, 19, 0), (5, 20, 0), (5, 21, 0), (5, 22, 0), (5, 23, 0), (5, 24, 0), (5, 25, 0), (5, 26, 0), (5, 27, 0), (5, 28, 0), (5, 29, 0), (5, 30, 0), (5, 31, 0), (5, 32, 0), (5, 33, 0), (5, 34, 0), (5, 35, 0), (5, 36, 0)]), ((1, 1), xl 1 176 ++ xl 288 16 ++ xl 193 64), ((1, 1), xl 304 31)])) (by decide +kernel) ?_
  refine xw_fin (ls := []) hy rfl rfl (xk_refl3 (P := fun g => g < 177 ∨ (193 ≤ g ∧ g < 257) ∨ (288 ≤ g ∧ g < 335)) (by decide +kernel) fun g g0 hg => ?_)
  show _ = if g ≤ 287 then ρ0 g else Φ 60 (g - 287 - 1) ((xn 17 16).map ρ0)
  by_cases hg2 : g < 288
  · rw [if_pos (by omega)]
    have er : xk_rno (fun g => if g < 288 then ((g, 0) : xk_O) else if g < 304 then (g - 111, 0) else (g - 47, 0)) (xk_rno (fun g => (g, 0)) ρ3) g = ρ3 g := by
      show xk_ov (xk_rno (fun g => (g, 0)) ρ3) (if g < 288 then ((g, 0) : xk_O) else _) = _
      rw [if_pos hg2]
      show (if g = 0 then (0 : Int) else xk_ov ρ3 (g, 0)) = ρ3 g
      rw [if_neg (by omega)]
      show (if g = 0 then (0 : Int) else ρ3 g) = ρ3 g
      rw [if_neg (by omega)]
    rw [er, h4 g (by omega), h2 g (by omega) (by omega), lowg g (by omega) (by omega)]
  · rw [if_neg (by omega), H.2, ← hf]
    have er : xk_rno (fun g => if g < 288 then ((g, 0) : xk_O) else if g < 304 then (g - 111, 0) else (g - 47, 0)) (xk_rno (fun g => (g, 0)) ρ3) g = ρ3 (if g < 304 then g - 111 else g - 47) := by
      show xk_ov (xk_rno (fun g => (g, 0)) ρ3) (if g < 288 then ((g, 0) : xk_O) else if g < 304 then (g - 111, 0) else (g - 47, 0)) = _
      rw [if_neg hg2]
      split
      · show (if g - 111 = 0 then (0 : Int) else xk_ov ρ3 (g - 111, 0)) = ρ3 (g - 111)
        rw [if_neg (by omega)]
        show (if g - 111 = 0 then (0 : Int) else ρ3 (g - 111)) = ρ3 (g - 111)
        rw [if_neg (by omega)]
      · show (if g - 47 = 0 then (0 : Int) else xk_ov ρ3 (g - 47, 0)) = ρ3 (g - 47)
        rw [if_neg (by omega)]
        show (if g - 47 = 0 then (0 : Int) else ρ3 (g - 47)) = ρ3 (g - 47)
        rw [if_neg (by omega)]
    rw [er]
    have key : ∀ r, r < 47 → ((xn 177 16 ++ xn 257 31).map ρ3).getD r 0 = ρ3 (if r < 16 then 177 + r else 241 + r) := by
      intro r hr
      rw [List.getD_eq_getElem?_getD, List.getElem?_map]
      have : (xn 177 16 ++ xn 257 31)[r]? = some (if r < 16 then 177 + r else 241 + r) := by
        by_cases h16 : r < 16
        · rw [List.getElem?_append_left (by show r < 16; exact h16), if_pos h16]
          unfold xn
          rw [List.getElem?_map, List.getElem?_range h16]
          rfl
        · rw [List.getElem?_append_right (by show 16 ≤ r; omega), if_neg h16]
          unfold xn
          rw [List.length_map, List.length_range, List.getElem?_map, List.getElem?_range (by omega)]
          show some (257 + (r - 16)) = some (241 + r)
          congr 1
          omega
      rw [this]
      rfl
    rw [key (g - 287 - 1) (by omega)]
    by_cases h3 : g < 304
    · rw [if_pos h3, if_pos (by omega), show 177 + (g - 287 - 1) = g - 111 by omega]
    · rw [if_neg h3, if_neg (by omega), show 241 + (g - 287 - 1) = g - 47 by omega]
