/-! ===== the class: digest, its function ===== -/
def kG (Φ : Nat → Nat → List Int → Int) : Prop := kF Φ ∧ ∀ n, n < 129 → ∀ r inp, Φ (400 + n) r inp = (kf_fn Φ n inp).getD r 0
def kx_dig (n into : Nat) : xk_K := ([(2, 0, 0), (0, (0, (n : Int))), (0, (0, (into : Int)))], kg_T (0, (129, 0)), none, kg_F into, (400 + n, 457, xn 1 n), (2, 38))
theorem ck_all_refl {α : Type} {P : α → α → Prop} (h : ∀ a, P a a) (t : List α) : ck_all P t t := ⟨rfl, fun i a b ha hb => by
  rw [ha] at hb
  cases hb
  exact h a⟩
theorem kx_dig_ok {l : Launch} {Φ : Nat → Nat → List Int → Int} (H : kG Φ) {n into : Nat} (hn : n < 129) (hi : into < 4) : xk_Cd l Φ kwh (0, 2147483647) cm_9.1 (kx_dig n into) := by
  have x1 : (4 * n + into) / 4 = n := by omega
  have x2 : (4 * n + into) % 4 = into := by omega
  have hgd : xk_gd kwh (kx_dig n into) = true ∧ (kx_dig n into).1.all xk_kn = true ∧ (kx_dig n into).1.all (xk_lw 457) = true ∧ xk_wo (kx_dig n into).1 ≤ cm_9.1.2.2.1 := by
    have hall : (List.range 129).all (fun n => (List.range 4).all (fun into => xk_gd kwh (kx_dig n into) && ((kx_dig n into).1.all xk_kn && ((kx_dig n into).1.all (xk_lw 457) && decide (xk_wo (kx_dig n into).1 ≤ cm_9.1.2.2.1))))) = true := by decide +kernel
    have := List.all_eq_true.mp (List.all_eq_true.mp hall n (List.mem_range.mpr hn)) into (List.mem_range.mpr hi)
    simp only [Bool.and_eq_true, decide_eq_true_eq] at this
    exact this
  refine xk_okw (E := ce_0) (ms := cm_ms) (cod := kco_9) hgd.2.1 hgd.2.2.2 (by show (kg_T (0, (129, 0))).all (fun c => c.2.all (fun v => decide (v.1 < 2 → v.2.1 ≤ 457))) = true; decide +kernel) hgd.2.2.1 hgd.1 ce_ok0 rfl cm_ok ce_glob kco_9_ok ?_
  intro p e R s m args below meth c D AC S θ L ρ0 N hy
  have he := kge_all (4 * n + into) (Nat.zero_le _) (by omega)
  unfold kge_b at he
  rw [x1, x2] at he
  refine xw_sg (ρ := ρ0) (hy.ct (kg_ce_ok H.1.1 hn hi)) he fun ρ1 h1 t1 => ?_
  have key : ∀ (k i : Nat), i + k = n → ∀ ρ : Nat → Int, (∀ g, 0 < g → g ≤ 128 → ρ g = ρ0 g) → (∀ j, j < i → ρ (130 + j) = ρ0 (1 + j)) → ρ 458 = (n : Int) → ρ 459 = (into : Int) → xk_W p l e R s m args below meth c (xk_Fin D AC S θ L (xk_rho Φ (kx_dig n into).2.2.2.2.1 ρ0) N (kx_dig n into).2.2.1 (kx_dig n into).2.2.2.1 below s) D AC S θ L cm_9.1.2.2.1 ρ N s.heap 26 (kg_ls (i : Int), [(0, (458, 0)), (0, (0, (i : Int)))], kg_T (0, (0, (i : Int)))) := by
    intro k
    induction k with
    | zero =>
      intro i hk ρ r1 r2 r3 r4
      have hin : i = n := by omega
      subst hin
      refine xw_ic hy (k := .ge) (off := 33) (t := 59) rfl rfl (fun _ => ?_) (fun hh => absurd ?_ hh)
      · refine xk_W.iz (ρ' := ρ) (B := ([(2, (0, (0, (into : Int)))), (0, (2, 0, 0))], [], kg_T (0, (0, (i : Int))))) (fun q hq => ?_) ck_all.nil (ck_all_refl (fun c => ⟨rfl, ck_all_refl (fun v => xk_iz.same) _⟩) _) ?_
        · simp only [List.mem_cons, List.not_mem_nil, or_false] at hq
          rcases hq with rfl | rfl
          · exact ⟨(0, (459, 0)), rfl, xk_iz.cst (by decide) (by decide) r4⟩
          · exact ⟨(2, 0, 0), rfl, xk_iz.same⟩
        · have hx := kgx_all (4 * i + into) (Nat.zero_le _) (by omega)
          unfold kgx_b at hx
          rw [x1, x2] at hx
          refine xw_sg (hy.ct (xk_Cts.one cm_g66 (kx_fin_ok H.1 hn) xk_Cts.nil)) hx fun ρ2 h2 t2 => ?_
          have hc := xk_cv (b := 460) (t := 200 + i) (by
            have := t2 _ List.mem_cons_self
            rw [show 1200 + i = 1000 + (200 + i) by omega] at this
            exact this) (List.range 32) (by
            rw [List.all_eq_true]
            intro r hr
            have hr := List.mem_range.mp hr
            rw [decide_eq_true_eq]
            unfold kwh
            rw [if_neg (by omega), if_pos (by omega)]
            exact hr)
          have ea : ((xn 130 i).map (fun g => ((g, 0) : xk_O))).map (xk_ov ρ2) = (xn 1 i).map ρ0 := by
            unfold xn
            rw [List.map_map, List.map_map, List.map_map]
            refine List.map_congr_left fun j hj => ?_
            have hj := List.mem_range.mp hj
            show (if 130 + j = 0 then (0 : Int) else ρ2 (130 + j)) = ρ0 (1 + j)
            rw [if_neg (by omega), h2 _ (by omega), r2 j hj]
          rw [ea] at hc
          refine xw_fin (ls := []) hy rfl rfl (xk_refl3 (P := fun g => g ≤ 128 ∨ (458 ≤ g ∧ g < 490)) (by
            have hall : (List.range 4).all (fun into => (kg_F into).all (fun c => c.2.all (xk_lw3 (fun g => g ≤ 128 ∨ (458 ≤ g ∧ g < 490))))) = true := by decide +kernel
            exact List.all_eq_true.mp hall into (List.mem_range.mpr hi)) fun g g0 hg => ?_)
          show _ = if g ≤ 457 then ρ0 g else Φ (400 + i) (g - 457 - 1) ((xn 1 i).map ρ0)
          show xk_ov ρ2 (if g ≤ 457 then ((g, 0) : xk_O) else (g + 2, 0)) = _
          rcases hg with hg | hg
          · rw [if_pos (by omega), if_pos (by omega)]
            show (if g = 0 then (0 : Int) else ρ2 g) = _
            rw [if_neg (by omega), h2 g (by omega), r1 g g0 hg]
          · rw [if_neg (by omega), if_neg (by omega)]
            show (if g + 2 = 0 then (0 : Int) else ρ2 (g + 2)) = _
            rw [if_neg (by omega), H.2 i hn, ← H.1.2 i hn]
            have := congrArg (fun l : List Int => l.getD (g - 457 - 1) 0) hc
            rw [List.getD_eq_getElem?_getD, List.getElem?_map, List.getElem?_range (by omega), List.getD_eq_getElem?_getD, List.getElem?_map, List.getElem?_range (by omega)] at this
            have this : ρ2 (460 + (g - 457 - 1)) = Φ (200 + i) (g - 457 - 1) ((xn 1 i).map ρ0) := this
            rw [show 460 + (g - 457 - 1) = g + 2 by omega] at this
            exact this
      · show (xk_ov ρ (458, 0)) ≤ (i : Int)
        show ρ 458 ≤ (i : Int)
        rw [r3]
        exact Int.le_refl _
    | succ k ih =>
      intro i hk ρ r1 r2 r3 r4
      refine xw_ic hy (k := .ge) (off := 33) (t := 59) rfl rfl (fun hh => absurd hh ?_) (fun _ => ?_)
      · show ¬ (ρ 458 ≤ (i : Int))
        rw [r3]
        omega
      · have hb := kgb_all i (Nat.zero_le _) (by omega)
        unfold kgb_b at hb
        refine xw_sg (hy.ct (kf_ad_ok H.1.1 (by omega))) hb fun ρ2 h2 t2 => ?_
        have e0 : ((i : Int) + 1) = ((i + 1 : Nat) : Int) := by omega
        rw [e0]
        have rg : ∀ g, 0 < g → g ≤ 459 → g ≠ 130 + i → xk_rno (fun g => if g = 130 + i then ((1 + i, 0) : xk_O) else (g, 0)) ρ2 g = ρ g := fun g g0 g1 g2 => by
          show xk_ov ρ2 (if g = 130 + i then ((1 + i, 0) : xk_O) else (g, 0)) = _
          rw [if_neg g2]
          show (if g = 0 then (0 : Int) else ρ2 g) = _
          rw [if_neg (by omega), h2 g (by omega)]
        refine ih (i + 1) (by omega) _ (fun g g0 g1 => ?_) (fun j hj => ?_) ?_ ?_
        · rw [rg g g0 (by omega) (by omega), r1 g g0 g1]
        · by_cases z : j = i
          · subst z
            show xk_ov ρ2 (if 130 + j = 130 + j then ((1 + j, 0) : xk_O) else _) = _
            rw [if_pos rfl]
            show (if 1 + j = 0 then (0 : Int) else ρ2 (1 + j)) = _
            rw [if_neg (by omega), h2 _ (by omega), r1 _ (by omega) (by omega)]
          · rw [rg _ (by omega) (by omega) (by omega), r2 j (by omega)]
        · rw [rg _ (by decide) (by decide) (by omega), r3]
        · rw [rg _ (by decide) (by decide) (by omega), r4]
  refine key n 0 (by omega) _ (fun g g0 g1 => ?_) (fun j hj => by omega) ?_ ?_
  · show xk_ov ρ1 (if g ≤ 457 then ((g, 0) : xk_O) else _) = _
    rw [if_pos (by omega)]
    show (if g = 0 then (0 : Int) else ρ1 g) = _
    rw [if_neg (by omega), h1 g (by omega)]
  · rfl
  · rfl
