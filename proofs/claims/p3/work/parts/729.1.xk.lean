/-! ===== the reference: digest, its function ===== -/
def kS (Φ : Nat → Nat → List Int → Int) : Prop := kRw Φ ∧ ∀ n, n < 129 → ∀ r inp, Φ (800 + n) r inp = (kh_fn Φ n inp).getD r 0
def km_dig (n into : Nat) : xk_K := ([(2, 0, 0), (0, (0, (n : Int))), (0, (0, (into : Int)))], kt_T (0, (1, 0)), none, kt_F (32 * into), (800 + n, 625, xn 274 n), (3, 50))
theorem km_dig_ok {l : Launch} {Φ : Nat → Nat → List Int → Int} (H : kS Φ) {n into : Nat} (hn : n < 129) (hi : into < 4) : xk_Cd l Φ kwh (0, 2147483647) cm_140.1 (km_dig n into) := by
  have x1 : (4 * n + into) / 4 = n := by omega
  have x2 : (4 * n + into) % 4 = into := by omega
  have hgd : xk_gd kwh (km_dig n into) = true ∧ (km_dig n into).1.all xk_kn = true ∧ (km_dig n into).1.all (xk_lw 625) = true ∧ xk_wo (km_dig n into).1 ≤ cm_140.1.2.2.1 := by
    have hall : (List.range 129).all (fun n => (List.range 4).all (fun into => xk_gd kwh (km_dig n into) && ((km_dig n into).1.all xk_kn && ((km_dig n into).1.all (xk_lw 625) && decide (xk_wo (km_dig n into).1 ≤ cm_140.1.2.2.1))))) = true := by decide +kernel
    have := List.all_eq_true.mp (List.all_eq_true.mp hall n (List.mem_range.mpr hn)) into (List.mem_range.mpr hi)
    simp only [Bool.and_eq_true, decide_eq_true_eq] at this
    exact this
  refine xk_okw (E := ce_12) (ms := cm_ms) (cod := kco_140) hgd.2.1 hgd.2.2.2 (by show (kt_T (0, (1, 0))).all (fun c => c.2.all (fun v => decide (v.1 < 2 → v.2.1 ≤ 625))) = true; decide +kernel) hgd.2.2.1 hgd.1 ce_ok12 rfl cm_ok ce_glob kco_140_ok ?_
  intro p e R s m args below meth c D AC S θ L ρ0 N hy
  have he := kte_all (4 * n + into) (Nat.zero_le _) (by omega)
  unfold kte_b at he
  rw [x1, x2] at he
  refine xw_sg (ρ := ρ0) (hy.ct (kt_ce_ok H.1.1 hn hi)) he fun ρ1 h1 t1 => ?_
  have key : ∀ (k i : Nat), i + k = n → ∀ ρ : Nat → Int, (∀ g, 274 ≤ g → g ≤ 625 → ρ g = ρ0 g) → (∀ j, j < i → ρ (2 + j) = ρ0 (274 + j)) → ρ 626 = (n : Int) → ρ 627 = (into : Int) → xk_W p l e R s m args below meth c (xk_Fin D AC S θ L (xk_rho Φ (km_dig n into).2.2.2.2.1 ρ0) N (km_dig n into).2.2.1 (km_dig n into).2.2.2.1 below s) D AC S θ L cm_140.1.2.2.1 ρ N s.heap 34 (kt_ls (i : Int), [(0, (626, 0)), (0, (0, (i : Int)))], kt_T (0, (0, 0))) := by
    intro k
    induction k with
    | zero =>
      intro i hk ρ r1 r2 r3 r4
      have hin : i = n := by omega
      subst hin
      refine xw_ic hy (k := .ge) (off := 21) (t := 55) rfl rfl (fun _ => ?_) (fun hh => absurd ?_ hh)
      · refine xk_W.iz (ρ' := ρ) (B := ([(1, (0, (0, (i : Int)))), (2, (0, (0, (into : Int)))), (0, (2, 0, 0))], [], kt_T (0, (0, 0)))) (fun q hq => ?_) ck_all.nil (ck_all_refl (fun c => ⟨rfl, ck_all_refl (fun v => xk_iz.same) _⟩) _) ?_
        · simp only [List.mem_cons, List.not_mem_nil, or_false] at hq
          rcases hq with rfl | rfl | rfl
          · exact ⟨(0, (626, 0)), rfl, xk_iz.cst (by decide) (by decide) r3⟩
          · exact ⟨(0, (627, 0)), rfl, xk_iz.cst (by decide) (by decide) r4⟩
          · exact ⟨(2, 0, 0), rfl, xk_iz.same⟩
        · have hx := ktx_all (4 * i + into) (Nat.zero_le _) (by omega)
          unfold ktx_b at hx
          rw [x1, x2] at hx
          refine xw_sg (hy.ct (xk_Cts.one cm_g149 (km_row_ok H.1 hn hi) xk_Cts.nil)) hx fun ρ2 h2 t2 => ?_
          have hc := xk_cv (b := 628) (t := 600 + i) (by
            have := t2 _ List.mem_cons_self
            rw [show 1600 + i = 1000 + (600 + i) by omega] at this
            exact this) (List.range 32) (by
            rw [List.all_eq_true]
            intro r hr
            have hr := List.mem_range.mp hr
            rw [decide_eq_true_eq]
            unfold kwh
            rw [if_neg (by omega), if_pos (by omega)]
            exact hr)
          have ea : ((xn 2 i).map (fun g => ((g, 0) : xk_O))).map (xk_ov ρ2) = (xn 274 i).map ρ0 := by
            unfold xn
            rw [List.map_map, List.map_map, List.map_map]
            refine List.map_congr_left fun j hj => ?_
            have hj := List.mem_range.mp hj
            show (if 2 + j = 0 then (0 : Int) else ρ2 (2 + j)) = ρ0 (274 + j)
            rw [if_neg (by omega), h2 _ (by omega), r2 j hj]
          rw [ea] at hc
          refine xw_fin (ls := []) hy rfl rfl (xk_refl2 (lo := 274) (k := 657) (by
            have hall : (List.range 4).all (fun into => (kt_F (32 * into)).all (fun c => c.2.all (xk_lw2 274 657))) = true := by decide +kernel
            exact List.all_eq_true.mp hall into (List.mem_range.mpr hi)) fun g z1 z2 => ?_)
          show _ = if g ≤ 625 then ρ0 g else Φ (800 + i) (g - 625 - 1) ((xn 274 i).map ρ0)
          show xk_ov ρ2 (if g ≤ 625 then ((g, 0) : xk_O) else (g + 2, 0)) = _
          by_cases hg : g ≤ 625
          · rw [if_pos hg, if_pos hg]
            show (if g = 0 then (0 : Int) else ρ2 g) = _
            rw [if_neg (by omega), h2 g (by omega), r1 g z1 hg]
          · rw [if_neg hg, if_neg hg]
            show (if g + 2 = 0 then (0 : Int) else ρ2 (g + 2)) = _
            rw [if_neg (by omega), H.2 i hn, ← H.1.2 i hn]
            have := congrArg (fun l : List Int => l.getD (g - 625 - 1) 0) hc
            rw [List.getD_eq_getElem?_getD, List.getElem?_map, List.getElem?_range (by omega), List.getD_eq_getElem?_getD, List.getElem?_map, List.getElem?_range (by omega)] at this
            have this : ρ2 (628 + (g - 625 - 1)) = Φ (600 + i) (g - 625 - 1) ((xn 274 i).map ρ0) := this
            rw [show 628 + (g - 625 - 1) = g + 2 by omega] at this
            exact this
      · show ρ 626 ≤ (i : Int)
        rw [r3]
        exact Int.le_refl _
    | succ k ih =>
      intro i hk ρ r1 r2 r3 r4
      refine xw_ic hy (k := .ge) (off := 21) (t := 55) rfl rfl (fun hh => absurd hh ?_) (fun _ => ?_)
      · show ¬ (ρ 626 ≤ (i : Int))
        rw [r3]
        omega
      · have hb := ktb_all i (Nat.zero_le _) (by omega)
        unfold ktb_b at hb
        refine xw_sg (hy.ct xk_Cts.nil) hb fun ρ2 h2 t2 => ?_
        have e0 : ((i : Int) + 1) = ((i + 1 : Nat) : Int) := by omega
        rw [e0]
        have rg : ∀ g, 0 < g → g ≤ 627 → g ≠ 2 + i → xk_rno (fun g => if g = 2 + i then ((274 + i, 0) : xk_O) else (g, 0)) ρ2 g = ρ g := fun g g0 g1 g2 => by
          show xk_ov ρ2 (if g = 2 + i then ((274 + i, 0) : xk_O) else (g, 0)) = _
          rw [if_neg g2]
          show (if g = 0 then (0 : Int) else ρ2 g) = _
          rw [if_neg (by omega), h2 g (by omega)]
        refine ih (i + 1) (by omega) _ (fun g g0 g1 => ?_) (fun j hj => ?_) ?_ ?_
        · rw [rg g (by omega) (by omega) (by omega), r1 g g0 g1]
        · by_cases z : j = i
          · subst z
            show xk_ov ρ2 (if 2 + j = 2 + j then ((274 + j, 0) : xk_O) else _) = _
            rw [if_pos rfl]
            show (if 274 + j = 0 then (0 : Int) else ρ2 (274 + j)) = _
            rw [if_neg (by omega), h2 _ (by omega), r1 _ (by omega) (by omega)]
          · rw [rg _ (by omega) (by omega) (by omega), r2 j (by omega)]
        · rw [rg _ (by decide) (by decide) (by omega), r3]
        · rw [rg _ (by decide) (by decide) (by omega), r4]
  refine key n 0 (by omega) _ (fun g g0 g1 => ?_) (fun j hj => by omega) ?_ ?_
  · show xk_ov ρ1 (if g ≤ 625 then ((g, 0) : xk_O) else _) = _
    rw [if_pos g1]
    show (if g = 0 then (0 : Int) else ρ1 g) = _
    rw [if_neg (by omega), h1 g (by omega)]
  · rfl
  · rfl
