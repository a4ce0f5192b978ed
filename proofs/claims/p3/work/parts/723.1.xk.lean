/-! ===== the reference: hashRow, its function ===== -/
def kh_st (Φ : Nat → Nat → List Int → Int) (c : Nat) (v : List Int) : List Int := if c = 56 then xk_tf Φ kwh kh_t56 (xn 1 56 ++ [625]) kh_o56 v else if c = 120 then xk_tf Φ kwh kh_t120 (xn 1 120 ++ [625]) kh_o120 v else xk_tf Φ kwh kh_t184 (xn 1 184 ++ [625]) kh_o184 v
def kh_fn (Φ : Nat → Nat → List Int → Int) (n : Nat) (v : List Int) : List Int := kf_out (kh_st Φ (kf_cn n) (kf_pad n v ++ [(n : Int)]))
def kRw (Φ : Nat → Nat → List Int → Int) : Prop := kH_37 Φ ∧ ∀ n, n < 129 → ∀ r inp, Φ (600 + n) r inp = (kh_fn Φ n inp).getD r 0
def km_row (n into : Nat) : xk_K := ([(2, 0, 0), (0, (0, (n : Int))), (0, (0, ((32 * into : Nat) : Int)))], kh_T, none, kh_F (32 * into), (600 + n, 624, xn 1 n), (2, 34))
section KH
variable {p : Program} {l : Launch} {e : Env} {R : Room} {s : State} {m : MethodId} {args : Array Value} {below : List Frame} {meth : Method} {c : Code} {Q : State → Prop}
variable {D : va_G} {AC : Nat → ClassId} {S : Nat → Nat} {θ : Nat → Value} {L : Heap} {ρ : Nat → Int} {N : List Nat} {H0 : Heap} {Φ : Nat → Nat → List Int → Int}
theorem kh_w2 (hy : xk_Hy p l e R s m meth c cm_149.1 2 34 ce_12 cm_ms [] Φ kwh (0, 2147483647) D AC S L s.heap kco_149) {ρ' : Nat → Int} {v : List Int} {into : Nat} (hi : into < 4) (hv : (xn 257 8).map ρ = v) (hm : ∀ g, 273 ≤ g → g ≤ 624 → ρ' g = ρ g) (h626 : ρ 626 = ((32 * into : Nat) : Int)) (ho : ∀ r, r < 32 → ρ' (625 + r) = (kf_out v).getD r 0) : xk_W p l e R s m args below meth c (xk_Fin D AC S θ L ρ' N none (kh_F (32 * into)) below s) D AC S θ L cm_149.1.2.2.1 ρ N s.heap 138 ([(2, (0, (626, 0))), (0, (2, 0, 0))], [], kh_T) := by
  refine xk_W.loc (by decide) (b := ((32 * into : Nat) : Int)) (by rw [← h626]; rfl) ?_
  have fin : ∀ (ρ1 : Nat → Int), (∀ g, g ≤ 626 → ρ1 g = ρ g) → xk_tok Φ kwh ρ1 kh_t2 → xk_W p l e R s m args below meth c (xk_Fin D AC S θ L ρ' N none (kh_F (32 * into)) below s) D AC S θ L cm_149.1.2.2.1 (xk_rno (fun g => if g ≤ 624 then (g, 0) else (628 + 2 * (g - 625), 0)) ρ1) N s.heap 187 ([], [], kh_F (32 * into)) := by
    intro ρ1 h1 t1
    refine xw_fin (ls := []) hy rfl rfl (xk_refl2 (lo := 273) (k := 656) (by
      have hall : (List.range 4).all (fun into => (kh_F (32 * into)).all (fun c => c.2.all (xk_lw2 273 656))) = true := by decide +kernel
      exact List.all_eq_true.mp hall into (List.mem_range.mpr hi)) fun g z1 z2 => ?_)
    show xk_ov ρ1 (if g ≤ 624 then ((g, 0) : xk_O) else (628 + 2 * (g - 625), 0)) = _
    have ov : ∀ {g : Nat}, 0 < g → xk_ov ρ1 (g, 0) = ρ1 g := fun {g} h => by
      unfold xk_ov
      rw [if_neg (by show ¬ g = 0; omega)]
    by_cases hg : g ≤ 624
    · rw [if_pos hg, ov (by omega), h1 g (by omega), hm g z1 hg]
    · rw [if_neg hg]
      obtain ⟨r, rfl⟩ : ∃ r, g = 625 + r := ⟨g - 625, by omega⟩
      have hr : r < 32 := by omega
      rw [ho r hr, Nat.add_sub_cancel_left]
      have hm : ∀ e ∈ [(627 + 2 * r, 8, [(257 + r / 4, 0), (0, ((24 - 8 * (r % 4) : Nat) : Int))]), (628 + 2 * r, 3, [(627 + 2 * r, 0), (0, 255)])], xk_eok Φ kwh ρ1 e := fun e he => t1 e (List.mem_flatMap.mpr ⟨r, List.mem_range.mpr hr, he⟩)
      have e1 : ρ1 (627 + 2 * r) = xk_sem 8 [xk_ov ρ1 (257 + r / 4, 0), ((24 - 8 * (r % 4) : Nat) : Int)] := hm _ List.mem_cons_self
      have e2 : ρ1 (628 + 2 * r) = xk_sem 3 [xk_ov ρ1 (627 + 2 * r, 0), 255] := hm _ (List.mem_cons_of_mem _ List.mem_cons_self)
      rw [ov (by omega), e2, ov (by omega), e1, ov (by omega), h1 _ (by omega)]
      unfold kf_out
      rw [List.getD_eq_getElem?_getD, List.getElem?_map, List.getElem?_range hr]
      show _ = xk_sem 3 [xk_sem 8 [v.getD (r / 4) 0, ((24 - 8 * (r % 4) : Nat) : Int)], 255]
      rw [← hv]
      have : ((xn 257 8).map ρ).getD (r / 4) 0 = ρ (257 + r / 4) := by
        rw [List.getD_eq_getElem?_getD]
        unfold xn
        rw [List.getElem?_map, List.getElem?_map, List.getElem?_range (by omega)]
        rfl
      rw [this]
  match into, hi, fin with
  | 0, _, fin => exact xw_sg (hy.ct xk_Cts.nil) kh_z0 fin
  | 1, _, fin => exact xw_sg (hy.ct xk_Cts.nil) kh_z1 fin
  | 2, _, fin => exact xw_sg (hy.ct xk_Cts.nil) kh_z2 fin
  | 3, _, fin => exact xw_sg (hy.ct xk_Cts.nil) kh_z3 fin
theorem kh_w1 (H : kH_37 Φ) (hy : xk_Hy p l e R s m meth c cm_149.1 2 34 ce_12 cm_ms [] Φ kwh (0, 2147483647) D AC S L s.heap kco_149) {ρ' : Nat → Int} {into c0 : Nat} (hi : into < 4) (hc : c0 = 56 ∨ c0 = 120 ∨ c0 = 184) (hm : ∀ g, 273 ≤ g → g ≤ 624 → ρ' g = ρ g) (h626 : ρ 626 = ((32 * into : Nat) : Int)) (ho : ∀ r, r < 32 → ρ' (625 + r) = (kf_out (kh_st Φ c0 ((xn 1 c0 ++ [625]).map ρ))).getD r 0) : xk_W p l e R s m args below meth c (xk_Fin D AC S θ L ρ' N none (kh_F (32 * into)) below s) D AC S θ L cm_149.1.2.2.1 ρ N s.heap 14 (kh_ls (c0 : Int), [], kh_T) := by
  rcases hc with rfl | rfl | rfl
  · have ec : ((56 : Nat) : Int) = 56 := rfl
    rw [ec]
    refine xw_sg (hy.ct (kh_c56_ok H)) kh_s56 fun ρ2 h2 t2 => ?_
    have big : ∀ g, 273 ≤ g → g ≤ 626 → xk_rno kh_r56 ρ2 g = ρ g := fun g z1 z2 => by
      show xk_ov ρ2 (if g < 57 then ((g, 0) : xk_O) else if g < 65 then _ else if g < 193 then _ else if g < 257 then _ else if g < 265 then _ else if g < 273 then _ else (g, 0)) = _
      rw [if_neg (by omega), if_neg (by omega), if_neg (by omega), if_neg (by omega), if_neg (by omega), if_neg (by omega)]
      show (if g = 0 then (0 : Int) else ρ2 g) = _
      rw [if_neg (by omega), h2 g z2]
    generalize hw : kh_st Φ 56 ((xn 1 56 ++ [625]).map ρ) = w at ho
    refine kh_w2 (ρ' := ρ') hy hi (v := w) ?_ (fun g z1 z2 => (hm g z1 z2).trans (big g z1 (by omega)).symm) ((big 626 (by decide) (by decide)).trans h626) ho
    rw [← hw]
    have e : (xn 257 8).map (xk_rno kh_r56 ρ2) = kh_o56.map (xk_ov ρ2) := rfl
    have ha : (xn 1 56 ++ [625]).map ρ2 = (xn 1 56 ++ [625]).map ρ := List.map_congr_left fun g hg => by
      have hall : (xn 1 56 ++ [625]).all (fun g => decide (g ≤ 626)) = true := by decide +kernel
      exact h2 g (of_decide_eq_true (List.all_eq_true.mp hall g hg))
    rw [e, xk_tf_ok kh_k56 t2, ha]
    rfl
  · have ec : ((120 : Nat) : Int) = 120 := rfl
    rw [ec]
    refine xw_sg (hy.ct (kh_c120_ok H)) kh_s120 fun ρ2 h2 t2 => ?_
    have big : ∀ g, 273 ≤ g → g ≤ 626 → xk_rno kh_r120 ρ2 g = ρ g := fun g z1 z2 => by
      show xk_ov ρ2 (if g < 121 then ((g, 0) : xk_O) else if g < 129 then _ else if g < 193 then _ else if g < 257 then _ else if g < 265 then _ else if g < 273 then _ else (g, 0)) = _
      rw [if_neg (by omega), if_neg (by omega), if_neg (by omega), if_neg (by omega), if_neg (by omega), if_neg (by omega)]
      show (if g = 0 then (0 : Int) else ρ2 g) = _
      rw [if_neg (by omega), h2 g z2]
    generalize hw : kh_st Φ 120 ((xn 1 120 ++ [625]).map ρ) = w at ho
    refine kh_w2 (ρ' := ρ') hy hi (v := w) ?_ (fun g z1 z2 => (hm g z1 z2).trans (big g z1 (by omega)).symm) ((big 626 (by decide) (by decide)).trans h626) ho
    rw [← hw]
    have e : (xn 257 8).map (xk_rno kh_r120 ρ2) = kh_o120.map (xk_ov ρ2) := rfl
    have ha : (xn 1 120 ++ [625]).map ρ2 = (xn 1 120 ++ [625]).map ρ := List.map_congr_left fun g hg => by
      have hall : (xn 1 120 ++ [625]).all (fun g => decide (g ≤ 626)) = true := by decide +kernel
      exact h2 g (of_decide_eq_true (List.all_eq_true.mp hall g hg))
    rw [e, xk_tf_ok kh_k120 t2, ha]
    rfl
  · have ec : ((184 : Nat) : Int) = 184 := rfl
    rw [ec]
    refine xw_sg (hy.ct (kh_c184_ok H)) kh_s184 fun ρ2 h2 t2 => ?_
    have big : ∀ g, 273 ≤ g → g ≤ 626 → xk_rno kh_r184 ρ2 g = ρ g := fun g z1 z2 => by
      show xk_ov ρ2 (if g < 185 then ((g, 0) : xk_O) else if g < 193 then _ else if g < 193 then _ else if g < 257 then _ else if g < 265 then _ else if g < 273 then _ else (g, 0)) = _
      rw [if_neg (by omega), if_neg (by omega), if_neg (by omega), if_neg (by omega), if_neg (by omega), if_neg (by omega)]
      show (if g = 0 then (0 : Int) else ρ2 g) = _
      rw [if_neg (by omega), h2 g z2]
    generalize hw : kh_st Φ 184 ((xn 1 184 ++ [625]).map ρ) = w at ho
    refine kh_w2 (ρ' := ρ') hy hi (v := w) ?_ (fun g z1 z2 => (hm g z1 z2).trans (big g z1 (by omega)).symm) ((big 626 (by decide) (by decide)).trans h626) ho
    rw [← hw]
    have e : (xn 257 8).map (xk_rno kh_r184 ρ2) = kh_o184.map (xk_ov ρ2) := rfl
    have ha : (xn 1 184 ++ [625]).map ρ2 = (xn 1 184 ++ [625]).map ρ := List.map_congr_left fun g hg => by
      have hall : (xn 1 184 ++ [625]).all (fun g => decide (g ≤ 626)) = true := by decide +kernel
      exact h2 g (of_decide_eq_true (List.all_eq_true.mp hall g hg))
    rw [e, xk_tf_ok kh_k184 t2, ha]
    rfl
end KH
theorem km_row_ok {l : Launch} {Φ : Nat → Nat → List Int → Int} (H : kRw Φ) {n into : Nat} (hn : n < 129) (hi : into < 4) : xk_Cd l Φ kwh (0, 2147483647) cm_149.1 (km_row n into) := by
  have hgd : xk_gd kwh (km_row n into) = true ∧ (km_row n into).1.all xk_kn = true ∧ (km_row n into).1.all (xk_lw 624) = true ∧ xk_wo (km_row n into).1 ≤ cm_149.1.2.2.1 := by
    have hall : (List.range 129).all (fun n => (List.range 4).all (fun into => xk_gd kwh (km_row n into) && ((km_row n into).1.all xk_kn && ((km_row n into).1.all (xk_lw 624) && decide (xk_wo (km_row n into).1 ≤ cm_149.1.2.2.1))))) = true := by decide +kernel
    have := List.all_eq_true.mp (List.all_eq_true.mp hall n (List.mem_range.mpr hn)) into (List.mem_range.mpr hi)
    simp only [Bool.and_eq_true, decide_eq_true_eq] at this
    exact this
  refine xk_okw (E := ce_12) (ms := cm_ms) (cod := kco_149) hgd.2.1 hgd.2.2.2 (by show kh_T.all (fun c => c.2.all (fun v => decide (v.1 < 2 → v.2.1 ≤ 624))) = true; decide +kernel) hgd.2.2.1 hgd.1 ce_ok12 rfl cm_ok ce_glob kco_149_ok ?_
  intro p e R s m args below meth c D AC S θ L ρ0 N hy
  generalize hρ : (fun g => if g = 626 then ((32 * into : Nat) : Int) else ρ0 g) = ρa
  have ra : ∀ g, g ≤ 624 → ρa g = ρ0 g := fun g hg => by
    rw [← hρ]
    show (if g = 626 then _ else ρ0 g) = _
    rw [if_neg (by omega)]
  have ra6 : ρa 626 = ((32 * into : Nat) : Int) := by rw [← hρ]; rfl
  refine xk_W.iz (ρ' := ρa) (B := ([(0, (2, 0, 0)), (1, (0, (0, (n : Int)))), (2, (0, (626, 0)))], [], kh_T)) (fun q hq => ?_) ck_all.nil (xk_refl2 (T := kh_T) (lo := 1) (k := 624) (by decide +kernel) fun g z1 z2 => (ra g z2).symm) ?_
  · simp only [List.mem_cons, List.not_mem_nil, or_false] at hq
    rcases hq with rfl | rfl | rfl
    · exact ⟨(2, 0, 0), rfl, Or.inr ⟨rfl, fun h => by dsimp only at h; omega, fun _ => rfl⟩⟩
    · exact ⟨(0, (0, (n : Int))), rfl, Or.inr ⟨rfl, fun _ => rfl, fun h => by dsimp only at h; omega⟩⟩
    · exact ⟨(0, (0, ((32 * into : Nat) : Int))), rfl, Or.inr ⟨rfl, fun _ => ra6.symm, fun h => by dsimp only at h; omega⟩⟩
  have he := khe_all n (Nat.zero_le _) hn
  unfold khe_b at he
  refine xw_sg (hy.ct xk_Cts.nil) he fun ρ1 h1 t1 => ?_
  have hcn : kf_cn n = 56 ∨ kf_cn n = 120 ∨ kf_cn n = 184 := by
    unfold kf_cn
    split
    · exact Or.inl rfl
    · split
      · exact Or.inr (Or.inl rfl)
      · exact Or.inr (Or.inr rfl)
  have hcb : n + 1 ≤ kf_cn n ∧ kf_cn n ≤ n + 64 ∧ kf_cn n ≤ 184 ∧ kf_cn n % 64 = 56 ∧ ∀ c, n + 1 ≤ c → c < kf_cn n → c % 64 ≠ 56 := by
    unfold kf_cn
    split
    · exact ⟨by omega, by omega, by omega, by omega, fun c _ _ => by omega⟩
    · split
      · exact ⟨by omega, by omega, by omega, by omega, fun c _ _ => by omega⟩
      · exact ⟨by omega, by omega, by omega, by omega, fun c _ _ => by omega⟩
  have key : ∀ (k c0 : Nat), c0 + k = kf_cn n → n + 1 ≤ c0 → ∀ ρ : Nat → Int, (∀ j, j < n → ρ (1 + j) = ρ0 (1 + j)) → ρ (1 + n) = 128 → (∀ j, n < j → j < c0 → ρ (1 + j) = 0) → ρ 625 = (n : Int) → ρ 626 = ((32 * into : Nat) : Int) → (∀ g, 273 ≤ g → g ≤ 624 → ρ g = ρ0 g) → xk_W p l e R s m args below meth c (xk_Fin D AC S θ L (xk_rho Φ (km_row n into).2.2.2.2.1 ρ0) N (km_row n into).2.2.1 (km_row n into).2.2.2.1 below s) D AC S θ L cm_149.1.2.2.1 ρ N s.heap 14 (kh_ls (c0 : Int), [], kh_T) := by
    intro k
    induction k with
    | zero =>
      intro c0 hk hc ρ r1 r2 r3 r4 r5 r6
      have hc0 : c0 = kf_cn n := by omega
      refine kh_w1 H.1 hy hi (c0 := c0) (by rw [hc0]; exact hcn) (fun g z1 z2 => ?_) r5 fun r hr => ?_
      · show (if g ≤ 624 then ρ0 g else Φ (600 + n) (g - 624 - 1) ((xn 1 n).map ρ0)) = _
        rw [if_pos z2, r6 g z1 z2]
      show (if 625 + r ≤ 624 then ρ0 (625 + r) else Φ (600 + n) (625 + r - 624 - 1) ((xn 1 n).map ρ0)) = _
      rw [if_neg (by omega), show 625 + r - 624 - 1 = r by omega, H.2 n hn]
      have hp : kf_pad n ((xn 1 n).map ρ0) ++ [(n : Int)] = (xn 1 c0 ++ [625]).map ρ := by
        unfold kf_pad
        rw [← hc0]
        apply List.ext_getElem?
        intro i
        have hx : ∀ {A m : Nat}, i < m → (xn A m)[i]? = some (A + i) := fun {A m} hi => by
          unfold xn
          rw [List.getElem?_map, List.getElem?_range hi]
          rfl
        have lx : ∀ {A m : Nat}, (xn A m).length = m := fun {A m} => by unfold xn; simp
        have lA : ((xn 1 n).map ρ0).length = n := by rw [List.length_map, lx]
        have lB : ((xn 1 n).map ρ0 ++ [128]).length = n + 1 := by rw [List.length_append, lA]; rfl
        have lC : ((xn 1 n).map ρ0 ++ [128] ++ List.replicate (c0 - n - 1) 0).length = c0 := by rw [List.length_append, lB, List.length_replicate]; omega
        rw [List.getElem?_map]
        by_cases i1 : i < c0
        · have eR : (xn 1 c0 ++ [625])[i]? = some (1 + i) := by
            rw [List.getElem?_append_left (by rw [lx]; exact i1)]
            exact hx i1
          rw [eR, List.getElem?_append_left (by rw [lC]; exact i1)]
          show _ = some (ρ (1 + i))
          by_cases i2 : i < n
          · rw [List.getElem?_append_left (by rw [lB]; omega), List.getElem?_append_left (by rw [lA]; exact i2), List.getElem?_map, hx i2]
            show some (ρ0 (1 + i)) = _
            rw [r1 i i2]
          · by_cases i3 : i = n
            · rw [List.getElem?_append_left (by rw [lB]; omega), List.getElem?_append_right (by rw [lA]; omega), lA, i3, r2, Nat.sub_self]
              rfl
            · rw [List.getElem?_append_right (by rw [lB]; omega), lB, List.getElem?_replicate, if_pos (by omega), r3 i (by omega) i1]
        · have eR : (xn 1 c0 ++ [625])[i]? = [625][i - c0]? := by
            rw [List.getElem?_append_right (by rw [lx]; omega), lx]
          rw [eR, List.getElem?_append_right (by rw [lC]; omega), lC]
          by_cases i4 : i - c0 = 0
          · rw [i4]
            show some (n : Int) = some (ρ 625)
            rw [r4]
          · rw [List.getElem?_eq_none (by show 1 ≤ i - c0; omega), List.getElem?_eq_none (by show 1 ≤ i - c0; omega)]
            rfl
      have hk : kh_fn Φ n ((xn 1 n).map ρ0) = kf_out (kh_st Φ c0 ((xn 1 c0 ++ [625]).map ρ)) := by
        unfold kh_fn
        rw [← hc0, hp]
      rw [hk]
    | succ k ih =>
      intro c0 hk hc ρ r1 r2 r3 r4 r5 r6
      have hb := khb_all c0 (by omega) (by omega)
      unfold khb_b at hb
      simp only [Bool.or_eq_true, beq_iff_eq] at hb
      rcases hb with hb | hb
      · exact absurd hb (hcb.2.2.2.2 c0 hc (by omega))
      · refine xw_sg (hy.ct xk_Cts.nil) hb fun ρ2 h2 t2 => ?_
        have e0 : ((c0 : Int) + 1) = ((c0 + 1 : Nat) : Int) := by omega
        rw [e0]
        have rg : ∀ g, 0 < g → g ≤ 626 → g ≠ 1 + c0 → xk_rno (fun g => if g = 1 + c0 then ((0, 0) : xk_O) else (g, 0)) ρ2 g = ρ g := fun g g0 g1 g2 => by
          show xk_ov ρ2 (if g = 1 + c0 then ((0, 0) : xk_O) else (g, 0)) = _
          rw [if_neg g2]
          show (if g = 0 then (0 : Int) else ρ2 g) = _
          rw [if_neg (by omega), h2 g (by omega)]
        refine ih (c0 + 1) (by omega) (by omega) _ (fun j hj => ?_) ?_ (fun j j1 j2 => ?_) ?_ ?_ (fun g z1 z2 => ?_)
        · rw [rg _ (by omega) (by omega) (by omega), r1 j hj]
        · rw [rg _ (by omega) (by omega) (by omega), r2]
        · by_cases hj : j = c0
          · subst hj
            show xk_ov ρ2 (if 1 + j = 1 + j then ((0, 0) : xk_O) else _) = 0
            rw [if_pos rfl]
            rfl
          · rw [rg _ (by omega) (by omega) (by omega), r3 j j1 (by omega)]
        · rw [rg _ (by omega) (by omega) (by omega), r4]
        · rw [rg _ (by omega) (by omega) (by omega), r5]
        · rw [rg _ (by omega) (by omega) (by omega), r6 g z1 z2]
  have e0 : ((n : Int) + 1) = ((n + 1 : Nat) : Int) := by omega
  rw [e0]
  have rg : ∀ g, 0 < g → g ≤ 626 → g ≠ 1 + n → g ≠ 625 → xk_rno (fun g => if g = 1 + n then ((0, 128) : xk_O) else if g = 625 then (0, (n : Int)) else (g, 0)) ρ1 g = ρa g := fun g g0 g1 g2 g3 => by
    show xk_ov ρ1 (if g = 1 + n then ((0, 128) : xk_O) else if g = 625 then (0, (n : Int)) else (g, 0)) = _
    rw [if_neg g2, if_neg g3]
    show (if g = 0 then (0 : Int) else ρ1 g) = _
    rw [if_neg (by omega), h1 g (by omega)]
  refine key (kf_cn n - (n + 1)) (n + 1) (by omega) (Nat.le_refl _) _ (fun j hj => ?_) ?_ (fun j j1 j2 => by omega) ?_ ?_ (fun g z1 z2 => ?_)
  · rw [rg _ (by omega) (by omega) (by omega) (by omega), ra _ (by omega)]
  · show xk_ov ρ1 (if 1 + n = 1 + n then ((0, 128) : xk_O) else _) = 128
    rw [if_pos rfl]
    rfl
  · show xk_ov ρ1 (if 625 = 1 + n then ((0, 128) : xk_O) else if 625 = 625 then (0, (n : Int)) else (625, 0)) = _
    rw [if_neg (by omega), if_pos rfl]
    rfl
  · rw [rg _ (by omega) (by omega) (by omega) (by omega), ra6]
  · rw [rg _ (by omega) (by omega) (by omega) (by omega), ra g z2]
