/-! ===== the class: finish, its function ===== -/
/-- how far it is filled up -/
def kf_cn (n : Nat) : Nat := if n < 56 then 56 else if n < 120 then 120 else 184
def kf_pad (n : Nat) (v : List Int) : List Int := v ++ [128] ++ List.replicate (kf_cn n - n - 1) 0
/-- the state, of the row and its length in bits -/
def kf_st (Φ : Nat → Nat → List Int → Int) (c : Nat) (v : List Int) : List Int := if c = 56 then xk_tf Φ kwh kf_t56 (xn 33 56 ++ [361]) kf_o56 v else if c = 120 then xk_tf Φ kwh kf_t120 (xn 33 120 ++ [361]) kf_o120 v else xk_tf Φ kwh kf_t184 (xn 33 184 ++ [361]) kf_o184 v
/-- the state's bytes -/
def kf_out (v : List Int) : List Int := (List.range 32).map (fun k => xk_sem 3 [xk_sem 8 [v.getD (k / 4) 0, ((24 - 8 * (k % 4) : Nat) : Int)], 255])
def kf_fn (Φ : Nat → Nat → List Int → Int) (n : Nat) (v : List Int) : List Int := kf_out (kf_st Φ (kf_cn n) (kf_pad n v ++ [8 * (n : Int)]))
def kF (Φ : Nat → Nat → List Int → Int) : Prop := kH_37 Φ ∧ ∀ n, n < 129 → ∀ r inp, Φ (200 + n) r inp = (kf_fn Φ n inp).getD r 0
def kx_fin (n : Nat) : xk_K := ([(2, 0, 0), (2, 1, 0)], kf_T (n : Int), none, kf_F, (200 + n, 360, xn 33 n), (1, 23))
section KF
variable {p : Program} {l : Launch} {e : Env} {R : Room} {s : State} {m : MethodId} {args : Array Value} {below : List Frame} {meth : Method} {c : Code} {Q : State → Prop}
variable {D : va_G} {AC : Nat → ClassId} {S : Nat → Nat} {θ : Nat → Value} {L : Heap} {ρ : Nat → Int} {N : List Nat} {H0 : Heap} {Φ : Nat → Nat → List Int → Int}
/-- the state's bytes are written -/
theorem kf_w2 (hy : xk_Hy p l e R s m meth c cm_66.1 1 23 ce_4 cm_ms [] Φ kwh (0, 2147483647) D AC S L s.heap kco_66) {ρ' : Nat → Int} {v : List Int} (hv : (xn 353 8).map ρ = v) (ho : ∀ r, r < 32 → ρ' (361 + r) = (kf_out v).getD r 0) : xk_W p l e R s m args below meth c (xk_Fin D AC S θ L ρ' N none kf_F below s) D AC S θ L cm_66.1.2.2.1 ρ N s.heap 114 (kf_rf, [], kf_T2) := by
  refine xw_sg (hy.ct xk_Cts.nil) kf_s2 fun ρ1 h1 t1 => ?_
  refine xw_fin (ls := []) hy rfl rfl (xk_refl2 (lo := 361) (k := 392) (by decide +kernel) fun g z1 z2 => ?_)
  show xk_ov ρ1 (if g ≤ 360 then ((g, 0) : xk_O) else (363 + 2 * (g - 361), 0)) = _
  rw [if_neg (by omega)]
  obtain ⟨r, rfl⟩ : ∃ r, g = 361 + r := ⟨g - 361, by omega⟩
  have hr : r < 32 := by omega
  rw [ho r hr, Nat.add_sub_cancel_left]
  have hm : ∀ e ∈ [(362 + 2 * r, 8, [(353 + r / 4, 0), (0, ((24 - 8 * (r % 4) : Nat) : Int))]), (363 + 2 * r, 3, [(362 + 2 * r, 0), (0, 255)])], xk_eok Φ kwh ρ1 e := fun e he => t1 e (List.mem_flatMap.mpr ⟨r, List.mem_range.mpr hr, he⟩)
  have e1 : ρ1 (362 + 2 * r) = xk_sem 8 [xk_ov ρ1 (353 + r / 4, 0), ((24 - 8 * (r % 4) : Nat) : Int)] := hm _ List.mem_cons_self
  have e2 : ρ1 (363 + 2 * r) = xk_sem 3 [xk_ov ρ1 (362 + 2 * r, 0), 255] := hm _ (List.mem_cons_of_mem _ List.mem_cons_self)
  have ov : ∀ {g : Nat}, 0 < g → xk_ov ρ1 (g, 0) = ρ1 g := fun {g} h => by
    unfold xk_ov
    rw [if_neg (by show ¬ g = 0; omega)]
  rw [ov (by omega), e2, ov (by omega), e1, ov (by omega), h1 _ (by omega)]
  unfold kf_out
  rw [List.getD_eq_getElem?_getD, List.getElem?_map, List.getElem?_range hr]
  show _ = xk_sem 3 [xk_sem 8 [v.getD (r / 4) 0, ((24 - 8 * (r % 4) : Nat) : Int)], 255]
  rw [← hv]
  have : ((xn 353 8).map ρ).getD (r / 4) 0 = ρ (353 + r / 4) := by
    rw [List.getD_eq_getElem?_getD]
    unfold xn
    rw [List.getElem?_map, List.getElem?_map, List.getElem?_range (by omega)]
    rfl
  rw [this]
/-- from the row filled up to its end -/
theorem kf_w1 (H : kH_37 Φ) (hy : xk_Hy p l e R s m meth c cm_66.1 1 23 ce_4 cm_ms [] Φ kwh (0, 2147483647) D AC S L s.heap kco_66) {ρ' : Nat → Int} {c0 : Nat} (hc : c0 = 56 ∨ c0 = 120 ∨ c0 = 184) (ho : ∀ r, r < 32 → ρ' (361 + r) = (kf_out (kf_st Φ c0 ((xn 33 c0 ++ [361]).map ρ))).getD r 0) : xk_W p l e R s m args below meth c (xk_Fin D AC S θ L ρ' N none kf_F below s) D AC S θ L cm_66.1.2.2.1 ρ N s.heap 23 (kf_l2, [], kf_T (c0 : Int)) := by
  rcases hc with rfl | rfl | rfl
  · have ec : ((56 : Nat) : Int) = 56 := rfl
    rw [ec]
    refine xw_sg (hy.ct xk_Cts.nil) kf_x56 fun ρ1 h1 t1 => ?_
    refine xw_sg (hy.ct (kf_c56_ok H)) kf_s56 fun ρ2 h2 t2 => ?_
    generalize hw : kf_st Φ 56 ((xn 33 56 ++ [361]).map ρ) = w at ho
    refine kf_w2 (ρ' := ρ') hy (v := w) ?_ ho
    rw [← hw]
    have e : (xn 353 8).map (xk_rno kf_r56 ρ2) = kf_o56.map (xk_ov ρ2) := rfl
    have ha : (xn 33 56 ++ [361]).map ρ2 = (xn 33 56 ++ [361]).map ρ := List.map_congr_left fun g hg => by
      have hall : (xn 33 56 ++ [361]).all (fun g => decide (0 < g ∧ g ≤ 361)) = true := by decide +kernel
      have hb := of_decide_eq_true (List.all_eq_true.mp hall g hg)
      rw [h2 g hb.2]
      show (if g = 0 then (0 : Int) else ρ1 g) = ρ g
      rw [if_neg (by omega), h1 g (by omega)]
    rw [e, xk_tf_ok kf_k56 t2, ha]
    rfl
  · have ec : ((120 : Nat) : Int) = 120 := rfl
    rw [ec]
    refine xw_sg (hy.ct xk_Cts.nil) kf_x120 fun ρ1 h1 t1 => ?_
    refine xw_sg (hy.ct (kf_c120_ok H)) kf_s120 fun ρ2 h2 t2 => ?_
    generalize hw : kf_st Φ 120 ((xn 33 120 ++ [361]).map ρ) = w at ho
    refine kf_w2 (ρ' := ρ') hy (v := w) ?_ ho
    rw [← hw]
    have e : (xn 353 8).map (xk_rno kf_r120 ρ2) = kf_o120.map (xk_ov ρ2) := rfl
    have ha : (xn 33 120 ++ [361]).map ρ2 = (xn 33 120 ++ [361]).map ρ := List.map_congr_left fun g hg => by
      have hall : (xn 33 120 ++ [361]).all (fun g => decide (0 < g ∧ g ≤ 361)) = true := by decide +kernel
      have hb := of_decide_eq_true (List.all_eq_true.mp hall g hg)
      rw [h2 g hb.2]
      show (if g = 0 then (0 : Int) else ρ1 g) = ρ g
      rw [if_neg (by omega), h1 g (by omega)]
    rw [e, xk_tf_ok kf_k120 t2, ha]
    rfl
  · have ec : ((184 : Nat) : Int) = 184 := rfl
    rw [ec]
    refine xw_sg (hy.ct xk_Cts.nil) kf_x184 fun ρ1 h1 t1 => ?_
    refine xw_sg (hy.ct (kf_c184_ok H)) kf_s184 fun ρ2 h2 t2 => ?_
    generalize hw : kf_st Φ 184 ((xn 33 184 ++ [361]).map ρ) = w at ho
    refine kf_w2 (ρ' := ρ') hy (v := w) ?_ ho
    rw [← hw]
    have e : (xn 353 8).map (xk_rno kf_r184 ρ2) = kf_o184.map (xk_ov ρ2) := rfl
    have ha : (xn 33 184 ++ [361]).map ρ2 = (xn 33 184 ++ [361]).map ρ := List.map_congr_left fun g hg => by
      have hall : (xn 33 184 ++ [361]).all (fun g => decide (0 < g ∧ g ≤ 361)) = true := by decide +kernel
      have hb := of_decide_eq_true (List.all_eq_true.mp hall g hg)
      rw [h2 g hb.2]
      show (if g = 0 then (0 : Int) else ρ1 g) = ρ g
      rw [if_neg (by omega), h1 g (by omega)]
    rw [e, xk_tf_ok kf_k184 t2, ha]
    rfl
end KF
theorem kx_fin_ok {l : Launch} {Φ : Nat → Nat → List Int → Int} (H : kF Φ) {n : Nat} (hn : n < 129) : xk_Cd l Φ kwh (0, 2147483647) cm_66.1 (kx_fin n) := by
  have hgd : xk_gd kwh (kx_fin n) = true ∧ (kx_fin n).2.1.all (fun c => c.2.all (fun v => decide (v.1 < 2 → v.2.1 ≤ 360))) = true := by
    have hall : (List.range 129).all (fun n => xk_gd kwh (kx_fin n) && (kx_fin n).2.1.all (fun c => c.2.all (fun v => decide (v.1 < 2 → v.2.1 ≤ 360)))) = true := by decide +kernel
    have := List.all_eq_true.mp hall n (List.mem_range.mpr hn)
    simp only [Bool.and_eq_true] at this
    exact this
  refine xk_okw (E := ce_4) (ms := cm_ms) (cod := kco_66) rfl (by show xk_wo [(2, 0, 0), (2, 1, 0)] ≤ cm_66.1.2.2.1; decide) hgd.2 rfl hgd.1 ce_ok4 rfl cm_ok ce_glob kco_66_ok ?_
  intro p e R s m args below meth c D AC S θ L ρ0 N hy
  have he := kfe_all n (Nat.zero_le _) hn
  unfold kfe_b at he
  refine xw_sg (ρ := ρ0) (hy.ct (kf_ad_ok H.1 (by omega))) he fun ρ1 h1 t1 => ?_
  have hcn : kf_cn n = 56 ∨ kf_cn n = 120 ∨ kf_cn n = 184 := by
    unfold kf_cn
    split
    · exact Or.inl rfl
    · split
      · exact Or.inr (Or.inl rfl)
      · exact Or.inr (Or.inr rfl)
  have hcb : n + 1 ≤ kf_cn n ∧ kf_cn n ≤ n + 64 ∧ kf_cn n ≤ 184 ∧ kf_cn n % 64 = 56 ∧ ∀ c, n + 1 ≤ c → c < kf_cn n → c % 64 ≠ 56 := by
    unfold kf_cn
    split
    · exact ⟨by omega, by omega, by omega, by omega, fun c _ _ => by omega⟩
    · split
      · exact ⟨by omega, by omega, by omega, by omega, fun c _ _ => by omega⟩
      · exact ⟨by omega, by omega, by omega, by omega, fun c _ _ => by omega⟩
  -- what stands at the loop's head
  have key : ∀ (k c0 : Nat), c0 + k = kf_cn n → n + 1 ≤ c0 → ∀ ρ : Nat → Int, (∀ j, j < n → ρ (33 + j) = ρ0 (33 + j)) → ρ (33 + n) = 128 → (∀ j, n < j → j < c0 → ρ (33 + j) = 0) → ρ 361 = 8 * (n : Int) → ρ 362 = ((c0 - n - 1 : Nat) : Int) → xk_W p l e R s m args below meth c (xk_Fin D AC S θ L (xk_rho Φ (kx_fin n).2.2.2.2.1 ρ0) N (kx_fin n).2.2.1 (kx_fin n).2.2.2.1 below s) D AC S θ L cm_66.1.2.2.1 ρ N s.heap 20 (kf_l2, [(0, (0, 64)), (0, (362, 0))], kf_T (c0 : Int)) := by
    intro k
    induction k with
    | zero =>
      intro c0 hk hc ρ r1 r2 r3 r4 r5
      refine xw_ic hy (k := .ge) (off := 26) (t := 46) rfl rfl (fun hh => absurd hh ?_) (fun _ => ?_)
      · show ¬ ((64 : Int) ≤ xk_ov ρ (362, 0))
        show ¬ ((64 : Int) ≤ ρ 362)
        rw [r5]
        omega
      · have hc0 : c0 = kf_cn n := by omega
        refine kf_w1 H.1 hy (c0 := c0) (by rw [hc0]; exact hcn) fun r hr => ?_
        show (if 361 + r ≤ 360 then ρ0 (361 + r) else Φ (200 + n) (361 + r - 360 - 1) ((xn 33 n).map ρ0)) = _
        rw [if_neg (by omega), show 361 + r - 360 - 1 = r by omega, H.2 n hn]
        have hp : kf_pad n ((xn 33 n).map ρ0) ++ [8 * (n : Int)] = (xn 33 c0 ++ [361]).map ρ := by
          unfold kf_pad
          rw [← hc0]
          apply List.ext_getElem?
          intro i
          have hx : ∀ {A m : Nat}, i < m → (xn A m)[i]? = some (A + i) := fun {A m} hi => by
            unfold xn
            rw [List.getElem?_map, List.getElem?_range hi]
            rfl
          have lx : ∀ {A m : Nat}, (xn A m).length = m := fun {A m} => by unfold xn; simp
          have lA : ((xn 33 n).map ρ0).length = n := by rw [List.length_map, lx]
          have lB : ((xn 33 n).map ρ0 ++ [128]).length = n + 1 := by rw [List.length_append, lA]; rfl
          have lC : ((xn 33 n).map ρ0 ++ [128] ++ List.replicate (c0 - n - 1) 0).length = c0 := by rw [List.length_append, lB, List.length_replicate]; omega
          rw [List.getElem?_map]
          by_cases i1 : i < c0
          · have eR : (xn 33 c0 ++ [361])[i]? = some (33 + i) := by
              rw [List.getElem?_append_left (by rw [lx]; exact i1)]
              exact hx i1
            rw [eR, List.getElem?_append_left (by rw [lC]; exact i1)]
            show _ = some (ρ (33 + i))
            by_cases i2 : i < n
            · rw [List.getElem?_append_left (by rw [lB]; omega), List.getElem?_append_left (by rw [lA]; exact i2), List.getElem?_map, hx i2]
              show some (ρ0 (33 + i)) = _
              rw [r1 i i2]
            · by_cases i3 : i = n
              · rw [List.getElem?_append_left (by rw [lB]; omega), List.getElem?_append_right (by rw [lA]; omega), lA, i3, r2, Nat.sub_self]
                rfl
              · rw [List.getElem?_append_right (by rw [lB]; omega), lB, List.getElem?_replicate, if_pos (by omega), r3 i (by omega) i1]
          · have eR : (xn 33 c0 ++ [361])[i]? = [361][i - c0]? := by
              rw [List.getElem?_append_right (by rw [lx]; omega), lx]
            rw [eR, List.getElem?_append_right (by rw [lC]; omega), lC]
            by_cases i4 : i - c0 = 0
            · rw [i4]
              show some (8 * (n : Int)) = some (ρ 361)
              rw [r4]
            · rw [List.getElem?_eq_none (by show 1 ≤ i - c0; omega), List.getElem?_eq_none (by show 1 ≤ i - c0; omega)]
              rfl
        have hk : kf_fn Φ n ((xn 33 n).map ρ0) = kf_out (kf_st Φ c0 ((xn 33 c0 ++ [361]).map ρ)) := by
          unfold kf_fn
          rw [← hc0, hp]
        rw [hk]
    | succ k ih =>
      intro c0 hk hc ρ r1 r2 r3 r4 r5
      refine xw_ic hy (k := .ge) (off := 26) (t := 46) rfl rfl (fun hh => absurd hh ?_) (fun _ => ?_)
      · show ¬ ((64 : Int) ≤ ρ 362)
        rw [r5]
        omega
      · have hb := kfb_all c0 (by omega) (by omega)
        unfold kfb_b at hb
        simp only [Bool.or_eq_true, beq_iff_eq] at hb
        rcases hb with hb | hb
        · exact absurd hb (hcb.2.2.2.2 c0 hc (by omega))
        · refine xw_sg (hy.ct (kf_ad_ok H.1 (by omega))) hb fun ρ2 h2 t2 => ?_
          have e0 : ((c0 : Int) + 1) = ((c0 + 1 : Nat) : Int) := by omega
          rw [e0]
          have rg : ∀ g, 0 < g → g ≤ 361 → g ≠ 33 + c0 → xk_rno (fun g => if g = 33 + c0 then ((0, 0) : xk_O) else if g ≤ 361 then (g, 0) else (363, 0)) ρ2 g = ρ g := fun g g0 g1 g2 => by
            show xk_ov ρ2 (if g = 33 + c0 then ((0, 0) : xk_O) else if g ≤ 361 then (g, 0) else (363, 0)) = _
            rw [if_neg g2, if_pos g1]
            show (if g = 0 then (0 : Int) else ρ2 g) = _
            rw [if_neg (by omega), h2 g (by omega)]
          refine ih (c0 + 1) (by omega) (by omega) _ (fun j hj => ?_) ?_ (fun j j1 j2 => ?_) ?_ ?_
          · rw [rg _ (by omega) (by omega) (by omega), r1 j hj]
          · rw [rg _ (by omega) (by omega) (by omega), r2]
          · by_cases hj : j = c0
            · subst hj
              show xk_ov ρ2 (if 33 + j = 33 + j then ((0, 0) : xk_O) else _) = 0
              rw [if_pos rfl]
              rfl
            · rw [rg _ (by omega) (by omega) (by omega), r3 j j1 (by omega)]
          · rw [rg _ (by omega) (by omega) (by omega), r4]
          · show xk_ov ρ2 (if 362 = 33 + c0 then ((0, 0) : xk_O) else if 362 ≤ 361 then (362, 0) else (363, 0)) = _
            rw [if_neg (by omega), if_neg (by decide)]
            have e1 : ρ2 363 = xk_sem 0 [ρ2 362, 1] := t2 (363, 0, [(362, 0), (0, 1)]) List.mem_cons_self
            show ρ2 363 = _
            rw [e1, h2 _ (by decide), r5, kf_p1 (c0 - n - 1) (by omega)]
            omega
  have e0 : ((n : Int) + 1) = ((n + 1 : Nat) : Int) := by omega
  rw [e0]
  have rg : ∀ g, 0 < g → g ≤ 360 → g ≠ 33 + n → xk_rno (fun g => if g = 33 + n then ((0, 128) : xk_O) else if g ≤ 360 then (g, 0) else if g = 361 then (0, 8 * (n : Int)) else (0, 0)) ρ1 g = ρ0 g := fun g g0 g1 g2 => by
    show xk_ov ρ1 (if g = 33 + n then ((0, 128) : xk_O) else if g ≤ 360 then (g, 0) else _) = _
    rw [if_neg g2, if_pos g1]
    show (if g = 0 then (0 : Int) else ρ1 g) = _
    rw [if_neg (by omega), h1 g (by omega)]
  refine key (kf_cn n - (n + 1)) (n + 1) (by omega) (Nat.le_refl _) _ (fun j hj => rg _ (by omega) (by omega) (by omega)) ?_ (fun j j1 j2 => by omega) ?_ ?_
  · show xk_ov ρ1 (if 33 + n = 33 + n then ((0, 128) : xk_O) else _) = 128
    rw [if_pos rfl]
    rfl
  · show xk_ov ρ1 (if 361 = 33 + n then ((0, 128) : xk_O) else if 361 ≤ 360 then (361, 0) else if 361 = 361 then (0, 8 * (n : Int)) else (0, 0)) = _
    rw [if_neg (by omega), if_neg (by decide), if_pos rfl]
    rfl
  · show xk_ov ρ1 (if 362 = 33 + n then ((0, 128) : xk_O) else if 362 ≤ 360 then (362, 0) else if 362 = 361 then (0, 8 * (n : Int)) else (0, 0)) = _
    rw [if_neg (by omega), if_neg (by decide), if_neg (by decide), show n + 1 - n - 1 = 0 by omega]
    rfl
