/-! ===== the reference: mac, its function ===== -/
theorem kmr_w {k : Nat} (hk : k < 4) : kwh (34 + k) = 14368 := by
  match k, hk with
  | 0, _ => rfl
  | 1, _ => rfl
  | 2, _ => rfl
  | 3, _ => rfl
def kMr (Φ : Nat → Nat → List Int → Int) : Prop := kH_37 Φ ∧ ∀ k, k < 4 → ∀ r inp, Φ (1001 + k) r inp = Φ (34 + k) (14305 + 2 * r) inp
def km_mac (k m into : Nat) : xk_K := ([(2, 0, 0), (0, (0, (k : Int))), (0, (0, (m : Int))), (0, (0, (into : Int)))], kmr_T (0, (1, 0)) (0, (2, 0)), none, kmr_F into, (1001 + k, 926, xn (275 + 32 * k) 32 ++ xn (275 + 32 * m) 32), (4, 65))
theorem km_mac_ok {l : Launch} {Φ : Nat → Nat → List Int → Int} (H : kMr Φ) {k m into : Nat} (hk : k < 4) (hm : m < 4) (hi : into < 4) : xk_Cd l Φ kwh (0, 2147483647) cm_162.1 (km_mac k m into) := by
  have x1 : (16 * k + 4 * m + into) / 16 = k := by omega
  have x2 : (16 * k + 4 * m + into) / 4 % 4 = m := by omega
  have x3 : (16 * k + 4 * m + into) % 4 = into := by omega
  have hgd : xk_gd kwh (km_mac k m into) = true ∧ (km_mac k m into).1.all xk_kn = true ∧ (km_mac k m into).1.all (xk_lw 926) = true ∧ xk_wo (km_mac k m into).1 ≤ cm_162.1.2.2.1 := by
    have hall : (List.range 4).all (fun k => (List.range 4).all (fun m => (List.range 4).all (fun into => xk_gd kwh (km_mac k m into) && ((km_mac k m into).1.all xk_kn && ((km_mac k m into).1.all (xk_lw 926) && decide (xk_wo (km_mac k m into).1 ≤ cm_162.1.2.2.1)))))) = true := by decide +kernel
    have := List.all_eq_true.mp (List.all_eq_true.mp (List.all_eq_true.mp hall k (List.mem_range.mpr hk)) m (List.mem_range.mpr hm)) into (List.mem_range.mpr hi)
    simp only [Bool.and_eq_true, decide_eq_true_eq] at this
    exact this
  refine xk_okw (E := ce_12) (ms := cm_ms) (cod := kco_162) hgd.2.1 hgd.2.2.2 (by show (kmr_T (0, (1, 0)) (0, (2, 0))).all (fun c => c.2.all (fun v => decide (v.1 < 2 → v.2.1 ≤ 926))) = true; decide +kernel) hgd.2.2.1 hgd.1 ce_ok12 rfl cm_ok ce_glob kco_162_ok ?_
  intro p e R s m' args below meth c D AC S θ L ρ0 N hy
  have he := kmr_all (16 * k + 4 * m + into) (Nat.zero_le _) (by omega)
  unfold kmr_b at he
  rw [x1, x2, x3] at he
  refine xw_sg (ρ := ρ0) (hy.ct (kmr_c_ok H.1 hk hm hi)) he fun ρ1 h1 t1 => ?_
  have hw := kmr_w hk
  have g2 := xk_cv (b := 927) (t := 34 + k) (by
    have := t1 _ List.mem_cons_self
    rw [show 1034 + k = 1000 + (34 + k) by omega] at this
    exact this) ((List.range 32).map (fun i => 14305 + 2 * i)) (by rw [hw]; decide +kernel)
  have low : ∀ {A : Nat}, A < 4 → ((xn (275 + 32 * A) 32).map (fun g => ((g, 0) : xk_O))).map (xk_ov ρ1) = (xn (275 + 32 * A) 32).map ρ0 := fun {A} hA => by
    unfold xn
    rw [List.map_map, List.map_map, List.map_map]
    refine List.map_congr_left fun j hj => ?_
    have hj := List.mem_range.mp hj
    show (if 275 + 32 * A + j = 0 then (0 : Int) else ρ1 (275 + 32 * A + j)) = ρ0 (275 + 32 * A + j)
    rw [if_neg (by omega), h1 _ (by omega)]
  have ea : ((xn (275 + 32 * k) 32 ++ xn (275 + 32 * m) 32).map (fun g => ((g, 0) : xk_O))).map (xk_ov ρ1) = (xn (275 + 32 * k) 32 ++ xn (275 + 32 * m) 32).map ρ0 := by
    rw [List.map_append, List.map_append, List.map_append, low hk, low hm]
  rw [ea] at g2
  refine xw_fin (ls := []) hy rfl rfl (xk_refl2 (lo := 275) (k := 958) (by
    have hall : (List.range 4).all (fun into => (kmr_F into).all (fun c => c.2.all (xk_lw2 275 958))) = true := by decide +kernel
    exact List.all_eq_true.mp hall into (List.mem_range.mpr hi)) fun g z1 z2 => ?_)
  show _ = if g ≤ 926 then ρ0 g else Φ (1001 + k) (g - 926 - 1) ((xn (275 + 32 * k) 32 ++ xn (275 + 32 * m) 32).map ρ0)
  show xk_ov ρ1 (if g ≤ 926 then ((g, 0) : xk_O) else (15232 + 2 * (g - 927), 0)) = _
  by_cases hg : g ≤ 926
  · rw [if_pos hg, if_pos hg]
    show (if g = 0 then (0 : Int) else ρ1 g) = _
    rw [if_neg (by omega), h1 g (by omega)]
  · rw [if_neg hg, if_neg hg, H.2 k hk]
    obtain ⟨r, rfl⟩ : ∃ r, g = 927 + r := ⟨g - 927, by omega⟩
    have hr : r < 32 := by omega
    rw [Nat.add_sub_cancel_left, show 927 + r - 926 - 1 = r by omega]
    have := congrArg (fun l : List Int => l.getD r 0) g2
    rw [List.map_map, List.map_map, List.getD_eq_getElem?_getD, List.getElem?_map, List.getElem?_range hr, List.getD_eq_getElem?_getD, List.getElem?_map, List.getElem?_range hr] at this
    show (if 15232 + 2 * r = 0 then (0 : Int) else ρ1 (15232 + 2 * r)) = _
    rw [if_neg (by omega), show 15232 + 2 * r = 927 + (14305 + 2 * r) by omega]
    exact this
