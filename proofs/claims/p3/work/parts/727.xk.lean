/-! ===== the reference: mac ===== -/
def kmr_T (f g : xk_V) : List xk_C := [((0, 11), [f, (5, 1, 0), (2, 6, 0), (2, 1, 0), (2, 7, 0), g, (2, 5, 0), (2, 3, 0), (2, 4, 0), (2, 2, 0), (5, 10, 0), (5, 11, 0), (5, 12, 0), (5, 13, 0), (5, 14, 0), (5, 15, 0), (5, 16, 0), (5, 17, 0), (5, 18, 0), (5, 19, 0), (5, 20, 0), (5, 21, 0), (5, 22, 0), (5, 23, 0), (5, 24, 0), (5, 25, 0), (5, 26, 0), (5, 27, 0), (5, 28, 0), (5, 29, 0), (5, 30, 0), (5, 31, 0), (5, 32, 0), (5, 33, 0), (5, 34, 0), (5, 35, 0), (5, 36, 0)]), ((512, 0), xi 3 192), ((1, 0), xi 195 64), ((1, 0), xi 259 8), ((1, 0), xi 267 8), kh_kc, ((6000, 0), xi 275 352), ((1, 0), xi 627 300)]
def kmr_mem (into : Nat) : List xk_V := (List.range 352).map (fun j => if 32 * into ≤ j ∧ j < 32 * into + 32 then (0, (927 + (j - 32 * into), 0)) else if (160 ≤ j ∧ j < 192) ∨ (224 ≤ j ∧ j < 256) then (4, (0, 0)) else (0, (275 + j, 0)))
def kmr_F (into : Nat) : List xk_C := (let f : xk_V := (0, (0, 0)); let g : xk_V := (4, (0, 0)); [((0, 11), [f, (5, 1, 0), (2, 6, 0), (2, 1, 0), (2, 7, 0), g, (2, 5, 0), (2, 3, 0), (2, 4, 0), (2, 2, 0), (5, 10, 0), (5, 11, 0), (5, 12, 0), (5, 13, 0), (5, 14, 0), (5, 15, 0), (5, 16, 0), (5, 17, 0), (5, 18, 0), (5, 19, 0), (5, 20, 0), (5, 21, 0), (5, 22, 0), (5, 23, 0), (5, 24, 0), (5, 25, 0), (5, 26, 0), (5, 27, 0), (5, 28, 0), (5, 29, 0), (5, 30, 0), (5, 31, 0), (5, 32, 0), (5, 33, 0), (5, 34, 0), (5, 35, 0), (5, 36, 0)]), ((512, 0), List.replicate 192 (4, 0, 0)), ((1, 0), List.replicate 64 (4, 0, 0)), ((1, 0), List.replicate 8 (4, 0, 0)), ((1, 0), List.replicate 8 (4, 0, 0)), kh_kc, ((6000, 0), kmr_mem into), ((1, 0), List.replicate 300 (4, 0, 0))])
def kmr_sk (m : Nat) : xk_K := if m = 0 then km_sayk0 else if m = 1 then km_sayk1 else if m = 2 then km_sayk2 else km_sayk3
def kmr_mk (k : Nat) : xk_K := if k = 0 then km_mark0 else if k = 1 then km_mark1 else if k = 2 then km_mark2 else km_mark3
def kmr_cp (i : Nat) : xk_K := if i = 0 then km_copy0 else if i = 1 then km_copy1 else if i = 2 then km_copy2 else km_copy3
def kmr_c (k m into : Nat) : List xk_Q := [(153, (99, 0), kz_4 k), (153, (99, 0), kz_4 m), (153, (99, 0), kz_4 into), (177, (99, 0), km_refused), (136, (99, 0), km_clear), (181, (5, 0), kmr_sk m), (166, (99, 0), kmr_mk k), (138, (99, 0), kmr_cp into)]
theorem kmr_sk_ok {l : Launch} {Φ : Nat → Nat → List Int → Int} (H : kH_37 Φ) {k : Nat} (hk : k < 4) : xk_Cd l Φ kwh (0, 2147483647) cm_181.1 (kmr_sk k) := by
  match k, hk with
  | 0, _ => exact (km_sayk0_ok H.1.1.1.1.1.1.1.1.1.1.1.1.1.1).wd rfl
  | 1, _ => exact (km_sayk1_ok H.1.1.1.1.1.1.1.1.1.1.1.1.1.1).wd rfl
  | 2, _ => exact (km_sayk2_ok H.1.1.1.1.1.1.1.1.1.1.1.1.1.1).wd rfl
  | 3, _ => exact (km_sayk3_ok H.1.1.1.1.1.1.1.1.1.1.1.1.1.1).wd rfl
theorem kmr_mk_ok {l : Launch} {Φ : Nat → Nat → List Int → Int} (H : kH_37 Φ) {k : Nat} (hk : k < 4) : xk_Cd l Φ kwh (0, 2147483647) cm_166.1 (kmr_mk k) := by
  match k, hk with
  | 0, _ => exact (km_mark0_ok H.1.1.1).wd rfl
  | 1, _ => exact (km_mark1_ok H.1.1).wd rfl
  | 2, _ => exact (km_mark2_ok H.1).wd rfl
  | 3, _ => exact (km_mark3_ok H).wd rfl
theorem kmr_cp_ok {l : Launch} {Φ : Nat → Nat → List Int → Int} (H : kH_37 Φ) {k : Nat} (hk : k < 4) : xk_Cd l Φ kwh (0, 2147483647) cm_138.1 (kmr_cp k) := by
  match k, hk with
  | 0, _ => exact (km_copy0_ok H).wd rfl
  | 1, _ => exact (km_copy1_ok H).wd rfl
  | 2, _ => exact (km_copy2_ok H).wd rfl
  | 3, _ => exact (km_copy3_ok H).wd rfl
theorem kmr_c_ok {l : Launch} {Φ : Nat → Nat → List Int → Int} (H : kH_37 Φ) {k m into : Nat} (hk : k < 4) (hm : m < 4) (hi : into < 4) : xk_Cts l Φ kwh (0, 2147483647) cm_ms (kmr_c k m into) := xk_Cts.one cm_g153 (kz_4_ok H.1.1.1.1.1.1.1.1.1.1.1.1.1.1.1.1.1.1.1.1.1.1.1.1.1.1.1.1.1.1.1.1.1.1.1.1.1 k hk) (xk_Cts.one cm_g153 (kz_4_ok H.1.1.1.1.1.1.1.1.1.1.1.1.1.1.1.1.1.1.1.1.1.1.1.1.1.1.1.1.1.1.1.1.1.1.1.1.1 m hm) (xk_Cts.one cm_g153 (kz_4_ok H.1.1.1.1.1.1.1.1.1.1.1.1.1.1.1.1.1.1.1.1.1.1.1.1.1.1.1.1.1.1.1.1.1.1.1.1.1 into hi) (xk_Cts.one cm_g177 ((km_refused_ok H.1.1.1.1.1.1.1.1.1.1.1.1.1.1).wd rfl) (xk_Cts.one cm_g136 ((km_clear_ok H.1.1.1.1.1.1.1.1.1.1.1.1.1.1).wd rfl) (xk_Cts.one cm_g181 (kmr_sk_ok H hm) (xk_Cts.one cm_g166 (kmr_mk_ok H hk) (xk_Cts.one cm_g138 (kmr_cp_ok H hi) xk_Cts.nil)))))))
def kmr_b (x : Nat) : Bool := xk_sg ce_12 cm_ms (kmr_c (x / 16) (x / 4 % 4) (x % 4)) kco_162 cm_162.1 4 65 kwh [70] 41 926 (0, [(0, (2, 0, 0)), (1, (0, (0, ((x / 16 : Nat) : Int)))), (2, (0, (0, ((x / 4 % 4 : Nat) : Int)))), (3, (0, (0, ((x % 4 : Nat) : Int))))], [], kmr_T (0, (1, 0)) (0, (2, 0)), [], 927) [(927, 1034 + x / 16, (xn (275 + 32 * (x / 16)) 32 ++ xn (275 + 32 * (x / 4 % 4)) 32).map (fun g => (g, 0)))] (fun g => if g ≤ 926 then (g, 0) else (15232 + 2 * (g - 927), 0)) 70 ([], [], kmr_F (x % 4))
theorem kmr_a0 : (List.range 8).all (fun c => kmr_b (0 + c)) = true := by decide +kernel
theorem kmr_a1 : (List.range 8).all (fun c => kmr_b (8 + c)) = true := by decide +kernel
theorem kmr_a2 : (List.range 8).all (fun c => kmr_b (16 + c)) = true := by decide +kernel
theorem kmr_a3 : (List.range 8).all (fun c => kmr_b (24 + c)) = true := by decide +kernel
theorem kmr_a4 : (List.range 8).all (fun c => kmr_b (32 + c)) = true := by decide +kernel
theorem kmr_a5 : (List.range 8).all (fun c => kmr_b (40 + c)) = true := by decide +kernel
theorem kmr_a6 : (List.range 8).all (fun c => kmr_b (48 + c)) = true := by decide +kernel
theorem kmr_a7 : (List.range 8).all (fun c => kmr_b (56 + c)) = true := by decide +kernel
theorem kmr_all (c : Nat) (h0 : 0 ≤ c) (hc : c < 64) : kmr_b c = true := by
  by_cases h0 : c < 8
  · exact xk_ran kmr_a0 (by omega) (by omega)
  by_cases h1 : c < 16
  · exact xk_ran kmr_a1 (by omega) (by omega)
  by_cases h2 : c < 24
  · exact xk_ran kmr_a2 (by omega) (by omega)
  by_cases h3 : c < 32
  · exact xk_ran kmr_a3 (by omega) (by omega)
  by_cases h4 : c < 40
  · exact xk_ran kmr_a4 (by omega) (by omega)
  by_cases h5 : c < 48
  · exact xk_ran kmr_a5 (by omega) (by omega)
  by_cases h6 : c < 56
  · exact xk_ran kmr_a6 (by omega) (by omega)
  exact xk_ran kmr_a7 (by omega) (by omega)
def kMr (Φ : Nat → Nat → List Int → Int) : Prop := kH_37 Φ ∧ ∀ k, k < 4 → ∀ r inp, Φ (1001 + k) r inp = Φ (34 + k) (14305 + 2 * r) inp
def km_mac (k m into : Nat) : xk_K := ([(2, 0, 0), (0, (0, (k : Int))), (0, (0, (m : Int))), (0, (0, (into : Int)))], kmr_T (0, (1, 0)) (0, (2, 0)), none, kmr_F into, (1001 + k, 926, xn (275 + 32 * k) 32 ++ xn (275 + 32 * m) 32), (4, 65))
theorem km_mac_ok {l : Launch} {Φ : Nat → Nat → List Int → Int} (H : kMr Φ) {k m into : Nat} (hk : k < 4) (hm : m < 4) (hi : into < 4) : xk_Cd l Φ kwh (0, 2147483647) cm_162.1 (km_mac k m into) := by
  have x1 : (16 * k + 4 * m + into) / 16 = k := by omega
  have x2 : (16 * k + 4 * m + into) / 4 % 4 = m := by omega
  have x3 : (16 * k + 4 * m + into) % 4 = into := by omega
  have hgd : xk_gd kwh (km_mac k m into) = true ∧ (km_mac k m into).1.all xk_kn = true ∧ (km_mac k m into).1.all (xk_lw 926) = true ∧ xk_wo (km_mac k m into).1 ≤ cm_162.1.2.2.1 := by
    have hall : (List.range 4).all (fun k => (List.range 4).all (fun m => (List.range 4).all (fun into => xk_gd kwh (km_mac k m into) && ((km_mac k m into).1.all xk_kn && ((km_mac k m into).1.all (xk_lw 926) && decide (xk_wo (km_mac k m into).1 ≤ cm_162.1.2.2.1)))))) = true := by decide +kernel
    have := List.all_eq_true.mp (List.all_eq_true.mp (List.all_eq_true.mp hall k (List.mem_range.mpr hk)) m (List.mem_range.mpr hm)) into (List.mem_range.mpr hi)
    simp only [Bool.and_eq_true, decide_eq_true_eq] at this
    exact this
  refine xk_okw (E := ce_12) (ms := cm_ms) (cod := kco_162) hgd.2.1 hgd.2.2.2 (by show (kmr_T (0, (1, 0)) (0, (2, 0))).all (fun c => c.2.all (fun v => decide (v.1 < 2 → v.2.1 ≤ 926))) = true; decide +kernel) hgd.2.2.1 hgd.1 ce_ok12 rfl cm_ok ce_glob kco_162_ok ?_
  intro p e R s m' args below meth c D AC S θ L ρ0 N hy
  have he := kmr_all (16 * k + 4 * m + into) (Nat.zero_le _) (by omega)
  unfold kmr_b at he
  rw [x1, x2, x3] at he
  refine xw_sg (ρ := ρ0) (hy.ct (kmr_c_ok H.1 hk hm hi)) he fun ρ1 h1 t1 => ?_
  have hw : kwh (34 + k) = 14368 := by
    match k, hk with
    | 0, _ => rfl
    | 1, _ => rfl
    | 2, _ => rfl
    | 3, _ => rfl
  have g2 := xk_cv (b := 927) (t := 34 + k) (by
    have := t1 _ List.mem_cons_self
    rw [show 1034 + k = 1000 + (34 + k) by omega] at this
    exact this) ((List.range 32).map (fun i => 14305 + 2 * i)) (by rw [hw]; decide +kernel)
  have low : ∀ {A : Nat}, A < 4 → ((xn (275 + 32 * A) 32).map (fun g => ((g, 0) : xk_O))).map (xk_ov ρ1) = (xn (275 + 32 * A) 32).map ρ0 := fun {A} hA => by
    unfold xn
    rw [List.map_map, List.map_map, List.map_map]
    refine List.map_congr_left fun j hj => ?_
    have hj := List.mem_range.mp hj
    show (if 275 + 32 * A + j = 0 then (0 : Int) else ρ1 (275 + 32 * A + j)) = ρ0 (275 + 32 * A + j)
    rw [if_neg (by omega), h1 _ (by omega)]
  have ea : ((xn (275 + 32 * k) 32 ++ xn (275 + 32 * m) 32).map (fun g => ((g, 0) : xk_O))).map (xk_ov ρ1) = (xn (275 + 32 * k) 32 ++ xn (275 + 32 * m) 32).map ρ0 := by
    rw [List.map_append, List.map_append, List.map_append, low hk, low hm]
  rw [ea] at g2
  refine xw_fin (ls := []) hy rfl rfl (xk_refl2 (lo := 275) (k := 958) (by
    have hall : (List.range 4).all (fun into => (kmr_F into).all (fun c => c.2.all (xk_lw2 275 958))) = true := by decide +kernel
    exact List.all_eq_true.mp hall into (List.mem_range.mpr hi)) fun g z1 z2 => ?_)
  show _ = if g ≤ 926 then ρ0 g else Φ (1001 + k) (g - 926 - 1) ((xn (275 + 32 * k) 32 ++ xn (275 + 32 * m) 32).map ρ0)
  show xk_ov ρ1 (if g ≤ 926 then ((g, 0) : xk_O) else (15232 + 2 * (g - 927), 0)) = _
  by_cases hg : g ≤ 926
  · rw [if_pos hg, if_pos hg]
    show (if g = 0 then (0 : Int) else ρ1 g) = _
    rw [if_neg (by omega), h1 g (by omega)]
  · rw [if_neg hg, if_neg hg, H.2 k hk]
    obtain ⟨r, rfl⟩ : ∃ r, g = 927 + r := ⟨g - 927, by omega⟩
    have hr : r < 32 := by omega
    rw [Nat.add_sub_cancel_left, show 927 + r - 926 - 1 = r by omega]
    have := congrArg (fun l : List Int => l.getD r 0) g2
    rw [List.map_map, List.map_map, List.getD_eq_getElem?_getD, List.getElem?_map, List.getElem?_range hr, List.getD_eq_getElem?_getD, List.getElem?_map, List.getElem?_range hr] at this
    show (if 15232 + 2 * r = 0 then (0 : Int) else ρ1 (15232 + 2 * r)) = _
    rw [if_neg (by omega), show 15232 + 2 * r = 927 + (14305 + 2 * r) by omega]
    exact this
