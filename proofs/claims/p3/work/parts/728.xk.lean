/-! ===== mac: the class's and the reference's are one ===== -/
def kq_tl : List Int := [128] ++ List.replicate 23 0 ++ [0, 0, 0, 0, 0, 0, 3, 0]
/-- of 96 bytes -/
def kq_96 (Φ : Nat → Nat → List Int → Int) (B : List Int) : List Int := kf_out (ks_120 Φ (B ++ kq_tl))
def kq_px (w : Int) (B : List Int) : List Int := B.map (fun v => xk_sem 5 [v, w])
def kq_o : List Nat := (List.range 32).map (fun i => 7089 + 2 * i)
section KQ
variable {Φ : Nat → Nat → List Int → Int}
theorem kq_in {n : Nat} {wd : Nat → Nat} {ag : List Nat} {tb : List xk_E} {inp : List Int} {ν : Nat → Int} (hn : ag.Nodup) (hl : ag.length = inp.length) (ha : ag.all (fun g => decide (g ≤ n)) = true) (t1 : ∀ g, g ≤ n → ν g = xk_pos ag inp g) : ag.map ν = inp := by
  have h : ag.map ν = ag.map (fun g => xk_pos ag inp g) := List.map_congr_left fun g hg => t1 g (of_decide_eq_true (List.all_eq_true.mp ha g hg))
  rw [h]
  exact xk_pos_map hn hl
theorem kq_by {wd : Nat → Nat} {ν : Nat → Int} {tb : List xk_E} {a b : Nat} (ht : ∀ k, k < 32 → ν (a + 2 * k) = xk_sem 8 [ν (b + k / 4), ((24 - 8 * (k % 4) : Nat) : Int)] ∧ ν (a + 2 * k + 1) = xk_sem 3 [ν (a + 2 * k), 255]) : (List.range 32).map (fun k => ν (a + 2 * k + 1)) = kf_out ((xn b 8).map ν) := by
  unfold kf_out
  refine List.map_congr_left fun k hk => ?_
  have hk := List.mem_range.mp hk
  obtain ⟨h1, h2⟩ := ht k hk
  have : ((xn b 8).map ν).getD (k / 4) 0 = ν (b + k / 4) := by
    rw [List.getD_eq_getElem?_getD]
    unfold xn
    rw [List.getElem?_map, List.getElem?_map, List.getElem?_range (by omega)]
    rfl
  rw [h2, h1, this]
theorem kq_t9 : kx_fin96_g.drop 4 = (List.range 32).flatMap (fun k => [(7449 + 2 * k, 8, [(7441 + k / 4, 0), (0, ((24 - 8 * (k % 4) : Nat) : Int))]), (7449 + 2 * k + 1, 3, [(7449 + 2 * k, 0), (0, 255)])]) := by decide +kernel
theorem kq_a9_0 : kx_fin96_g[0]? = some (361, 1001, (xn 33 64).map (fun g => (g, 0))) := by decide +kernel
theorem kq_a9_1 : kx_fin96_g[1]? = some (1465, 1005, kd_oF.map (fun r => (361 + r, 0)) ++ ks_iv.map (fun v => (0, v))) := by decide +kernel
theorem kq_a9_2 : kx_fin96_g[2]? = some (3905, 1002, (xn 97 32).map (fun g => (g, 0)) ++ kq_tl.map (fun v => (0, v))) := by decide +kernel
theorem kq_a9_3 : kx_fin96_g[3]? = some (5009, 1005, kd_oF.map (fun r => (3905 + r, 0)) ++ kd_oM.map (fun r => (1465 + r, 0))) := by decide +kernel
theorem kq_9 (H : kH_37 Φ) {B : List Int} (hB : B.length = 96) : kq_o.map (fun r => Φ 9 r B) = kq_96 Φ B := by
  obtain ⟨t1, t2⟩ := xk_tv_ok (Φ := Φ) (wd := kwd) (n := 360) (ag := xn 33 96) (tb := kx_fin96_g) (by decide +kernel) B
  have e0 : kq_o.map (fun r => Φ 9 r B) = kq_o.map (fun r => xk_tv Φ kwd kx_fin96_g (xn 33 96) B (361 + r)) := List.map_congr_left fun r _ => by
    rw [H.1.1.1.1.1.1.1.1.1.1.1.1.1.1.1.1.1.1.1.1.1.1.1.1.1.1.1.1.2]
    rfl
  rw [e0]
  generalize xk_tv Φ kwd kx_fin96_g (xn 33 96) B = ν at t1 t2
  have i1 : (xn 33 96).map ν = B := kq_in (wd := kwd) (tb := kx_fin96_g) (xn_nodup 33 96) (by rw [hB]; rfl) (by decide +kernel) t1
  subst i1
  have g0 := xk_cv (b := 361) (t := 1) (t2 _ (List.mem_of_getElem? kq_a9_0)) kd_oF (by decide +kernel)
  have h0 := xk_cv (b := 1465) (t := 5) (t2 _ (List.mem_of_getElem? kq_a9_1)) kd_oM (by decide +kernel)
  have g1 := xk_cv (b := 3905) (t := 2) (t2 _ (List.mem_of_getElem? kq_a9_2)) kd_oF (by decide +kernel)
  have h1 := xk_cv (b := 5009) (t := 5) (t2 _ (List.mem_of_getElem? kq_a9_3)) kd_oM (by decide +kernel)
  have u0 : kd_oF.map (fun r => ν (361 + r)) = kd_oF.map (fun r => Φ 1 r ((xn 33 64).map ν)) := g0
  have w0 : kd_oM.map (fun r => ν (1465 + r)) = ks_b Φ 21 ((xn 33 64).map ν) ks_iv := by
    rw [kd_cb0 H rfl rfl, ← u0]
    exact h0
  have u1 : kd_oF.map (fun r => ν (3905 + r)) = kd_oF.map (fun r => Φ 2 r ((xn 97 32).map ν ++ kq_tl)) := g1
  have w1 : kd_oM.map (fun r => ν (5009 + r)) = ks_b Φ 22 ((xn 97 32).map ν ++ kq_tl) (ks_b Φ 21 ((xn 33 64).map ν) ks_iv) := by
    rw [kd_cb64 H rfl rfl, ← u1, ← w0]
    exact h1
  have hb := kq_by (wd := kwd) (tb := kx_fin96_g) (ν := ν) (a := 7449) (b := 7441) fun k hk => by
    have hm : ∀ e ∈ [(7449 + 2 * k, 8, [(7441 + k / 4, 0), (0, ((24 - 8 * (k % 4) : Nat) : Int))]), (7449 + 2 * k + 1, 3, [(7449 + 2 * k, 0), (0, 255)])], xk_eok Φ kwd ν e := fun e he => t2 e (List.mem_of_mem_drop (i := 4) (by
      rw [kq_t9]
      exact List.mem_flatMap.mpr ⟨k, List.mem_range.mpr hk, he⟩))
    have e1 : ν (7449 + 2 * k) = xk_sem 8 [xk_ov ν (7441 + k / 4, 0), ((24 - 8 * (k % 4) : Nat) : Int)] := hm _ List.mem_cons_self
    have e2 : ν (7449 + 2 * k + 1) = xk_sem 3 [xk_ov ν (7449 + 2 * k, 0), 255] := hm _ (List.mem_cons_of_mem _ List.mem_cons_self)
    have ov : ∀ {g : Nat}, 0 < g → xk_ov ν (g, 0) = ν g := fun {g} h => by
      unfold xk_ov
      rw [if_neg (by show ¬ g = 0; omega)]
    rw [ov (by omega)] at e1 e2
    exact ⟨e1, e2⟩
  have o1 : kq_o.map (fun r => ν (361 + r)) = (List.range 32).map (fun k => ν (7449 + 2 * k + 1)) := by
    unfold kq_o
    rw [List.map_map]
    refine List.map_congr_left fun k _ => ?_
    show ν (361 + (7089 + 2 * k)) = _
    rw [show 361 + (7089 + 2 * k) = 7449 + 2 * k + 1 by omega]
  have o2 : (xn 7441 8).map ν = kd_oM.map (fun r => ν (5009 + r)) := rfl
  rw [o1, hb, o2, w1]
  rfl
theorem kq_t32 : km_row96_160_g.drop 2 = (List.range 32).flatMap (fun k => [(7713 + 2 * k, 8, [(7705 + k / 4, 0), (0, ((24 - 8 * (k % 4) : Nat) : Int))]), (7713 + 2 * k + 1, 3, [(7713 + 2 * k, 0), (0, 255)])]) := by decide +kernel
theorem kq_a32 : km_row96_160_g[0]? = some (625, 1021, (xn 1 64).map (fun g => (g, 0)) ++ ks_iv.map (fun v => (0, v))) ∧ km_row96_160_g[1]? = some (4169, 1022, (xn 65 32).map (fun g => (g, 0)) ++ kq_tl.map (fun v => (0, v)) ++ (xn 4161 8).map (fun g => (g, 0))) := by decide +kernel
theorem kq_32 (H : kH_37 Φ) {B : List Int} (hB : B.length = 96) : kq_o.map (fun r => Φ 32 r B) = kq_96 Φ B := by
  obtain ⟨t1, t2⟩ := xk_tv_ok (Φ := Φ) (wd := kwd) (n := 624) (ag := xn 1 96) (tb := km_row96_160_g) (by decide +kernel) B
  have e0 : kq_o.map (fun r => Φ 32 r B) = kq_o.map (fun r => xk_tv Φ kwd km_row96_160_g (xn 1 96) B (625 + r)) := List.map_congr_left fun r _ => by
    rw [H.1.1.1.1.1.2]
    rfl
  rw [e0]
  generalize xk_tv Φ kwd km_row96_160_g (xn 1 96) B = ν at t1 t2
  have i1 : (xn 1 96).map ν = B := kq_in (wd := kwd) (tb := km_row96_160_g) (xn_nodup 1 96) (by rw [hB]; rfl) (by decide +kernel) t1
  subst i1
  have g0 := xk_cv (b := 625) (t := 21) (t2 _ (List.mem_of_getElem? kq_a32.1)) [3536, 3537, 3538, 3539, 3540, 3541, 3542, 3543] (by decide +kernel)
  have g1 := xk_cv (b := 4169) (t := 22) (t2 _ (List.mem_of_getElem? kq_a32.2)) [3536, 3537, 3538, 3539, 3540, 3541, 3542, 3543] (by decide +kernel)
  have w0 : (xn 4161 8).map ν = ks_b Φ 21 ((xn 1 64).map ν) ks_iv := g0
  have w1 : (xn 7705 8).map ν = ks_b Φ 22 ((xn 65 32).map ν ++ kq_tl) (ks_b Φ 21 ((xn 1 64).map ν) ks_iv) := by
    rw [← w0]
    exact g1
  have hb := kq_by (wd := kwd) (tb := km_row96_160_g) (ν := ν) (a := 7713) (b := 7705) fun k hk => by
    have hm : ∀ e ∈ [(7713 + 2 * k, 8, [(7705 + k / 4, 0), (0, ((24 - 8 * (k % 4) : Nat) : Int))]), (7713 + 2 * k + 1, 3, [(7713 + 2 * k, 0), (0, 255)])], xk_eok Φ kwd ν e := fun e he => t2 e (List.mem_of_mem_drop (i := 2) (by
      rw [kq_t32]
      exact List.mem_flatMap.mpr ⟨k, List.mem_range.mpr hk, he⟩))
    have e1 : ν (7713 + 2 * k) = xk_sem 8 [xk_ov ν (7705 + k / 4, 0), ((24 - 8 * (k % 4) : Nat) : Int)] := hm _ List.mem_cons_self
    have e2 : ν (7713 + 2 * k + 1) = xk_sem 3 [xk_ov ν (7713 + 2 * k, 0), 255] := hm _ (List.mem_cons_of_mem _ List.mem_cons_self)
    have ov : ∀ {g : Nat}, 0 < g → xk_ov ν (g, 0) = ν g := fun {g} h => by
      unfold xk_ov
      rw [if_neg (by show ¬ g = 0; omega)]
    rw [ov (by omega)] at e1 e2
    exact ⟨e1, e2⟩
  have o1 : kq_o.map (fun r => ν (625 + r)) = (List.range 32).map (fun k => ν (7713 + 2 * k + 1)) := by
    unfold kq_o
    rw [List.map_map]
    refine List.map_congr_left fun k _ => ?_
    show ν (625 + (7089 + 2 * k)) = _
    rw [show 625 + (7089 + 2 * k) = 7713 + 2 * k + 1 by omega]
  rw [o1, hb, w1]
  rfl
theorem kq_t33 : km_row96_224_g.drop 2 = (List.range 32).flatMap (fun k => [(7713 + 2 * k, 8, [(7705 + k / 4, 0), (0, ((24 - 8 * (k % 4) : Nat) : Int))]), (7713 + 2 * k + 1, 3, [(7713 + 2 * k, 0), (0, 255)])]) := by decide +kernel
theorem kq_a33 : km_row96_224_g[0]? = some (625, 1021, (xn 1 64).map (fun g => (g, 0)) ++ ks_iv.map (fun v => (0, v))) ∧ km_row96_224_g[1]? = some (4169, 1022, (xn 65 32).map (fun g => (g, 0)) ++ kq_tl.map (fun v => (0, v)) ++ (xn 4161 8).map (fun g => (g, 0))) := by decide +kernel
theorem kq_33 (H : kH_37 Φ) {B : List Int} (hB : B.length = 96) : kq_o.map (fun r => Φ 33 r B) = kq_96 Φ B := by
  obtain ⟨t1, t2⟩ := xk_tv_ok (Φ := Φ) (wd := kwd) (n := 624) (ag := xn 1 96) (tb := km_row96_224_g) (by decide +kernel) B
  have e0 : kq_o.map (fun r => Φ 33 r B) = kq_o.map (fun r => xk_tv Φ kwd km_row96_224_g (xn 1 96) B (625 + r)) := List.map_congr_left fun r _ => by
    rw [H.1.1.1.1.2]
    rfl
  rw [e0]
  generalize xk_tv Φ kwd km_row96_224_g (xn 1 96) B = ν at t1 t2
  have i1 : (xn 1 96).map ν = B := kq_in (wd := kwd) (tb := km_row96_224_g) (xn_nodup 1 96) (by rw [hB]; rfl) (by decide +kernel) t1
  subst i1
  have g0 := xk_cv (b := 625) (t := 21) (t2 _ (List.mem_of_getElem? kq_a33.1)) [3536, 3537, 3538, 3539, 3540, 3541, 3542, 3543] (by decide +kernel)
  have g1 := xk_cv (b := 4169) (t := 22) (t2 _ (List.mem_of_getElem? kq_a33.2)) [3536, 3537, 3538, 3539, 3540, 3541, 3542, 3543] (by decide +kernel)
  have w0 : (xn 4161 8).map ν = ks_b Φ 21 ((xn 1 64).map ν) ks_iv := g0
  have w1 : (xn 7705 8).map ν = ks_b Φ 22 ((xn 65 32).map ν ++ kq_tl) (ks_b Φ 21 ((xn 1 64).map ν) ks_iv) := by
    rw [← w0]
    exact g1
  have hb := kq_by (wd := kwd) (tb := km_row96_224_g) (ν := ν) (a := 7713) (b := 7705) fun k hk => by
    have hm : ∀ e ∈ [(7713 + 2 * k, 8, [(7705 + k / 4, 0), (0, ((24 - 8 * (k % 4) : Nat) : Int))]), (7713 + 2 * k + 1, 3, [(7713 + 2 * k, 0), (0, 255)])], xk_eok Φ kwd ν e := fun e he => t2 e (List.mem_of_mem_drop (i := 2) (by
      rw [kq_t33]
      exact List.mem_flatMap.mpr ⟨k, List.mem_range.mpr hk, he⟩))
    have e1 : ν (7713 + 2 * k) = xk_sem 8 [xk_ov ν (7705 + k / 4, 0), ((24 - 8 * (k % 4) : Nat) : Int)] := hm _ List.mem_cons_self
    have e2 : ν (7713 + 2 * k + 1) = xk_sem 3 [xk_ov ν (7713 + 2 * k, 0), 255] := hm _ (List.mem_cons_of_mem _ List.mem_cons_self)
    have ov : ∀ {g : Nat}, 0 < g → xk_ov ν (g, 0) = ν g := fun {g} h => by
      unfold xk_ov
      rw [if_neg (by show ¬ g = 0; omega)]
    rw [ov (by omega)] at e1 e2
    exact ⟨e1, e2⟩
  have o1 : kq_o.map (fun r => ν (625 + r)) = (List.range 32).map (fun k => ν (7713 + 2 * k + 1)) := by
    unfold kq_o
    rw [List.map_map]
    refine List.map_congr_left fun k _ => ?_
    show ν (625 + (7089 + 2 * k)) = _
    rw [show 625 + (7089 + 2 * k) = 7713 + 2 * k + 1 by omega]
  rw [o1, hb, w1]
  rfl
theorem kq_p6 (H : kH_37 Φ) {B : List Int} (hB : B.length = 32) : (List.range 32).map (fun r => Φ 6 r B) = kq_px 54 B := by
  obtain ⟨t1, t2⟩ := xk_tv_ok (Φ := Φ) (wd := kwd) (n := 289) (ag := xn 258 32) (tb := kx_pad54_g) (by decide +kernel) B
  have e0 : (List.range 32).map (fun r => Φ 6 r B) = (List.range 32).map (fun r => xk_tv Φ kwd kx_pad54_g (xn 258 32) B (290 + r)) := List.map_congr_left fun r _ => by
    rw [H.1.1.1.1.1.1.1.1.1.1.1.1.1.1.1.1.1.1.1.1.1.1.1.1.1.1.1.1.1.1.1.1.1.1.2]
    rfl
  rw [e0]
  generalize xk_tv Φ kwd kx_pad54_g (xn 258 32) B = ν at t1 t2
  have i1 : (xn 258 32).map ν = B := kq_in (wd := kwd) (tb := kx_pad54_g) (xn_nodup 258 32) (by rw [hB]; rfl) (by decide +kernel) t1
  subst i1
  have hg : kx_pad54_g = (List.range 32).map (fun k => (290 + k, 5, [(258 + k, 0), (0, 54)])) := by decide +kernel
  unfold kq_px xn
  rw [List.map_map, List.map_map]
  refine List.map_congr_left fun k hk => ?_
  have e : ν (290 + k) = xk_sem 5 [xk_ov ν (258 + k, 0), 54] := t2 (290 + k, 5, [(258 + k, 0), (0, 54)]) (by
    rw [hg]
    exact List.mem_map.mpr ⟨k, hk, rfl⟩)
  have o : xk_ov ν (258 + k, 0) = ν (258 + k) := by
    unfold xk_ov
    rw [if_neg (by show ¬ 258 + k = 0; omega)]
  rw [e, o]
  rfl
theorem kq_p7 (H : kH_37 Φ) {B : List Int} (hB : B.length = 32) : (List.range 32).map (fun r => Φ 7 r B) = kq_px 92 B := by
  obtain ⟨t1, t2⟩ := xk_tv_ok (Φ := Φ) (wd := kwd) (n := 289) (ag := xn 258 32) (tb := kx_pad92_g) (by decide +kernel) B
  have e0 : (List.range 32).map (fun r => Φ 7 r B) = (List.range 32).map (fun r => xk_tv Φ kwd kx_pad92_g (xn 258 32) B (290 + r)) := List.map_congr_left fun r _ => by
    rw [H.1.1.1.1.1.1.1.1.1.1.1.1.1.1.1.1.1.1.1.1.1.1.1.1.1.1.1.1.1.1.1.1.1.2]
    rfl
  rw [e0]
  generalize xk_tv Φ kwd kx_pad92_g (xn 258 32) B = ν at t1 t2
  have i1 : (xn 258 32).map ν = B := kq_in (wd := kwd) (tb := kx_pad92_g) (xn_nodup 258 32) (by rw [hB]; rfl) (by decide +kernel) t1
  subst i1
  have hg : kx_pad92_g = (List.range 32).map (fun k => (290 + k, 5, [(258 + k, 0), (0, 92)])) := by decide +kernel
  unfold kq_px xn
  rw [List.map_map, List.map_map]
  refine List.map_congr_left fun k hk => ?_
  have e : ν (290 + k) = xk_sem 5 [xk_ov ν (258 + k, 0), 92] := t2 (290 + k, 5, [(258 + k, 0), (0, 92)]) (by
    rw [hg]
    exact List.mem_map.mpr ⟨k, hk, rfl⟩)
  have o : xk_ov ν (258 + k, 0) = ν (258 + k) := by
    unfold xk_ov
    rw [if_neg (by show ¬ 258 + k = 0; omega)]
  rw [e, o]
  rfl
theorem kq_p24 (H : kH_37 Φ) {B : List Int} (hB : B.length = 32) : (List.range 32).map (fun r => Φ 24 r B) = kq_px 54 B := by
  obtain ⟨t1, t2⟩ := xk_tv_ok (Φ := Φ) (wd := kwd) (n := 544) (ag := xn 193 32) (tb := km_pad0_54_g) (by decide +kernel) B
  have e0 : (List.range 32).map (fun r => Φ 24 r B) = (List.range 32).map (fun r => xk_tv Φ kwd km_pad0_54_g (xn 193 32) B (545 + r)) := List.map_congr_left fun r _ => by
    rw [H.1.1.1.1.1.1.1.1.1.1.1.1.1.2]
    rfl
  rw [e0]
  generalize xk_tv Φ kwd km_pad0_54_g (xn 193 32) B = ν at t1 t2
  have i1 : (xn 193 32).map ν = B := kq_in (wd := kwd) (tb := km_pad0_54_g) (xn_nodup 193 32) (by rw [hB]; rfl) (by decide +kernel) t1
  subst i1
  have hg : km_pad0_54_g = (List.range 32).map (fun k => (545 + k, 5, [(193 + k, 0), (0, 54)])) := by decide +kernel
  unfold kq_px xn
  rw [List.map_map, List.map_map]
  refine List.map_congr_left fun k hk => ?_
  have e : ν (545 + k) = xk_sem 5 [xk_ov ν (193 + k, 0), 54] := t2 (545 + k, 5, [(193 + k, 0), (0, 54)]) (by
    rw [hg]
    exact List.mem_map.mpr ⟨k, hk, rfl⟩)
  have o : xk_ov ν (193 + k, 0) = ν (193 + k) := by
    unfold xk_ov
    rw [if_neg (by show ¬ 193 + k = 0; omega)]
  rw [e, o]
  rfl
theorem kq_p25 (H : kH_37 Φ) {B : List Int} (hB : B.length = 32) : (List.range 32).map (fun r => Φ 25 r B) = kq_px 92 B := by
  obtain ⟨t1, t2⟩ := xk_tv_ok (Φ := Φ) (wd := kwd) (n := 544) (ag := xn 193 32) (tb := km_pad0_92_g) (by decide +kernel) B
  have e0 : (List.range 32).map (fun r => Φ 25 r B) = (List.range 32).map (fun r => xk_tv Φ kwd km_pad0_92_g (xn 193 32) B (545 + r)) := List.map_congr_left fun r _ => by
    rw [H.1.1.1.1.1.1.1.1.1.1.1.1.2]
    rfl
  rw [e0]
  generalize xk_tv Φ kwd km_pad0_92_g (xn 193 32) B = ν at t1 t2
  have i1 : (xn 193 32).map ν = B := kq_in (wd := kwd) (tb := km_pad0_92_g) (xn_nodup 193 32) (by rw [hB]; rfl) (by decide +kernel) t1
  subst i1
  have hg : km_pad0_92_g = (List.range 32).map (fun k => (545 + k, 5, [(193 + k, 0), (0, 92)])) := by decide +kernel
  unfold kq_px xn
  rw [List.map_map, List.map_map]
  refine List.map_congr_left fun k hk => ?_
  have e : ν (545 + k) = xk_sem 5 [xk_ov ν (193 + k, 0), 92] := t2 (545 + k, 5, [(193 + k, 0), (0, 92)]) (by
    rw [hg]
    exact List.mem_map.mpr ⟨k, hk, rfl⟩)
  have o : xk_ov ν (193 + k, 0) = ν (193 + k) := by
    unfold xk_ov
    rw [if_neg (by show ¬ 193 + k = 0; omega)]
  rw [e, o]
  rfl
theorem kq_p26 (H : kH_37 Φ) {B : List Int} (hB : B.length = 32) : (List.range 32).map (fun r => Φ 26 r B) = kq_px 54 B := by
  obtain ⟨t1, t2⟩ := xk_tv_ok (Φ := Φ) (wd := kwd) (n := 544) (ag := xn 225 32) (tb := km_pad1_54_g) (by decide +kernel) B
  have e0 : (List.range 32).map (fun r => Φ 26 r B) = (List.range 32).map (fun r => xk_tv Φ kwd km_pad1_54_g (xn 225 32) B (545 + r)) := List.map_congr_left fun r _ => by
    rw [H.1.1.1.1.1.1.1.1.1.1.1.2]
    rfl
  rw [e0]
  generalize xk_tv Φ kwd km_pad1_54_g (xn 225 32) B = ν at t1 t2
  have i1 : (xn 225 32).map ν = B := kq_in (wd := kwd) (tb := km_pad1_54_g) (xn_nodup 225 32) (by rw [hB]; rfl) (by decide +kernel) t1
  subst i1
  have hg : km_pad1_54_g = (List.range 32).map (fun k => (545 + k, 5, [(225 + k, 0), (0, 54)])) := by decide +kernel
  unfold kq_px xn
  rw [List.map_map, List.map_map]
  refine List.map_congr_left fun k hk => ?_
  have e : ν (545 + k) = xk_sem 5 [xk_ov ν (225 + k, 0), 54] := t2 (545 + k, 5, [(225 + k, 0), (0, 54)]) (by
    rw [hg]
    exact List.mem_map.mpr ⟨k, hk, rfl⟩)
  have o : xk_ov ν (225 + k, 0) = ν (225 + k) := by
    unfold xk_ov
    rw [if_neg (by show ¬ 225 + k = 0; omega)]
  rw [e, o]
  rfl
theorem kq_p27 (H : kH_37 Φ) {B : List Int} (hB : B.length = 32) : (List.range 32).map (fun r => Φ 27 r B) = kq_px 92 B := by
  obtain ⟨t1, t2⟩ := xk_tv_ok (Φ := Φ) (wd := kwd) (n := 544) (ag := xn 225 32) (tb := km_pad1_92_g) (by decide +kernel) B
  have e0 : (List.range 32).map (fun r => Φ 27 r B) = (List.range 32).map (fun r => xk_tv Φ kwd km_pad1_92_g (xn 225 32) B (545 + r)) := List.map_congr_left fun r _ => by
    rw [H.1.1.1.1.1.1.1.1.1.1.2]
    rfl
  rw [e0]
  generalize xk_tv Φ kwd km_pad1_92_g (xn 225 32) B = ν at t1 t2
  have i1 : (xn 225 32).map ν = B := kq_in (wd := kwd) (tb := km_pad1_92_g) (xn_nodup 225 32) (by rw [hB]; rfl) (by decide +kernel) t1
  subst i1
  have hg : km_pad1_92_g = (List.range 32).map (fun k => (545 + k, 5, [(225 + k, 0), (0, 92)])) := by decide +kernel
  unfold kq_px xn
  rw [List.map_map, List.map_map]
  refine List.map_congr_left fun k hk => ?_
  have e : ν (545 + k) = xk_sem 5 [xk_ov ν (225 + k, 0), 92] := t2 (545 + k, 5, [(225 + k, 0), (0, 92)]) (by
    rw [hg]
    exact List.mem_map.mpr ⟨k, hk, rfl⟩)
  have o : xk_ov ν (225 + k, 0) = ν (225 + k) := by
    unfold xk_ov
    rw [if_neg (by show ¬ 225 + k = 0; omega)]
  rw [e, o]
  rfl
theorem kq_p28 (H : kH_37 Φ) {B : List Int} (hB : B.length = 32) : (List.range 32).map (fun r => Φ 28 r B) = kq_px 54 B := by
  obtain ⟨t1, t2⟩ := xk_tv_ok (Φ := Φ) (wd := kwd) (n := 544) (ag := xn 257 32) (tb := km_pad2_54_g) (by decide +kernel) B
  have e0 : (List.range 32).map (fun r => Φ 28 r B) = (List.range 32).map (fun r => xk_tv Φ kwd km_pad2_54_g (xn 257 32) B (545 + r)) := List.map_congr_left fun r _ => by
    rw [H.1.1.1.1.1.1.1.1.1.2]
    rfl
  rw [e0]
  generalize xk_tv Φ kwd km_pad2_54_g (xn 257 32) B = ν at t1 t2
  have i1 : (xn 257 32).map ν = B := kq_in (wd := kwd) (tb := km_pad2_54_g) (xn_nodup 257 32) (by rw [hB]; rfl) (by decide +kernel) t1
  subst i1
  have hg : km_pad2_54_g = (List.range 32).map (fun k => (545 + k, 5, [(257 + k, 0), (0, 54)])) := by decide +kernel
  unfold kq_px xn
  rw [List.map_map, List.map_map]
  refine List.map_congr_left fun k hk => ?_
  have e : ν (545 + k) = xk_sem 5 [xk_ov ν (257 + k, 0), 54] := t2 (545 + k, 5, [(257 + k, 0), (0, 54)]) (by
    rw [hg]
    exact List.mem_map.mpr ⟨k, hk, rfl⟩)
  have o : xk_ov ν (257 + k, 0) = ν (257 + k) := by
    unfold xk_ov
    rw [if_neg (by show ¬ 257 + k = 0; omega)]
  rw [e, o]
  rfl
theorem kq_p29 (H : kH_37 Φ) {B : List Int} (hB : B.length = 32) : (List.range 32).map (fun r => Φ 29 r B) = kq_px 92 B := by
  obtain ⟨t1, t2⟩ := xk_tv_ok (Φ := Φ) (wd := kwd) (n := 544) (ag := xn 257 32) (tb := km_pad2_92_g) (by decide +kernel) B
  have e0 : (List.range 32).map (fun r => Φ 29 r B) = (List.range 32).map (fun r => xk_tv Φ kwd km_pad2_92_g (xn 257 32) B (545 + r)) := List.map_congr_left fun r _ => by
    rw [H.1.1.1.1.1.1.1.1.2]
    rfl
  rw [e0]
  generalize xk_tv Φ kwd km_pad2_92_g (xn 257 32) B = ν at t1 t2
  have i1 : (xn 257 32).map ν = B := kq_in (wd := kwd) (tb := km_pad2_92_g) (xn_nodup 257 32) (by rw [hB]; rfl) (by decide +kernel) t1
  subst i1
  have hg : km_pad2_92_g = (List.range 32).map (fun k => (545 + k, 5, [(257 + k, 0), (0, 92)])) := by decide +kernel
  unfold kq_px xn
  rw [List.map_map, List.map_map]
  refine List.map_congr_left fun k hk => ?_
  have e : ν (545 + k) = xk_sem 5 [xk_ov ν (257 + k, 0), 92] := t2 (545 + k, 5, [(257 + k, 0), (0, 92)]) (by
    rw [hg]
    exact List.mem_map.mpr ⟨k, hk, rfl⟩)
  have o : xk_ov ν (257 + k, 0) = ν (257 + k) := by
    unfold xk_ov
    rw [if_neg (by show ¬ 257 + k = 0; omega)]
  rw [e, o]
  rfl
theorem kq_p30 (H : kH_37 Φ) {B : List Int} (hB : B.length = 32) : (List.range 32).map (fun r => Φ 30 r B) = kq_px 54 B := by
  obtain ⟨t1, t2⟩ := xk_tv_ok (Φ := Φ) (wd := kwd) (n := 544) (ag := xn 289 32) (tb := km_pad3_54_g) (by decide +kernel) B
  have e0 : (List.range 32).map (fun r => Φ 30 r B) = (List.range 32).map (fun r => xk_tv Φ kwd km_pad3_54_g (xn 289 32) B (545 + r)) := List.map_congr_left fun r _ => by
    rw [H.1.1.1.1.1.1.1.2]
    rfl
  rw [e0]
  generalize xk_tv Φ kwd km_pad3_54_g (xn 289 32) B = ν at t1 t2
  have i1 : (xn 289 32).map ν = B := kq_in (wd := kwd) (tb := km_pad3_54_g) (xn_nodup 289 32) (by rw [hB]; rfl) (by decide +kernel) t1
  subst i1
  have hg : km_pad3_54_g = (List.range 32).map (fun k => (545 + k, 5, [(289 + k, 0), (0, 54)])) := by decide +kernel
  unfold kq_px xn
  rw [List.map_map, List.map_map]
  refine List.map_congr_left fun k hk => ?_
  have e : ν (545 + k) = xk_sem 5 [xk_ov ν (289 + k, 0), 54] := t2 (545 + k, 5, [(289 + k, 0), (0, 54)]) (by
    rw [hg]
    exact List.mem_map.mpr ⟨k, hk, rfl⟩)
  have o : xk_ov ν (289 + k, 0) = ν (289 + k) := by
    unfold xk_ov
    rw [if_neg (by show ¬ 289 + k = 0; omega)]
  rw [e, o]
  rfl
theorem kq_p31 (H : kH_37 Φ) {B : List Int} (hB : B.length = 32) : (List.range 32).map (fun r => Φ 31 r B) = kq_px 92 B := by
  obtain ⟨t1, t2⟩ := xk_tv_ok (Φ := Φ) (wd := kwd) (n := 544) (ag := xn 289 32) (tb := km_pad3_92_g) (by decide +kernel) B
  have e0 : (List.range 32).map (fun r => Φ 31 r B) = (List.range 32).map (fun r => xk_tv Φ kwd km_pad3_92_g (xn 289 32) B (545 + r)) := List.map_congr_left fun r _ => by
    rw [H.1.1.1.1.1.1.2]
    rfl
  rw [e0]
  generalize xk_tv Φ kwd km_pad3_92_g (xn 289 32) B = ν at t1 t2
  have i1 : (xn 289 32).map ν = B := kq_in (wd := kwd) (tb := km_pad3_92_g) (xn_nodup 289 32) (by rw [hB]; rfl) (by decide +kernel) t1
  subst i1
  have hg : km_pad3_92_g = (List.range 32).map (fun k => (545 + k, 5, [(289 + k, 0), (0, 92)])) := by decide +kernel
  unfold kq_px xn
  rw [List.map_map, List.map_map]
  refine List.map_congr_left fun k hk => ?_
  have e : ν (545 + k) = xk_sem 5 [xk_ov ν (289 + k, 0), 92] := t2 (545 + k, 5, [(289 + k, 0), (0, 92)]) (by
    rw [hg]
    exact List.mem_map.mpr ⟨k, hk, rfl⟩)
  have o : xk_ov ν (289 + k, 0) = ν (289 + k) := by
    unfold xk_ov
    rw [if_neg (by show ¬ 289 + k = 0; omega)]
  rw [e, o]
  rfl
theorem kq_p8 (H : kH_37 Φ) {B : List Int} (hB : B.length = 32) : (List.range 32).map (fun r => Φ 8 r B) = kq_px 54 B := by
  obtain ⟨t1, t2⟩ := xk_tv_ok (Φ := Φ) (wd := kwd) (n := 321) (ag := xn 2 32) (tb := kx_smac_g) (by decide +kernel) B
  have e0 : (List.range 32).map (fun r => Φ 8 r B) = (List.range 32).map (fun r => xk_tv Φ kwd kx_smac_g (xn 2 32) B (322 + r)) := List.map_congr_left fun r _ => by
    rw [H.1.1.1.1.1.1.1.1.1.1.1.1.1.1.1.1.1.1.1.1.1.1.1.1.1.1.1.1.1.1.1.1.2]
    rfl
  rw [e0]
  generalize xk_tv Φ kwd kx_smac_g (xn 2 32) B = ν at t1 t2
  have i1 : (xn 2 32).map ν = B := kq_in (wd := kwd) (tb := kx_smac_g) (xn_nodup 2 32) (by rw [hB]; rfl) (by decide +kernel) t1
  subst i1
  have g0 := xk_cv (b := 322) (t := 6) (t2 (322, 1000 + 6, (xn 2 32).map (fun g => (g, 0))) (by decide +kernel)) (List.range 32) (by decide +kernel)
  have ea : ((xn 2 32).map (fun g => ((g, 0) : xk_O))).map (xk_ov ν) = (xn 2 32).map ν := rfl
  rw [ea] at g0
  rw [g0]
  exact kq_p6 H rfl
def kq_mac (Φ : Nat → Nat → List Int → Int) (A B : List Int) : List Int := kq_96 Φ (kq_px 92 A ++ List.replicate 32 92 ++ kq_96 Φ (kq_px 54 A ++ List.replicate 32 54 ++ B))
theorem kq_l (Φ : Nat → Nat → List Int → Int) (B : List Int) : (kq_96 Φ B).length = 32 := by
  unfold kq_96 kf_out
  simp
theorem kq_fm : kx_fmac_g = [(425, 1009, (xn 33 96).map (fun g => (g, 0))), (7577, 1007, (xn 361 32).map (fun g => (g, 0))), (7609, 1009, (xn 7577 32).map (fun g => (g, 0)) ++ List.replicate 32 (0, 92) ++ kq_o.map (fun r => (425 + r, 0)))] := by decide +kernel
theorem kq_cls (H : kH_37 Φ) {A B : List Int} (hA : A.length = 32) (hB : B.length = 32) : kmc_fn Φ A B = kq_mac Φ A B := by
  unfold kmc_fn
  rw [kq_p8 H hA]
  have l1 : (kq_px 54 A).length = 32 := by unfold kq_px; rw [List.length_map, hA]
  have l2 : (kq_px 54 A ++ List.replicate 32 54 ++ B).length = 96 := by rw [List.length_append, List.length_append, l1, List.length_replicate, hB]
  have l3 : (kq_px 54 A ++ List.replicate 32 54 ++ B ++ A).length = 128 := by rw [List.length_append, l2, hA]
  obtain ⟨t1, t2⟩ := xk_tv_ok (Φ := Φ) (wd := kwd) (n := 424) (ag := xn 33 96 ++ xn 361 32) (tb := kx_fmac_g) (by decide +kernel) (kq_px 54 A ++ List.replicate 32 54 ++ B ++ A)
  have e0 : (List.range 32).map (fun i => Φ 10 (14273 + 2 * i) (kq_px 54 A ++ List.replicate 32 54 ++ B ++ A)) = (List.range 32).map (fun i => xk_tv Φ kwd kx_fmac_g (xn 33 96 ++ xn 361 32) (kq_px 54 A ++ List.replicate 32 54 ++ B ++ A) (425 + (14273 + 2 * i))) := List.map_congr_left fun r _ => by
    rw [H.1.1.1.1.1.1.1.1.1.1.1.1.1.1.1.1.1.1.1.1.1.1.1.1.1.1.1.2]
    rfl
  rw [e0]
  generalize xk_tv Φ kwd kx_fmac_g (xn 33 96 ++ xn 361 32) (kq_px 54 A ++ List.replicate 32 54 ++ B ++ A) = ν at t1 t2
  have i1 : (xn 33 96 ++ xn 361 32).map ν = kq_px 54 A ++ List.replicate 32 54 ++ B ++ A := kq_in (wd := kwd) (tb := kx_fmac_g) (by decide +kernel) (by rw [l3]; rfl) (by decide +kernel) t1
  rw [List.map_append] at i1
  obtain ⟨i2, i3⟩ := List.append_inj i1 (by rw [l2]; rfl)
  rw [kq_fm] at t2
  have g0 := xk_cv (b := 425) (t := 9) (t2 _ List.mem_cons_self) kq_o (by decide +kernel)
  have g1 := xk_cv (b := 7577) (t := 7) (t2 _ (List.mem_cons_of_mem _ List.mem_cons_self)) (List.range 32) (by decide +kernel)
  have g2 := xk_cv (b := 7609) (t := 9) (t2 _ (List.mem_cons_of_mem _ (List.mem_cons_of_mem _ List.mem_cons_self))) kq_o (by decide +kernel)
  have a0 : ((xn 33 96).map (fun g => ((g, 0) : xk_O))).map (xk_ov ν) = (xn 33 96).map ν := rfl
  have a1 : ((xn 361 32).map (fun g => ((g, 0) : xk_O))).map (xk_ov ν) = (xn 361 32).map ν := rfl
  have a2 : ((xn 7577 32).map (fun g => ((g, 0) : xk_O)) ++ List.replicate 32 ((0, 92) : xk_O) ++ kq_o.map (fun r => ((425 + r, 0) : xk_O))).map (xk_ov ν) = (List.range 32).map (fun r => ν (7577 + r)) ++ List.replicate 32 92 ++ kq_o.map (fun r => ν (425 + r)) := rfl
  rw [a0, i2, kq_9 H l2] at g0
  rw [a1, i3, kq_p7 H hA] at g1
  have l4 : (kq_px 92 A ++ List.replicate 32 92 ++ kq_96 Φ (kq_px 54 A ++ List.replicate 32 54 ++ B)).length = 96 := by
    rw [List.length_append, List.length_append, List.length_replicate, kq_l]
    unfold kq_px
    rw [List.length_map, hA]
  rw [a2, g0, g1, kq_9 H l4] at g2
  have o : (List.range 32).map (fun i => ν (425 + (14273 + 2 * i))) = kq_o.map (fun r => ν (7609 + r)) := by
    unfold kq_o
    rw [List.map_map]
    refine List.map_congr_left fun k _ => ?_
    show _ = ν (7609 + (7089 + 2 * k))
    rw [show 425 + (14273 + 2 * k) = 7609 + (7089 + 2 * k) by omega]
  rw [o, g2]
  rfl
theorem kq_m0 : km_mark0_g = [(925, 1024, (xn 273 32).map (fun g => (g, 0))), (957, 1032, (xn 925 32).map (fun g => (g, 0)) ++ List.replicate 32 (0, 54) ++ (xn 625 32).map (fun g => (g, 0))), (8109, 1025, (xn 273 32).map (fun g => (g, 0))), (8141, 1033, (xn 8109 32).map (fun g => (g, 0)) ++ List.replicate 32 (0, 92) ++ kq_o.map (fun r => (957 + r, 0)))] := by decide +kernel
theorem kq_ref0 (H : kH_37 Φ) {A B : List Int} (hA : A.length = 32) (hB : B.length = 32) : (List.range 32).map (fun r => Φ 34 (14305 + 2 * r) (A ++ B)) = kq_mac Φ A B := by
  obtain ⟨t1, t2⟩ := xk_tv_ok (Φ := Φ) (wd := kwd) (n := 924) (ag := xn 273 32 ++ xn 625 32) (tb := km_mark0_g) (by decide +kernel) (A ++ B)
  have e0 : (List.range 32).map (fun r => Φ 34 (14305 + 2 * r) (A ++ B)) = (List.range 32).map (fun r => xk_tv Φ kwd km_mark0_g (xn 273 32 ++ xn 625 32) (A ++ B) (925 + (14305 + 2 * r))) := List.map_congr_left fun r _ => by
    rw [H.1.1.1.2]
    rfl
  rw [e0]
  generalize xk_tv Φ kwd km_mark0_g (xn 273 32 ++ xn 625 32) (A ++ B) = ν at t1 t2
  have i1 : (xn 273 32 ++ xn 625 32).map ν = A ++ B := kq_in (wd := kwd) (tb := km_mark0_g) (by decide +kernel) (by rw [List.length_append, List.length_append, hA, hB]; rfl) (by decide +kernel) t1
  rw [List.map_append] at i1
  obtain ⟨i2, i3⟩ := List.append_inj i1 (by rw [hA]; rfl)
  rw [kq_m0] at t2
  have g0 := xk_cv (b := 925) (t := 24) (t2 _ List.mem_cons_self) (List.range 32) (by decide +kernel)
  have g1 := xk_cv (b := 957) (t := 32) (t2 _ (List.mem_cons_of_mem _ List.mem_cons_self)) kq_o (by decide +kernel)
  have g2 := xk_cv (b := 8109) (t := 25) (t2 _ (List.mem_cons_of_mem _ (List.mem_cons_of_mem _ List.mem_cons_self))) (List.range 32) (by decide +kernel)
  have g3 := xk_cv (b := 8141) (t := 33) (t2 _ (List.mem_cons_of_mem _ (List.mem_cons_of_mem _ (List.mem_cons_of_mem _ List.mem_cons_self)))) kq_o (by decide +kernel)
  have a0 : ((xn 273 32).map (fun g => ((g, 0) : xk_O))).map (xk_ov ν) = (xn 273 32).map ν := rfl
  have a1 : ((xn 925 32).map (fun g => ((g, 0) : xk_O)) ++ List.replicate 32 ((0, 54) : xk_O) ++ (xn 625 32).map (fun g => ((g, 0) : xk_O))).map (xk_ov ν) = (List.range 32).map (fun r => ν (925 + r)) ++ List.replicate 32 54 ++ (xn 625 32).map ν := rfl
  have a3 : ((xn 8109 32).map (fun g => ((g, 0) : xk_O)) ++ List.replicate 32 ((0, 92) : xk_O) ++ kq_o.map (fun r => ((957 + r, 0) : xk_O))).map (xk_ov ν) = (List.range 32).map (fun r => ν (8109 + r)) ++ List.replicate 32 92 ++ kq_o.map (fun r => ν (957 + r)) := rfl
  rw [a0, i2, kq_p24 H hA] at g0
  have lp : ∀ w : Int, (kq_px w A).length = 32 := fun w => by unfold kq_px; rw [List.length_map, hA]
  have l2 : (kq_px 54 A ++ List.replicate 32 54 ++ B).length = 96 := by rw [List.length_append, List.length_append, lp, List.length_replicate, hB]
  rw [a1, g0, i3, kq_32 H l2] at g1
  rw [a0, i2, kq_p25 H hA] at g2
  have l4 : (kq_px 92 A ++ List.replicate 32 92 ++ kq_96 Φ (kq_px 54 A ++ List.replicate 32 54 ++ B)).length = 96 := by rw [List.length_append, List.length_append, List.length_replicate, kq_l, lp]
  rw [a3, g1, g2, kq_33 H l4] at g3
  have o : (List.range 32).map (fun i => ν (925 + (14305 + 2 * i))) = kq_o.map (fun r => ν (8141 + r)) := by
    unfold kq_o
    rw [List.map_map]
    refine List.map_congr_left fun k _ => ?_
    show _ = ν (8141 + (7089 + 2 * k))
    rw [show 925 + (14305 + 2 * k) = 8141 + (7089 + 2 * k) by omega]
  rw [o, g3]
  rfl
theorem kq_m1 : km_mark1_g = [(925, 1026, (xn 305 32).map (fun g => (g, 0))), (957, 1032, (xn 925 32).map (fun g => (g, 0)) ++ List.replicate 32 (0, 54) ++ (xn 625 32).map (fun g => (g, 0))), (8109, 1027, (xn 305 32).map (fun g => (g, 0))), (8141, 1033, (xn 8109 32).map (fun g => (g, 0)) ++ List.replicate 32 (0, 92) ++ kq_o.map (fun r => (957 + r, 0)))] := by decide +kernel
theorem kq_ref1 (H : kH_37 Φ) {A B : List Int} (hA : A.length = 32) (hB : B.length = 32) : (List.range 32).map (fun r => Φ 35 (14305 + 2 * r) (A ++ B)) = kq_mac Φ A B := by
  obtain ⟨t1, t2⟩ := xk_tv_ok (Φ := Φ) (wd := kwd) (n := 924) (ag := xn 305 32 ++ xn 625 32) (tb := km_mark1_g) (by decide +kernel) (A ++ B)
  have e0 : (List.range 32).map (fun r => Φ 35 (14305 + 2 * r) (A ++ B)) = (List.range 32).map (fun r => xk_tv Φ kwd km_mark1_g (xn 305 32 ++ xn 625 32) (A ++ B) (925 + (14305 + 2 * r))) := List.map_congr_left fun r _ => by
    rw [H.1.1.2]
    rfl
  rw [e0]
  generalize xk_tv Φ kwd km_mark1_g (xn 305 32 ++ xn 625 32) (A ++ B) = ν at t1 t2
  have i1 : (xn 305 32 ++ xn 625 32).map ν = A ++ B := kq_in (wd := kwd) (tb := km_mark1_g) (by decide +kernel) (by rw [List.length_append, List.length_append, hA, hB]; rfl) (by decide +kernel) t1
  rw [List.map_append] at i1
  obtain ⟨i2, i3⟩ := List.append_inj i1 (by rw [hA]; rfl)
  rw [kq_m1] at t2
  have g0 := xk_cv (b := 925) (t := 26) (t2 _ List.mem_cons_self) (List.range 32) (by decide +kernel)
  have g1 := xk_cv (b := 957) (t := 32) (t2 _ (List.mem_cons_of_mem _ List.mem_cons_self)) kq_o (by decide +kernel)
  have g2 := xk_cv (b := 8109) (t := 27) (t2 _ (List.mem_cons_of_mem _ (List.mem_cons_of_mem _ List.mem_cons_self))) (List.range 32) (by decide +kernel)
  have g3 := xk_cv (b := 8141) (t := 33) (t2 _ (List.mem_cons_of_mem _ (List.mem_cons_of_mem _ (List.mem_cons_of_mem _ List.mem_cons_self)))) kq_o (by decide +kernel)
  have a0 : ((xn 305 32).map (fun g => ((g, 0) : xk_O))).map (xk_ov ν) = (xn 305 32).map ν := rfl
  have a1 : ((xn 925 32).map (fun g => ((g, 0) : xk_O)) ++ List.replicate 32 ((0, 54) : xk_O) ++ (xn 625 32).map (fun g => ((g, 0) : xk_O))).map (xk_ov ν) = (List.range 32).map (fun r => ν (925 + r)) ++ List.replicate 32 54 ++ (xn 625 32).map ν := rfl
  have a3 : ((xn 8109 32).map (fun g => ((g, 0) : xk_O)) ++ List.replicate 32 ((0, 92) : xk_O) ++ kq_o.map (fun r => ((957 + r, 0) : xk_O))).map (xk_ov ν) = (List.range 32).map (fun r => ν (8109 + r)) ++ List.replicate 32 92 ++ kq_o.map (fun r => ν (957 + r)) := rfl
  rw [a0, i2, kq_p26 H hA] at g0
  have lp : ∀ w : Int, (kq_px w A).length = 32 := fun w => by unfold kq_px; rw [List.length_map, hA]
  have l2 : (kq_px 54 A ++ List.replicate 32 54 ++ B).length = 96 := by rw [List.length_append, List.length_append, lp, List.length_replicate, hB]
  rw [a1, g0, i3, kq_32 H l2] at g1
  rw [a0, i2, kq_p27 H hA] at g2
  have l4 : (kq_px 92 A ++ List.replicate 32 92 ++ kq_96 Φ (kq_px 54 A ++ List.replicate 32 54 ++ B)).length = 96 := by rw [List.length_append, List.length_append, List.length_replicate, kq_l, lp]
  rw [a3, g1, g2, kq_33 H l4] at g3
  have o : (List.range 32).map (fun i => ν (925 + (14305 + 2 * i))) = kq_o.map (fun r => ν (8141 + r)) := by
    unfold kq_o
    rw [List.map_map]
    refine List.map_congr_left fun k _ => ?_
    show _ = ν (8141 + (7089 + 2 * k))
    rw [show 925 + (14305 + 2 * k) = 8141 + (7089 + 2 * k) by omega]
  rw [o, g3]
  rfl
theorem kq_m2 : km_mark2_g = [(925, 1028, (xn 337 32).map (fun g => (g, 0))), (957, 1032, (xn 925 32).map (fun g => (g, 0)) ++ List.replicate 32 (0, 54) ++ (xn 625 32).map (fun g => (g, 0))), (8109, 1029, (xn 337 32).map (fun g => (g, 0))), (8141, 1033, (xn 8109 32).map (fun g => (g, 0)) ++ List.replicate 32 (0, 92) ++ kq_o.map (fun r => (957 + r, 0)))] := by decide +kernel
theorem kq_ref2 (H : kH_37 Φ) {A B : List Int} (hA : A.length = 32) (hB : B.length = 32) : (List.range 32).map (fun r => Φ 36 (14305 + 2 * r) (A ++ B)) = kq_mac Φ A B := by
  obtain ⟨t1, t2⟩ := xk_tv_ok (Φ := Φ) (wd := kwd) (n := 924) (ag := xn 337 32 ++ xn 625 32) (tb := km_mark2_g) (by decide +kernel) (A ++ B)
  have e0 : (List.range 32).map (fun r => Φ 36 (14305 + 2 * r) (A ++ B)) = (List.range 32).map (fun r => xk_tv Φ kwd km_mark2_g (xn 337 32 ++ xn 625 32) (A ++ B) (925 + (14305 + 2 * r))) := List.map_congr_left fun r _ => by
    rw [H.1.2]
    rfl
  rw [e0]
  generalize xk_tv Φ kwd km_mark2_g (xn 337 32 ++ xn 625 32) (A ++ B) = ν at t1 t2
  have i1 : (xn 337 32 ++ xn 625 32).map ν = A ++ B := kq_in (wd := kwd) (tb := km_mark2_g) (by decide +kernel) (by rw [List.length_append, List.length_append, hA, hB]; rfl) (by decide +kernel) t1
  rw [List.map_append] at i1
  obtain ⟨i2, i3⟩ := List.append_inj i1 (by rw [hA]; rfl)
  rw [kq_m2] at t2
  have g0 := xk_cv (b := 925) (t := 28) (t2 _ List.mem_cons_self) (List.range 32) (by decide +kernel)
  have g1 := xk_cv (b := 957) (t := 32) (t2 _ (List.mem_cons_of_mem _ List.mem_cons_self)) kq_o (by decide +kernel)
  have g2 := xk_cv (b := 8109) (t := 29) (t2 _ (List.mem_cons_of_mem _ (List.mem_cons_of_mem _ List.mem_cons_self))) (List.range 32) (by decide +kernel)
  have g3 := xk_cv (b := 8141) (t := 33) (t2 _ (List.mem_cons_of_mem _ (List.mem_cons_of_mem _ (List.mem_cons_of_mem _ List.mem_cons_self)))) kq_o (by decide +kernel)
  have a0 : ((xn 337 32).map (fun g => ((g, 0) : xk_O))).map (xk_ov ν) = (xn 337 32).map ν := rfl
  have a1 : ((xn 925 32).map (fun g => ((g, 0) : xk_O)) ++ List.replicate 32 ((0, 54) : xk_O) ++ (xn 625 32).map (fun g => ((g, 0) : xk_O))).map (xk_ov ν) = (List.range 32).map (fun r => ν (925 + r)) ++ List.replicate 32 54 ++ (xn 625 32).map ν := rfl
  have a3 : ((xn 8109 32).map (fun g => ((g, 0) : xk_O)) ++ List.replicate 32 ((0, 92) : xk_O) ++ kq_o.map (fun r => ((957 + r, 0) : xk_O))).map (xk_ov ν) = (List.range 32).map (fun r => ν (8109 + r)) ++ List.replicate 32 92 ++ kq_o.map (fun r => ν (957 + r)) := rfl
  rw [a0, i2, kq_p28 H hA] at g0
  have lp : ∀ w : Int, (kq_px w A).length = 32 := fun w => by unfold kq_px; rw [List.length_map, hA]
  have l2 : (kq_px 54 A ++ List.replicate 32 54 ++ B).length = 96 := by rw [List.length_append, List.length_append, lp, List.length_replicate, hB]
  rw [a1, g0, i3, kq_32 H l2] at g1
  rw [a0, i2, kq_p29 H hA] at g2
  have l4 : (kq_px 92 A ++ List.replicate 32 92 ++ kq_96 Φ (kq_px 54 A ++ List.replicate 32 54 ++ B)).length = 96 := by rw [List.length_append, List.length_append, List.length_replicate, kq_l, lp]
  rw [a3, g1, g2, kq_33 H l4] at g3
  have o : (List.range 32).map (fun i => ν (925 + (14305 + 2 * i))) = kq_o.map (fun r => ν (8141 + r)) := by
    unfold kq_o
    rw [List.map_map]
    refine List.map_congr_left fun k _ => ?_
    show _ = ν (8141 + (7089 + 2 * k))
    rw [show 925 + (14305 + 2 * k) = 8141 + (7089 + 2 * k) by omega]
  rw [o, g3]
  rfl
theorem kq_m3 : km_mark3_g = [(925, 1030, (xn 369 32).map (fun g => (g, 0))), (957, 1032, (xn 925 32).map (fun g => (g, 0)) ++ List.replicate 32 (0, 54) ++ (xn 625 32).map (fun g => (g, 0))), (8109, 1031, (xn 369 32).map (fun g => (g, 0))), (8141, 1033, (xn 8109 32).map (fun g => (g, 0)) ++ List.replicate 32 (0, 92) ++ kq_o.map (fun r => (957 + r, 0)))] := by decide +kernel
theorem kq_ref3 (H : kH_37 Φ) {A B : List Int} (hA : A.length = 32) (hB : B.length = 32) : (List.range 32).map (fun r => Φ 37 (14305 + 2 * r) (A ++ B)) = kq_mac Φ A B := by
  obtain ⟨t1, t2⟩ := xk_tv_ok (Φ := Φ) (wd := kwd) (n := 924) (ag := xn 369 32 ++ xn 625 32) (tb := km_mark3_g) (by decide +kernel) (A ++ B)
  have e0 : (List.range 32).map (fun r => Φ 37 (14305 + 2 * r) (A ++ B)) = (List.range 32).map (fun r => xk_tv Φ kwd km_mark3_g (xn 369 32 ++ xn 625 32) (A ++ B) (925 + (14305 + 2 * r))) := List.map_congr_left fun r _ => by
    rw [H.2]
    rfl
  rw [e0]
  generalize xk_tv Φ kwd km_mark3_g (xn 369 32 ++ xn 625 32) (A ++ B) = ν at t1 t2
  have i1 : (xn 369 32 ++ xn 625 32).map ν = A ++ B := kq_in (wd := kwd) (tb := km_mark3_g) (by decide +kernel) (by rw [List.length_append, List.length_append, hA, hB]; rfl) (by decide +kernel) t1
  rw [List.map_append] at i1
  obtain ⟨i2, i3⟩ := List.append_inj i1 (by rw [hA]; rfl)
  rw [kq_m3] at t2
  have g0 := xk_cv (b := 925) (t := 30) (t2 _ List.mem_cons_self) (List.range 32) (by decide +kernel)
  have g1 := xk_cv (b := 957) (t := 32) (t2 _ (List.mem_cons_of_mem _ List.mem_cons_self)) kq_o (by decide +kernel)
  have g2 := xk_cv (b := 8109) (t := 31) (t2 _ (List.mem_cons_of_mem _ (List.mem_cons_of_mem _ List.mem_cons_self))) (List.range 32) (by decide +kernel)
  have g3 := xk_cv (b := 8141) (t := 33) (t2 _ (List.mem_cons_of_mem _ (List.mem_cons_of_mem _ (List.mem_cons_of_mem _ List.mem_cons_self)))) kq_o (by decide +kernel)
  have a0 : ((xn 369 32).map (fun g => ((g, 0) : xk_O))).map (xk_ov ν) = (xn 369 32).map ν := rfl
  have a1 : ((xn 925 32).map (fun g => ((g, 0) : xk_O)) ++ List.replicate 32 ((0, 54) : xk_O) ++ (xn 625 32).map (fun g => ((g, 0) : xk_O))).map (xk_ov ν) = (List.range 32).map (fun r => ν (925 + r)) ++ List.replicate 32 54 ++ (xn 625 32).map ν := rfl
  have a3 : ((xn 8109 32).map (fun g => ((g, 0) : xk_O)) ++ List.replicate 32 ((0, 92) : xk_O) ++ kq_o.map (fun r => ((957 + r, 0) : xk_O))).map (xk_ov ν) = (List.range 32).map (fun r => ν (8109 + r)) ++ List.replicate 32 92 ++ kq_o.map (fun r => ν (957 + r)) := rfl
  rw [a0, i2, kq_p30 H hA] at g0
  have lp : ∀ w : Int, (kq_px w A).length = 32 := fun w => by unfold kq_px; rw [List.length_map, hA]
  have l2 : (kq_px 54 A ++ List.replicate 32 54 ++ B).length = 96 := by rw [List.length_append, List.length_append, lp, List.length_replicate, hB]
  rw [a1, g0, i3, kq_32 H l2] at g1
  rw [a0, i2, kq_p31 H hA] at g2
  have l4 : (kq_px 92 A ++ List.replicate 32 92 ++ kq_96 Φ (kq_px 54 A ++ List.replicate 32 54 ++ B)).length = 96 := by rw [List.length_append, List.length_append, List.length_replicate, kq_l, lp]
  rw [a3, g1, g2, kq_33 H l4] at g3
  have o : (List.range 32).map (fun i => ν (925 + (14305 + 2 * i))) = kq_o.map (fun r => ν (8141 + r)) := by
    unfold kq_o
    rw [List.map_map]
    refine List.map_congr_left fun k _ => ?_
    show _ = ν (8141 + (7089 + 2 * k))
    rw [show 925 + (14305 + 2 * k) = 8141 + (7089 + 2 * k) by omega]
  rw [o, g3]
  rfl
end KQ
