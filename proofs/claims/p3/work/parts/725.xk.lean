/-! ===== digest: the class's and the reference's are one ===== -/
theorem xk_pos_map {ag : List Nat} {inp : List Int} (hn : ag.Nodup) (hl : ag.length = inp.length) : ag.map (fun g => xk_pos ag inp g) = inp := by
  apply List.ext_getElem?
  intro i
  by_cases hi : i < ag.length
  · rw [List.getElem?_map, List.getElem?_eq_getElem hi]
    show some (xk_pos ag inp ag[i]) = _
    rw [xk_pos_get hn (by omega) hi, List.getElem?_eq_getElem (by omega), List.getD_eq_getElem?_getD, List.getElem?_eq_getElem (by omega)]
    rfl
  · rw [List.getElem?_eq_none (by rw [List.length_map]; omega), List.getElem?_eq_none (by omega)]
def kd_oF : List Nat := [5, 11, 17, 23, 29, 35, 41, 47, 53, 59, 65, 71, 77, 83, 89, 95, 116, 137, 158, 179, 200, 221, 242, 263, 284, 305, 326, 347, 368, 389, 410, 431, 452, 473, 494, 515, 536, 557, 578, 599, 620, 641, 662, 683, 704, 725, 746, 767, 788, 809, 830, 851, 872, 893, 914, 935, 956, 977, 998, 1019, 1040, 1061, 1082, 1103]
def kd_oM : List Nat := [2432, 2433, 2434, 2435, 2436, 2437, 2438, 2439]
def ks_b (Φ : Nat → Nat → List Int → Int) (t : Nat) (B st : List Int) : List Int := (List.range 8).map (fun i => Φ t (3536 + i) (B ++ st))
def ks_iv : List Int := [1779033703, -1150833019, 1013904242, -1521486534, 1359893119, -1694144372, 528734635, 1541459225]
def ks_56 (Φ : Nat → Nat → List Int → Int) (W : List Int) : List Int := ks_b Φ 21 (W.take 64) ks_iv
def ks_120 (Φ : Nat → Nat → List Int → Int) (W : List Int) : List Int := ks_b Φ 22 ((W.drop 64).take 64) (ks_56 Φ W)
def ks_184 (Φ : Nat → Nat → List Int → Int) (W : List Int) : List Int := ks_b Φ 23 ((W.drop 128).take 64) (ks_120 Φ W)
/-- the length, as the class and as the reference write it -/
def ks_lc (b : Int) : List Int := (List.range 8).map (fun k => xk_sem 3 [xk_sem 30 [xk_sem 28 [b, ((56 - 8 * k : Nat) : Int)]], 255])
def ks_lr (n : Int) : List Int := [0, 0, 0, 0] ++ (List.range 4).map (fun k => xk_sem 3 [xk_sem 7 [xk_sem 2 [8, n], ((24 - 8 * k : Nat) : Int)], 255])
theorem ks_len : ∀ n : Nat, n < 129 → ks_lc (8 * (n : Int)) = ks_lr (n : Int) := by decide +kernel
theorem kd_cb0 {Φ : Nat → Nat → List Int → Int} (H : kH_37 Φ) {B st : List Int} (hB : B.length = 64) (hs : st.length = 8) : ks_b Φ 21 B st = kd_oM.map (fun r => Φ 5 r (kd_oF.map (fun r => Φ 1 r B) ++ st)) := by
  obtain ⟨f, rfl⟩ := xn_fn hB
  obtain ⟨f', rfl⟩ := xn_fn hs
  obtain ⟨t1, t2⟩ := xk_tv_ok (Φ := Φ) (wd := kwd) (n := 72) (ag := xn 1 72) (tb := kd_drv0) (by decide +kernel) ((xn 0 64).map f ++ (xn 0 8).map f')
  have e0 : ks_b Φ 21 ((xn 0 64).map f) ((xn 0 8).map f') = (List.range 8).map (fun i => xk_tv Φ kwd kd_drv0 (xn 1 72) ((xn 0 64).map f ++ (xn 0 8).map f') (3609 + i)) := by
    unfold ks_b
    refine List.map_congr_left fun i hi => ?_
    have hi := List.mem_range.mp hi
    rw [kd_block0 H.1.1.1.1.1.1.1.1.1.1.1.1.1.1 rfl (by omega)]
    show xk_tv Φ kwd kd_drv0 (xn 1 72) ((xn 0 64).map f ++ (xn 0 8).map f') (72 + 1 + (3536 + i)) = _
    rw [show 72 + 1 + (3536 + i) = 3609 + i by omega]
  rw [e0]
  generalize xk_tv Φ kwd kd_drv0 (xn 1 72) ((xn 0 64).map f ++ (xn 0 8).map f') = ν at t1 t2
  have i1 : (xn 1 72).map ν = (xn 0 64).map f ++ (xn 0 8).map f' := by
    have h : (xn 1 72).map ν = (xn 1 72).map (fun g => xk_pos (xn 1 72) ((xn 0 64).map f ++ (xn 0 8).map f') g) := List.map_congr_left fun g hg => t1 g (by
      have hall : (xn 1 72).all (fun g => decide (g ≤ 72)) = true := by decide
      exact of_decide_eq_true (List.all_eq_true.mp hall g hg))
    rw [h]
    exact xk_pos_map (xn_nodup 1 72) rfl
  have g1 := xk_cv (b := 73) (t := 1) (t2 _ (List.mem_of_getElem? (i := 0) rfl)) kd_oF (by decide +kernel)
  have g2 := xk_cv (b := 1177) (t := 5) (t2 _ (List.mem_of_getElem? (i := 1) rfl)) kd_oM (by decide +kernel)
  have a1 : (xn 1 64).map ν = (xn 0 64).map f := congrArg (List.take 64) i1
  have a2 : (xn 65 8).map ν = (xn 0 8).map f' := congrArg (List.drop 64) i1
  have b1 : kd_oF.map (fun r => ν (73 + r)) = kd_oF.map (fun r => Φ 1 r ((xn 0 64).map f)) := by rw [← a1]; exact g1
  have b2 : kd_oM.map (fun r => ν (1177 + r)) = kd_oM.map (fun r => Φ 5 r (kd_oF.map (fun r => Φ 1 r ((xn 0 64).map f)) ++ (xn 0 8).map f')) := by rw [← b1, ← a2]; exact g2
  rw [← b2]
  rfl
theorem kd_cb64 {Φ : Nat → Nat → List Int → Int} (H : kH_37 Φ) {B st : List Int} (hB : B.length = 64) (hs : st.length = 8) : ks_b Φ 22 B st = kd_oM.map (fun r => Φ 5 r (kd_oF.map (fun r => Φ 2 r B) ++ st)) := by
  obtain ⟨f, rfl⟩ := xn_fn hB
  obtain ⟨f', rfl⟩ := xn_fn hs
  obtain ⟨t1, t2⟩ := xk_tv_ok (Φ := Φ) (wd := kwd) (n := 72) (ag := xn 1 72) (tb := kd_drv64) (by decide +kernel) ((xn 0 64).map f ++ (xn 0 8).map f')
  have e0 : ks_b Φ 22 ((xn 0 64).map f) ((xn 0 8).map f') = (List.range 8).map (fun i => xk_tv Φ kwd kd_drv64 (xn 1 72) ((xn 0 64).map f ++ (xn 0 8).map f') (3609 + i)) := by
    unfold ks_b
    refine List.map_congr_left fun i hi => ?_
    have hi := List.mem_range.mp hi
    rw [kd_block64 H.1.1.1.1.1.1.1.1.1.1.1.1.1.1 rfl (by omega)]
    show xk_tv Φ kwd kd_drv64 (xn 1 72) ((xn 0 64).map f ++ (xn 0 8).map f') (72 + 1 + (3536 + i)) = _
    rw [show 72 + 1 + (3536 + i) = 3609 + i by omega]
  rw [e0]
  generalize xk_tv Φ kwd kd_drv64 (xn 1 72) ((xn 0 64).map f ++ (xn 0 8).map f') = ν at t1 t2
  have i1 : (xn 1 72).map ν = (xn 0 64).map f ++ (xn 0 8).map f' := by
    have h : (xn 1 72).map ν = (xn 1 72).map (fun g => xk_pos (xn 1 72) ((xn 0 64).map f ++ (xn 0 8).map f') g) := List.map_congr_left fun g hg => t1 g (by
      have hall : (xn 1 72).all (fun g => decide (g ≤ 72)) = true := by decide
      exact of_decide_eq_true (List.all_eq_true.mp hall g hg))
    rw [h]
    exact xk_pos_map (xn_nodup 1 72) rfl
  have g1 := xk_cv (b := 73) (t := 2) (t2 _ (List.mem_of_getElem? (i := 0) rfl)) kd_oF (by decide +kernel)
  have g2 := xk_cv (b := 1177) (t := 5) (t2 _ (List.mem_of_getElem? (i := 1) rfl)) kd_oM (by decide +kernel)
  have a1 : (xn 1 64).map ν = (xn 0 64).map f := congrArg (List.take 64) i1
  have a2 : (xn 65 8).map ν = (xn 0 8).map f' := congrArg (List.drop 64) i1
  have b1 : kd_oF.map (fun r => ν (73 + r)) = kd_oF.map (fun r => Φ 2 r ((xn 0 64).map f)) := by rw [← a1]; exact g1
  have b2 : kd_oM.map (fun r => ν (1177 + r)) = kd_oM.map (fun r => Φ 5 r (kd_oF.map (fun r => Φ 2 r ((xn 0 64).map f)) ++ (xn 0 8).map f')) := by rw [← b1, ← a2]; exact g2
  rw [← b2]
  rfl
theorem kd_cb128 {Φ : Nat → Nat → List Int → Int} (H : kH_37 Φ) {B st : List Int} (hB : B.length = 64) (hs : st.length = 8) : ks_b Φ 23 B st = kd_oM.map (fun r => Φ 5 r (kd_oF.map (fun r => Φ 3 r B) ++ st)) := by
  obtain ⟨f, rfl⟩ := xn_fn hB
  obtain ⟨f', rfl⟩ := xn_fn hs
  obtain ⟨t1, t2⟩ := xk_tv_ok (Φ := Φ) (wd := kwd) (n := 72) (ag := xn 1 72) (tb := kd_drv128) (by decide +kernel) ((xn 0 64).map f ++ (xn 0 8).map f')
  have e0 : ks_b Φ 23 ((xn 0 64).map f) ((xn 0 8).map f') = (List.range 8).map (fun i => xk_tv Φ kwd kd_drv128 (xn 1 72) ((xn 0 64).map f ++ (xn 0 8).map f') (3609 + i)) := by
    unfold ks_b
    refine List.map_congr_left fun i hi => ?_
    have hi := List.mem_range.mp hi
    rw [kd_block128 H.1.1.1.1.1.1.1.1.1.1.1.1.1.1 rfl (by omega)]
    show xk_tv Φ kwd kd_drv128 (xn 1 72) ((xn 0 64).map f ++ (xn 0 8).map f') (72 + 1 + (3536 + i)) = _
    rw [show 72 + 1 + (3536 + i) = 3609 + i by omega]
  rw [e0]
  generalize xk_tv Φ kwd kd_drv128 (xn 1 72) ((xn 0 64).map f ++ (xn 0 8).map f') = ν at t1 t2
  have i1 : (xn 1 72).map ν = (xn 0 64).map f ++ (xn 0 8).map f' := by
    have h : (xn 1 72).map ν = (xn 1 72).map (fun g => xk_pos (xn 1 72) ((xn 0 64).map f ++ (xn 0 8).map f') g) := List.map_congr_left fun g hg => t1 g (by
      have hall : (xn 1 72).all (fun g => decide (g ≤ 72)) = true := by decide
      exact of_decide_eq_true (List.all_eq_true.mp hall g hg))
    rw [h]
    exact xk_pos_map (xn_nodup 1 72) rfl
  have g1 := xk_cv (b := 73) (t := 3) (t2 _ (List.mem_of_getElem? (i := 0) rfl)) kd_oF (by decide +kernel)
  have g2 := xk_cv (b := 1177) (t := 5) (t2 _ (List.mem_of_getElem? (i := 1) rfl)) kd_oM (by decide +kernel)
  have a1 : (xn 1 64).map ν = (xn 0 64).map f := congrArg (List.take 64) i1
  have a2 : (xn 65 8).map ν = (xn 0 8).map f' := congrArg (List.drop 64) i1
  have b1 : kd_oF.map (fun r => ν (73 + r)) = kd_oF.map (fun r => Φ 3 r ((xn 0 64).map f)) := by rw [← a1]; exact g1
  have b2 : kd_oM.map (fun r => ν (1177 + r)) = kd_oM.map (fun r => Φ 5 r (kd_oF.map (fun r => Φ 3 r ((xn 0 64).map f)) ++ (xn 0 8).map f')) := by rw [← b1, ← a2]; exact g2
  rw [← b2]
  rfl
/-- the length's eight bytes in the class's tables -/
def kf_tl : List xk_E := (List.range 8).flatMap (fun k => [(362 + 3 * k, 28, [(361, 0), (0, ((56 - 8 * k : Nat) : Int))]), (363 + 3 * k, 30, [(362 + 3 * k, 0)]), (364 + 3 * k, 3, [(363 + 3 * k, 0), (0, 255)])])
theorem kf_ln {Φ : Nat → Nat → List Int → Int} {wd : Nat → Nat} {ν : Nat → Int} (t : xk_tok Φ wd ν kf_tl) : (List.range 8).map (fun k => ν (364 + 3 * k)) = ks_lc (ν 361) := by
  unfold ks_lc
  refine List.map_congr_left fun k hk => ?_
  have ov : ∀ {g : Nat}, 0 < g → xk_ov ν (g, 0) = ν g := fun {g} h => by
    unfold xk_ov
    rw [if_neg (by show ¬ g = 0; omega)]
  have hm : ∀ e ∈ [(362 + 3 * k, 28, [(361, 0), (0, ((56 - 8 * k : Nat) : Int))]), (363 + 3 * k, 30, [(362 + 3 * k, 0)]), (364 + 3 * k, 3, [(363 + 3 * k, 0), (0, 255)])], xk_eok Φ wd ν e := fun e he => t e (List.mem_flatMap.mpr ⟨k, hk, he⟩)
  have e1 : ν (362 + 3 * k) = xk_sem 28 [ν 361, ((56 - 8 * k : Nat) : Int)] := hm _ List.mem_cons_self
  have e2 : ν (363 + 3 * k) = xk_sem 30 [xk_ov ν (362 + 3 * k, 0)] := hm _ (List.mem_cons_of_mem _ List.mem_cons_self)
  have e3 : ν (364 + 3 * k) = xk_sem 3 [xk_ov ν (363 + 3 * k, 0), 255] := hm _ (List.mem_cons_of_mem _ (List.mem_cons_of_mem _ List.mem_cons_self))
  rw [e3, ov (by omega), e2, ov (by omega), e1]
theorem kf_p56 : kf_t56.take 24 = kf_tl := by decide +kernel
theorem kf_p120 : kf_t120.take 24 = kf_tl := by decide +kernel
theorem kf_p184 : kf_t184.take 24 = kf_tl := by decide +kernel
theorem kf_st56 {Φ : Nat → Nat → List Int → Int} (H : kH_37 Φ) {V : List Int} {b : Int} (hV : V.length = 56) : kf_st Φ 56 (V ++ [b]) = ks_56 Φ (V ++ ks_lc b) := by
  obtain ⟨t1, t2⟩ := xk_tv_ok (Φ := Φ) (wd := kwh) (n := 361) (ag := xn 33 56 ++ [361]) (tb := kf_t56) (by decide +kernel) (V ++ [b])
  have e0 : kf_st Φ 56 (V ++ [b]) = kf_o56.map (xk_ov (xk_tv Φ kwh kf_t56 (xn 33 56 ++ [361]) (V ++ [b]))) := rfl
  rw [e0]
  generalize xk_tv Φ kwh kf_t56 (xn 33 56 ++ [361]) (V ++ [b]) = ν at t1 t2
  have i1 : (xn 33 56 ++ [361]).map ν = V ++ [b] := by
    have h : (xn 33 56 ++ [361]).map ν = (xn 33 56 ++ [361]).map (fun g => xk_pos (xn 33 56 ++ [361]) (V ++ [b]) g) := List.map_congr_left fun g hg => t1 g (by
      have hall : (xn 33 56 ++ [361]).all (fun g => decide (g ≤ 361)) = true := by decide +kernel
      exact of_decide_eq_true (List.all_eq_true.mp hall g hg))
    rw [h]
    exact xk_pos_map (by decide +kernel) (by rw [List.length_append, List.length_append, hV]; rfl)
  rw [List.map_append] at i1
  obtain ⟨rfl, i2⟩ := List.append_inj i1.symm (by rw [hV]; rfl)
  have i2 : b = ν 361 := (List.cons.inj i2).1
  subst i2
  have hlen : [ν 364, ν 367, ν 370, ν 373, ν 376, ν 379, ν 382, ν 385] = ks_lc (ν 361) := kf_ln (wd := kwh) (fun e he => t2 e (List.mem_of_mem_take (i := 24) (by rw [kf_p56]; exact he)))
  have g0 := xk_cv (b := 386) (t := 1) (t2 _ (List.mem_of_getElem? (i := 24) rfl)) kd_oF (by decide +kernel)
  have h0 := xk_cv (b := 1490) (t := 5) (t2 _ (List.mem_of_getElem? (i := 25) rfl)) kd_oM (by decide +kernel)
  have u0 : kd_oF.map (fun r => ν (386 + r)) = kd_oF.map (fun r => Φ 1 r ((xn 33 56).map ν ++ ks_lc (ν 361))) := by rw [← hlen]; exact g0
  have w0 : kd_oM.map (fun r => ν (1490 + r)) = ks_b Φ 21 ((xn 33 56).map ν ++ ks_lc (ν 361)) ks_iv := by
    rw [kd_cb0 H rfl rfl, ← u0]
    exact h0
  have e1 : kf_o56.map (xk_ov ν) = kd_oM.map (fun r => ν (1490 + r)) := rfl
  rw [e1, w0]
  rfl
theorem kh_st56 {Φ : Nat → Nat → List Int → Int} {V : List Int} {b : Int} (hV : V.length = 56) : kh_st Φ 56 (V ++ [b]) = ks_56 Φ (V ++ ks_lr b) := by
  obtain ⟨t1, t2⟩ := xk_tv_ok (Φ := Φ) (wd := kwh) (n := 626) (ag := xn 1 56 ++ [625]) (tb := kh_t56) (by decide +kernel) (V ++ [b])
  have e0 : kh_st Φ 56 (V ++ [b]) = kh_o56.map (xk_ov (xk_tv Φ kwh kh_t56 (xn 1 56 ++ [625]) (V ++ [b]))) := rfl
  rw [e0]
  generalize xk_tv Φ kwh kh_t56 (xn 1 56 ++ [625]) (V ++ [b]) = ν at t1 t2
  have i1 : (xn 1 56 ++ [625]).map ν = V ++ [b] := by
    have h : (xn 1 56 ++ [625]).map ν = (xn 1 56 ++ [625]).map (fun g => xk_pos (xn 1 56 ++ [625]) (V ++ [b]) g) := List.map_congr_left fun g hg => t1 g (by
      have hall : (xn 1 56 ++ [625]).all (fun g => decide (g ≤ 626)) = true := by decide +kernel
      exact of_decide_eq_true (List.all_eq_true.mp hall g hg))
    rw [h]
    exact xk_pos_map (by decide +kernel) (by rw [List.length_append, List.length_append, hV]; rfl)
  rw [List.map_append] at i1
  obtain ⟨rfl, i2⟩ := List.append_inj i1.symm (by rw [hV]; rfl)
  have i2 : b = ν 625 := (List.cons.inj i2).1
  subst i2
  have hlen : [0, 0, 0, 0, ν 629, ν 632, ν 635, ν 638] = ks_lr (ν 625) := by
    unfold ks_lr
    have p0 : ν 627 = xk_sem 2 [8, ν 625] := t2 (627, 2, [(0, 8), (625, 0)]) (List.mem_of_getElem? (i := 0) rfl)
    have q0 : ν 628 = xk_sem 7 [ν 627, 24] := t2 (628, 7, [(627, 0), (0, 24)]) (List.mem_of_getElem? (i := 1) rfl)
    have s0 : ν 629 = xk_sem 3 [ν 628, 255] := t2 (629, 3, [(628, 0), (0, 255)]) (List.mem_of_getElem? (i := 2) rfl)
    have p1 : ν 630 = xk_sem 2 [8, ν 625] := t2 (630, 2, [(0, 8), (625, 0)]) (List.mem_of_getElem? (i := 3) rfl)
    have q1 : ν 631 = xk_sem 7 [ν 630, 16] := t2 (631, 7, [(630, 0), (0, 16)]) (List.mem_of_getElem? (i := 4) rfl)
    have s1 : ν 632 = xk_sem 3 [ν 631, 255] := t2 (632, 3, [(631, 0), (0, 255)]) (List.mem_of_getElem? (i := 5) rfl)
    have p2 : ν 633 = xk_sem 2 [8, ν 625] := t2 (633, 2, [(0, 8), (625, 0)]) (List.mem_of_getElem? (i := 6) rfl)
    have q2 : ν 634 = xk_sem 7 [ν 633, 8] := t2 (634, 7, [(633, 0), (0, 8)]) (List.mem_of_getElem? (i := 7) rfl)
    have s2 : ν 635 = xk_sem 3 [ν 634, 255] := t2 (635, 3, [(634, 0), (0, 255)]) (List.mem_of_getElem? (i := 8) rfl)
    have p3 : ν 636 = xk_sem 2 [8, ν 625] := t2 (636, 2, [(0, 8), (625, 0)]) (List.mem_of_getElem? (i := 9) rfl)
    have q3 : ν 637 = xk_sem 7 [ν 636, 0] := t2 (637, 7, [(636, 0), (0, 0)]) (List.mem_of_getElem? (i := 10) rfl)
    have s3 : ν 638 = xk_sem 3 [ν 637, 255] := t2 (638, 3, [(637, 0), (0, 255)]) (List.mem_of_getElem? (i := 11) rfl)
    rw [s0, q0, p0, s1, q1, p1, s2, q2, p2, s3, q3, p3]
    rfl
  have g0 := xk_cv (b := 639) (t := 21) (t2 _ (List.mem_of_getElem? (i := 12) rfl)) [3536, 3537, 3538, 3539, 3540, 3541, 3542, 3543] (by decide +kernel)
  have w0 : ([3536, 3537, 3538, 3539, 3540, 3541, 3542, 3543] : List Nat).map (fun r => ν (639 + r)) = ks_b Φ 21 ((xn 1 56).map ν ++ ks_lr (ν 625)) ks_iv := by
    rw [← hlen]
    exact g0
  have e1 : kh_o56.map (xk_ov ν) = ([3536, 3537, 3538, 3539, 3540, 3541, 3542, 3543] : List Nat).map (fun r => ν (639 + r)) := rfl
  rw [e1, w0]
  rfl
theorem kf_st120 {Φ : Nat → Nat → List Int → Int} (H : kH_37 Φ) {V : List Int} {b : Int} (hV : V.length = 120) : kf_st Φ 120 (V ++ [b]) = ks_120 Φ (V ++ ks_lc b) := by
  obtain ⟨t1, t2⟩ := xk_tv_ok (Φ := Φ) (wd := kwh) (n := 361) (ag := xn 33 120 ++ [361]) (tb := kf_t120) (by decide +kernel) (V ++ [b])
  have e0 : kf_st Φ 120 (V ++ [b]) = kf_o120.map (xk_ov (xk_tv Φ kwh kf_t120 (xn 33 120 ++ [361]) (V ++ [b]))) := rfl
  rw [e0]
  generalize xk_tv Φ kwh kf_t120 (xn 33 120 ++ [361]) (V ++ [b]) = ν at t1 t2
  have i1 : (xn 33 120 ++ [361]).map ν = V ++ [b] := by
    have h : (xn 33 120 ++ [361]).map ν = (xn 33 120 ++ [361]).map (fun g => xk_pos (xn 33 120 ++ [361]) (V ++ [b]) g) := List.map_congr_left fun g hg => t1 g (by
      have hall : (xn 33 120 ++ [361]).all (fun g => decide (g ≤ 361)) = true := by decide +kernel
      exact of_decide_eq_true (List.all_eq_true.mp hall g hg))
    rw [h]
    exact xk_pos_map (by decide +kernel) (by rw [List.length_append, List.length_append, hV]; rfl)
  rw [List.map_append] at i1
  obtain ⟨rfl, i2⟩ := List.append_inj i1.symm (by rw [hV]; rfl)
  have i2 : b = ν 361 := (List.cons.inj i2).1
  subst i2
  have hlen : [ν 364, ν 367, ν 370, ν 373, ν 376, ν 379, ν 382, ν 385] = ks_lc (ν 361) := kf_ln (wd := kwh) (fun e he => t2 e (List.mem_of_mem_take (i := 24) (by rw [kf_p120]; exact he)))
  have g0 := xk_cv (b := 386) (t := 1) (t2 _ (List.mem_of_getElem? (i := 24) rfl)) kd_oF (by decide +kernel)
  have h0 := xk_cv (b := 1490) (t := 5) (t2 _ (List.mem_of_getElem? (i := 25) rfl)) kd_oM (by decide +kernel)
  have u0 : kd_oF.map (fun r => ν (386 + r)) = kd_oF.map (fun r => Φ 1 r ((xn 33 64).map ν)) := by exact g0
  have w0 : kd_oM.map (fun r => ν (1490 + r)) = ks_b Φ 21 ((xn 33 64).map ν) ks_iv := by
    rw [kd_cb0 H rfl rfl, ← u0]
    exact h0
  have g1 := xk_cv (b := 3930) (t := 2) (t2 _ (List.mem_of_getElem? (i := 26) rfl)) kd_oF (by decide +kernel)
  have h1 := xk_cv (b := 5034) (t := 5) (t2 _ (List.mem_of_getElem? (i := 27) rfl)) kd_oM (by decide +kernel)
  have u1 : kd_oF.map (fun r => ν (3930 + r)) = kd_oF.map (fun r => Φ 2 r ((xn 97 56).map ν ++ ks_lc (ν 361))) := by rw [← hlen]; exact g1
  have w1 : kd_oM.map (fun r => ν (5034 + r)) = ks_b Φ 22 ((xn 97 56).map ν ++ ks_lc (ν 361)) (ks_b Φ 21 ((xn 33 64).map ν) ks_iv) := by
    rw [kd_cb64 H rfl rfl, ← u1, ← w0]
    exact h1
  have e1 : kf_o120.map (xk_ov ν) = kd_oM.map (fun r => ν (5034 + r)) := rfl
  rw [e1, w1]
  rfl
theorem kh_st120 {Φ : Nat → Nat → List Int → Int} {V : List Int} {b : Int} (hV : V.length = 120) : kh_st Φ 120 (V ++ [b]) = ks_120 Φ (V ++ ks_lr b) := by
  obtain ⟨t1, t2⟩ := xk_tv_ok (Φ := Φ) (wd := kwh) (n := 626) (ag := xn 1 120 ++ [625]) (tb := kh_t120) (by decide +kernel) (V ++ [b])
  have e0 : kh_st Φ 120 (V ++ [b]) = kh_o120.map (xk_ov (xk_tv Φ kwh kh_t120 (xn 1 120 ++ [625]) (V ++ [b]))) := rfl
  rw [e0]
  generalize xk_tv Φ kwh kh_t120 (xn 1 120 ++ [625]) (V ++ [b]) = ν at t1 t2
  have i1 : (xn 1 120 ++ [625]).map ν = V ++ [b] := by
    have h : (xn 1 120 ++ [625]).map ν = (xn 1 120 ++ [625]).map (fun g => xk_pos (xn 1 120 ++ [625]) (V ++ [b]) g) := List.map_congr_left fun g hg => t1 g (by
      have hall : (xn 1 120 ++ [625]).all (fun g => decide (g ≤ 626)) = true := by decide +kernel
      exact of_decide_eq_true (List.all_eq_true.mp hall g hg))
    rw [h]
    exact xk_pos_map (by decide +kernel) (by rw [List.length_append, List.length_append, hV]; rfl)
  rw [List.map_append] at i1
  obtain ⟨rfl, i2⟩ := List.append_inj i1.symm (by rw [hV]; rfl)
  have i2 : b = ν 625 := (List.cons.inj i2).1
  subst i2
  have hlen : [0, 0, 0, 0, ν 629, ν 632, ν 635, ν 638] = ks_lr (ν 625) := by
    unfold ks_lr
    have p0 : ν 627 = xk_sem 2 [8, ν 625] := t2 (627, 2, [(0, 8), (625, 0)]) (List.mem_of_getElem? (i := 0) rfl)
    have q0 : ν 628 = xk_sem 7 [ν 627, 24] := t2 (628, 7, [(627, 0), (0, 24)]) (List.mem_of_getElem? (i := 1) rfl)
    have s0 : ν 629 = xk_sem 3 [ν 628, 255] := t2 (629, 3, [(628, 0), (0, 255)]) (List.mem_of_getElem? (i := 2) rfl)
    have p1 : ν 630 = xk_sem 2 [8, ν 625] := t2 (630, 2, [(0, 8), (625, 0)]) (List.mem_of_getElem? (i := 3) rfl)
    have q1 : ν 631 = xk_sem 7 [ν 630, 16] := t2 (631, 7, [(630, 0), (0, 16)]) (List.mem_of_getElem? (i := 4) rfl)
    have s1 : ν 632 = xk_sem 3 [ν 631, 255] := t2 (632, 3, [(631, 0), (0, 255)]) (List.mem_of_getElem? (i := 5) rfl)
    have p2 : ν 633 = xk_sem 2 [8, ν 625] := t2 (633, 2, [(0, 8), (625, 0)]) (List.mem_of_getElem? (i := 6) rfl)
    have q2 : ν 634 = xk_sem 7 [ν 633, 8] := t2 (634, 7, [(633, 0), (0, 8)]) (List.mem_of_getElem? (i := 7) rfl)
    have s2 : ν 635 = xk_sem 3 [ν 634, 255] := t2 (635, 3, [(634, 0), (0, 255)]) (List.mem_of_getElem? (i := 8) rfl)
    have p3 : ν 636 = xk_sem 2 [8, ν 625] := t2 (636, 2, [(0, 8), (625, 0)]) (List.mem_of_getElem? (i := 9) rfl)
    have q3 : ν 637 = xk_sem 7 [ν 636, 0] := t2 (637, 7, [(636, 0), (0, 0)]) (List.mem_of_getElem? (i := 10) rfl)
    have s3 : ν 638 = xk_sem 3 [ν 637, 255] := t2 (638, 3, [(637, 0), (0, 255)]) (List.mem_of_getElem? (i := 11) rfl)
    rw [s0, q0, p0, s1, q1, p1, s2, q2, p2, s3, q3, p3]
    rfl
  have g0 := xk_cv (b := 639) (t := 21) (t2 _ (List.mem_of_getElem? (i := 12) rfl)) [3536, 3537, 3538, 3539, 3540, 3541, 3542, 3543] (by decide +kernel)
  have w0 : ([3536, 3537, 3538, 3539, 3540, 3541, 3542, 3543] : List Nat).map (fun r => ν (639 + r)) = ks_b Φ 21 ((xn 1 64).map ν) ks_iv := by
    exact g0
  have g1 := xk_cv (b := 4183) (t := 22) (t2 _ (List.mem_of_getElem? (i := 13) rfl)) [3536, 3537, 3538, 3539, 3540, 3541, 3542, 3543] (by decide +kernel)
  have w1 : ([3536, 3537, 3538, 3539, 3540, 3541, 3542, 3543] : List Nat).map (fun r => ν (4183 + r)) = ks_b Φ 22 ((xn 65 56).map ν ++ ks_lr (ν 625)) (ks_b Φ 21 ((xn 1 64).map ν) ks_iv) := by
    rw [← hlen, ← w0]
    exact g1
  have e1 : kh_o120.map (xk_ov ν) = ([3536, 3537, 3538, 3539, 3540, 3541, 3542, 3543] : List Nat).map (fun r => ν (4183 + r)) := rfl
  rw [e1, w1]
  rfl
theorem kf_st184 {Φ : Nat → Nat → List Int → Int} (H : kH_37 Φ) {V : List Int} {b : Int} (hV : V.length = 184) : kf_st Φ 184 (V ++ [b]) = ks_184 Φ (V ++ ks_lc b) := by
  obtain ⟨t1, t2⟩ := xk_tv_ok (Φ := Φ) (wd := kwh) (n := 361) (ag := xn 33 184 ++ [361]) (tb := kf_t184) (by decide +kernel) (V ++ [b])
  have e0 : kf_st Φ 184 (V ++ [b]) = kf_o184.map (xk_ov (xk_tv Φ kwh kf_t184 (xn 33 184 ++ [361]) (V ++ [b]))) := rfl
  rw [e0]
  generalize xk_tv Φ kwh kf_t184 (xn 33 184 ++ [361]) (V ++ [b]) = ν at t1 t2
  have i1 : (xn 33 184 ++ [361]).map ν = V ++ [b] := by
    have h : (xn 33 184 ++ [361]).map ν = (xn 33 184 ++ [361]).map (fun g => xk_pos (xn 33 184 ++ [361]) (V ++ [b]) g) := List.map_congr_left fun g hg => t1 g (by
      have hall : (xn 33 184 ++ [361]).all (fun g => decide (g ≤ 361)) = true := by decide +kernel
      exact of_decide_eq_true (List.all_eq_true.mp hall g hg))
    rw [h]
    exact xk_pos_map (by decide +kernel) (by rw [List.length_append, List.length_append, hV]; rfl)
  rw [List.map_append] at i1
  obtain ⟨rfl, i2⟩ := List.append_inj i1.symm (by rw [hV]; rfl)
  have i2 : b = ν 361 := (List.cons.inj i2).1
  subst i2
  have hlen : [ν 364, ν 367, ν 370, ν 373, ν 376, ν 379, ν 382, ν 385] = ks_lc (ν 361) := kf_ln (wd := kwh) (fun e he => t2 e (List.mem_of_mem_take (i := 24) (by rw [kf_p184]; exact he)))
  have g0 := xk_cv (b := 386) (t := 1) (t2 _ (List.mem_of_getElem? (i := 24) rfl)) kd_oF (by decide +kernel)
  have h0 := xk_cv (b := 1490) (t := 5) (t2 _ (List.mem_of_getElem? (i := 25) rfl)) kd_oM (by decide +kernel)
  have u0 : kd_oF.map (fun r => ν (386 + r)) = kd_oF.map (fun r => Φ 1 r ((xn 33 64).map ν)) := by exact g0
  have w0 : kd_oM.map (fun r => ν (1490 + r)) = ks_b Φ 21 ((xn 33 64).map ν) ks_iv := by
    rw [kd_cb0 H rfl rfl, ← u0]
    exact h0
  have g1 := xk_cv (b := 3930) (t := 2) (t2 _ (List.mem_of_getElem? (i := 26) rfl)) kd_oF (by decide +kernel)
  have h1 := xk_cv (b := 5034) (t := 5) (t2 _ (List.mem_of_getElem? (i := 27) rfl)) kd_oM (by decide +kernel)
  have u1 : kd_oF.map (fun r => ν (3930 + r)) = kd_oF.map (fun r => Φ 2 r ((xn 97 64).map ν)) := by exact g1
  have w1 : kd_oM.map (fun r => ν (5034 + r)) = ks_b Φ 22 ((xn 97 64).map ν) (ks_b Φ 21 ((xn 33 64).map ν) ks_iv) := by
    rw [kd_cb64 H rfl rfl, ← u1, ← w0]
    exact h1
  have g2 := xk_cv (b := 7474) (t := 3) (t2 _ (List.mem_of_getElem? (i := 28) rfl)) kd_oF (by decide +kernel)
  have h2 := xk_cv (b := 8578) (t := 5) (t2 _ (List.mem_of_getElem? (i := 29) rfl)) kd_oM (by decide +kernel)
  have u2 : kd_oF.map (fun r => ν (7474 + r)) = kd_oF.map (fun r => Φ 3 r ((xn 161 56).map ν ++ ks_lc (ν 361))) := by rw [← hlen]; exact g2
  have w2 : kd_oM.map (fun r => ν (8578 + r)) = ks_b Φ 23 ((xn 161 56).map ν ++ ks_lc (ν 361)) (ks_b Φ 22 ((xn 97 64).map ν) (ks_b Φ 21 ((xn 33 64).map ν) ks_iv)) := by
    rw [kd_cb128 H rfl rfl, ← u2, ← w1]
    exact h2
  have e1 : kf_o184.map (xk_ov ν) = kd_oM.map (fun r => ν (8578 + r)) := rfl
  rw [e1, w2]
  rfl
theorem kh_st184 {Φ : Nat → Nat → List Int → Int} {V : List Int} {b : Int} (hV : V.length = 184) : kh_st Φ 184 (V ++ [b]) = ks_184 Φ (V ++ ks_lr b) := by
  obtain ⟨t1, t2⟩ := xk_tv_ok (Φ := Φ) (wd := kwh) (n := 626) (ag := xn 1 184 ++ [625]) (tb := kh_t184) (by decide +kernel) (V ++ [b])
  have e0 : kh_st Φ 184 (V ++ [b]) = kh_o184.map (xk_ov (xk_tv Φ kwh kh_t184 (xn 1 184 ++ [625]) (V ++ [b]))) := rfl
  rw [e0]
  generalize xk_tv Φ kwh kh_t184 (xn 1 184 ++ [625]) (V ++ [b]) = ν at t1 t2
  have i1 : (xn 1 184 ++ [625]).map ν = V ++ [b] := by
    have h : (xn 1 184 ++ [625]).map ν = (xn 1 184 ++ [625]).map (fun g => xk_pos (xn 1 184 ++ [625]) (V ++ [b]) g) := List.map_congr_left fun g hg => t1 g (by
      have hall : (xn 1 184 ++ [625]).all (fun g => decide (g ≤ 626)) = true := by decide +kernel
      exact of_decide_eq_true (List.all_eq_true.mp hall g hg))
    rw [h]
    exact xk_pos_map (by decide +kernel) (by rw [List.length_append, List.length_append, hV]; rfl)
  rw [List.map_append] at i1
  obtain ⟨rfl, i2⟩ := List.append_inj i1.symm (by rw [hV]; rfl)
  have i2 : b = ν 625 := (List.cons.inj i2).1
  subst i2
  have hlen : [0, 0, 0, 0, ν 629, ν 632, ν 635, ν 638] = ks_lr (ν 625) := by
    unfold ks_lr
    have p0 : ν 627 = xk_sem 2 [8, ν 625] := t2 (627, 2, [(0, 8), (625, 0)]) (List.mem_of_getElem? (i := 0) rfl)
    have q0 : ν 628 = xk_sem 7 [ν 627, 24] := t2 (628, 7, [(627, 0), (0, 24)]) (List.mem_of_getElem? (i := 1) rfl)
    have s0 : ν 629 = xk_sem 3 [ν 628, 255] := t2 (629, 3, [(628, 0), (0, 255)]) (List.mem_of_getElem? (i := 2) rfl)
    have p1 : ν 630 = xk_sem 2 [8, ν 625] := t2 (630, 2, [(0, 8), (625, 0)]) (List.mem_of_getElem? (i := 3) rfl)
    have q1 : ν 631 = xk_sem 7 [ν 630, 16] := t2 (631, 7, [(630, 0), (0, 16)]) (List.mem_of_getElem? (i := 4) rfl)
    have s1 : ν 632 = xk_sem 3 [ν 631, 255] := t2 (632, 3, [(631, 0), (0, 255)]) (List.mem_of_getElem? (i := 5) rfl)
    have p2 : ν 633 = xk_sem 2 [8, ν 625] := t2 (633, 2, [(0, 8), (625, 0)]) (List.mem_of_getElem? (i := 6) rfl)
    have q2 : ν 634 = xk_sem 7 [ν 633, 8] := t2 (634, 7, [(633, 0), (0, 8)]) (List.mem_of_getElem? (i := 7) rfl)
    have s2 : ν 635 = xk_sem 3 [ν 634, 255] := t2 (635, 3, [(634, 0), (0, 255)]) (List.mem_of_getElem? (i := 8) rfl)
    have p3 : ν 636 = xk_sem 2 [8, ν 625] := t2 (636, 2, [(0, 8), (625, 0)]) (List.mem_of_getElem? (i := 9) rfl)
    have q3 : ν 637 = xk_sem 7 [ν 636, 0] := t2 (637, 7, [(636, 0), (0, 0)]) (List.mem_of_getElem? (i := 10) rfl)
    have s3 : ν 638 = xk_sem 3 [ν 637, 255] := t2 (638, 3, [(637, 0), (0, 255)]) (List.mem_of_getElem? (i := 11) rfl)
    rw [s0, q0, p0, s1, q1, p1, s2, q2, p2, s3, q3, p3]
    rfl
  have g0 := xk_cv (b := 639) (t := 21) (t2 _ (List.mem_of_getElem? (i := 12) rfl)) [3536, 3537, 3538, 3539, 3540, 3541, 3542, 3543] (by decide +kernel)
  have w0 : ([3536, 3537, 3538, 3539, 3540, 3541, 3542, 3543] : List Nat).map (fun r => ν (639 + r)) = ks_b Φ 21 ((xn 1 64).map ν) ks_iv := by
    exact g0
  have g1 := xk_cv (b := 4183) (t := 22) (t2 _ (List.mem_of_getElem? (i := 13) rfl)) [3536, 3537, 3538, 3539, 3540, 3541, 3542, 3543] (by decide +kernel)
  have w1 : ([3536, 3537, 3538, 3539, 3540, 3541, 3542, 3543] : List Nat).map (fun r => ν (4183 + r)) = ks_b Φ 22 ((xn 65 64).map ν) (ks_b Φ 21 ((xn 1 64).map ν) ks_iv) := by
    rw [← w0]
    exact g1
  have g2 := xk_cv (b := 7727) (t := 23) (t2 _ (List.mem_of_getElem? (i := 14) rfl)) [3536, 3537, 3538, 3539, 3540, 3541, 3542, 3543] (by decide +kernel)
  have w2 : ([3536, 3537, 3538, 3539, 3540, 3541, 3542, 3543] : List Nat).map (fun r => ν (7727 + r)) = ks_b Φ 23 ((xn 129 56).map ν ++ ks_lr (ν 625)) (ks_b Φ 22 ((xn 65 64).map ν) (ks_b Φ 21 ((xn 1 64).map ν) ks_iv)) := by
    rw [← hlen, ← w1]
    exact g2
  have e1 : kh_o184.map (xk_ov ν) = ([3536, 3537, 3538, 3539, 3540, 3541, 3542, 3543] : List Nat).map (fun r => ν (7727 + r)) := rfl
  rw [e1, w2]
  rfl
/-- one function -/
theorem ks_same {Φ : Nat → Nat → List Int → Int} (H : kH_37 Φ) {n : Nat} (hn : n < 129) {v : List Int} (hv : v.length = n) : kf_fn Φ n v = kh_fn Φ n v := by
  have hl : (kf_pad n v).length = kf_cn n := by
    unfold kf_pad
    rw [List.length_append, List.length_append, List.length_replicate, hv]
    show n + 1 + (kf_cn n - n - 1) = kf_cn n
    unfold kf_cn
    split
    · omega
    · split <;> omega
  unfold kf_fn kh_fn
  have hc : kf_cn n = 56 ∨ kf_cn n = 120 ∨ kf_cn n = 184 := by
    unfold kf_cn
    split
    · exact Or.inl rfl
    · split
      · exact Or.inr (Or.inl rfl)
      · exact Or.inr (Or.inr rfl)
  rcases hc with z | z | z <;> rw [z] at hl ⊢
  · rw [kf_st56 H hl, kh_st56 hl, ks_len n hn]
  · rw [kf_st120 H hl, kh_st120 hl, ks_len n hn]
  · rw [kf_st184 H hl, kh_st184 hl, ks_len n hn]
