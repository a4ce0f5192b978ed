/-! ===== the class: written; what reckon reckons ===== -/
section XM
variable {Φ : Nat → Nat → List Int → Int}
/-- writing -/
def kx_lb : List (Nat × Nat) := (List.range 10).flatMap (fun l => (List.range (26 - l % 2)).map (fun j => (l, j)))
def kx_win : List (Nat × Int × Int) := (List.range 10).map (fun i => (1 + i, 0, if i % 2 = 0 then 67108863 else 33554431))
def kx_wout : List (Nat × Int × Int) := (List.range 32).map (fun i => (43 + kx_oW.getD i 0, 0, 255))
def kx_wb (l : Nat) : List Nat := (List.range (26 - l % 2)).map (fun j => 44 + 5 * (xc_E10.getD l 0 + j))
def kx_wl (l : Nat) : xa_P := xa_lin (kx_wb l) (List.range (26 - l % 2))
def kx_ws : Nat → xa_P
  | 0 => []
  | l + 1 => xa_add (xa_scl ((2 ^ xc_E10.getD l 0 : Nat) : Int) (kx_wl l)) (kx_ws l)
theorem kx_wck : xc_ck kc_write_g kx_win kx_wout (kn_es 32 0) 0 (some (kx_ws 10)) = true := by decide +kernel
theorem kx_wok : xc_ok kc_write_g kx_win = true := by decide +kernel
theorem kx_wf27 : kc_write_g.filter (fun e => e.2.1 == 27) = ((List.range 255).zip kx_lb).map (fun q => (43 + 5 * q.1, 27, [(q.2.1 + 1, 0), (0, (q.2.2 : Int))])) := by decide +kernel
theorem kx_wf23 : kc_write_g.filter (fun e => e.2.1 == 23) = (List.range 255).map (fun i => (44 + 5 * i, 23, [(43 + 5 * i, 0), (0, 1)])) := by decide +kernel
theorem kx_lbg : (List.range 10).all (fun l => (List.range (26 - l % 2)).all (fun j => decide (kx_lb[xc_E10.getD l 0 + j]? = some (l, j)) && decide (xc_E10.getD l 0 + j < 255) && decide (j < 63))) = true := by decide +kernel
def kx_sm (f : Nat → Int) : Nat → Int
  | 0 => 0
  | l + 1 => ((2 ^ xc_E10.getD l 0 : Nat) : Int) * f l + kx_sm f l
theorem kx_sm_ok (f : Nat → Int) : kx_sm f 10 = xc_val ((xn 0 10).map f) xc_E10 := by
  have e1 : kx_sm f 10 = 1725436586697640946858688965569256363112777243042596638790631055949824 * f 9 + (25711008708143844408671393477458601640355247900524685364822016 * f 8 + (766247770432944429179173513575154591809369561091801088 * f 7 + (11417981541647679048466287755595961091061972992 * f 6 + (340282366920938463463374607431768211456 * f 5 + (5070602400912917605986812821504 * f 4 + (151115727451828646838272 * f 3 + (2251799813685248 * f 2 + (67108864 * f 1 + (1 * f 0 + (0)))))))))) := rfl
  have e2 : xc_val ((xn 0 10).map f) xc_E10 = 1 * f 0 + (67108864 * f 1 + (2251799813685248 * f 2 + (151115727451828646838272 * f 3 + (5070602400912917605986812821504 * f 4 + (340282366920938463463374607431768211456 * f 5 + (11417981541647679048466287755595961091061972992 * f 6 + (766247770432944429179173513575154591809369561091801088 * f 7 + (25711008708143844408671393477458601640355247900524685364822016 * f 8 + (1725436586697640946858688965569256363112777243042596638790631055949824 * f 9 + (0)))))))))) := rfl
  rw [e1, e2]
  omega
theorem kx_wr (H : kC_13 Φ) {y : List Int} {v : Int} (h : kx_N y v) : kx_oW.map (fun r => Φ 13 r y) = kn_dig 32 v := by
  obtain ⟨hl, hb, hv⟩ := h
  obtain ⟨f, rfl⟩ := xn_fn hl
  obtain ⟨t1, t2⟩ := xk_tv_ok (Φ := Φ) (wd := kwe) (n := 42) (ag := xn 1 10) (tb := kc_write_g) (by decide +kernel) ((xn 0 10).map f)
  generalize hν : xk_tv Φ kwe kc_write_g (xn 1 10) ((xn 0 10).map f) = ν at t1 t2
  have hΦ : (fun r => Φ 13 r ((xn 0 10).map f)) = fun r => ν (43 + r) := by
    funext r
    rw [H.2, ← hν]
    rfl
  have hg : ∀ i, i < 10 → ((xn 0 10).map f)[i]? = some (f i) := fun i hi => by
    unfold xn
    rw [List.getElem?_map, List.getElem?_map, List.getElem?_range hi]
    show some (f (0 + i)) = some (f i)
    rw [Nat.zero_add]
  have hin : ∀ i, i < 10 → ν (1 + i) = f i := fun i hi => by
    rw [t1 _ (by omega), xl_pos (N := 10) rfl hi, List.getD_eq_getElem?_getD, hg i hi]
    rfl
  have hfb : ∀ i, i < 10 → 0 ≤ f i ∧ f i ≤ (if i % 2 = 0 then 67108863 else 33554431) := fun i hi => hb i _ (hg i hi)
  have hbd : ∀ q ∈ kx_win, q.2.1 ≤ ν q.1 ∧ ν q.1 ≤ q.2.2 := fun q hq => by
    unfold kx_win at hq
    obtain ⟨i, hi, rfl⟩ := List.mem_map.mp hq
    have hi := List.mem_range.mp hi
    rw [hin i hi]
    exact hfb i hi
  obtain ⟨w, w1, w2, w3⟩ := xc_ck_ok kx_wck t2 hbd
  have hx := xc_ok_ex kx_wok t2 hbd
  have w1 := Option.some.inj w1
  subst w1
  have w2 := xc_zero w2
  have hbit : ∀ l, l < 10 → ∀ j, j < 26 - l % 2 → ν (44 + 5 * (xc_E10.getD l 0 + j)) = kn_bit (f l) j := by
    intro l h1 j hj
    have hk := List.all_eq_true.mp (List.all_eq_true.mp kx_lbg l (List.mem_range.mpr h1)) j (List.mem_range.mpr hj)
    simp only [Bool.and_eq_true, decide_eq_true_eq] at hk
    obtain ⟨⟨k1, k2⟩, k3⟩ := hk
    generalize xc_E10.getD l 0 + j = i at k1 k2
    have m27 : (43 + 5 * i, 27, [(l + 1, 0), (0, (j : Int))]) ∈ kc_write_g := by
      have : (43 + 5 * i, 27, [(l + 1, 0), (0, (j : Int))]) ∈ kc_write_g.filter (fun e => e.2.1 == 27) := by
        rw [kx_wf27]
        refine List.mem_map.mpr ⟨(i, (l, j)), List.mem_of_getElem? (i := i) ?_, rfl⟩
        rw [List.getElem?_zip_eq_some]
        exact ⟨List.getElem?_range k2, k1⟩
      exact (List.mem_filter.mp this).1
    have m23 : (44 + 5 * i, 23, [(43 + 5 * i, 0), (0, 1)]) ∈ kc_write_g := by
      have : (44 + 5 * i, 23, [(43 + 5 * i, 0), (0, 1)]) ∈ kc_write_g.filter (fun e => e.2.1 == 23) := by
        rw [kx_wf23]
        exact List.mem_map.mpr ⟨i, List.mem_range.mpr k2, rfl⟩
      exact (List.mem_filter.mp this).1
    have e27 : ν (43 + 5 * i) = xk_ov ν (l + 1, 0) / ((2 ^ j : Nat) : Int) := hx _ m27 j (by
      show (if (0 : Nat) = 0 ∧ (0 : Int) ≤ (j : Int) ∧ (j : Int) < ((63 : Nat) : Int) then some (j : Int).toNat else none) = some j
      rw [if_pos ⟨rfl, by omega, by omega⟩]
      rfl)
    have e23 : ν (44 + 5 * i) = xk_sem 23 [xk_ov ν (43 + 5 * i, 0), 1] := t2 _ m23
    have o1 : xk_ov ν (l + 1, 0) = f l := by
      unfold xk_ov
      rw [if_neg (by show ¬ l + 1 = 0; omega)]
      show ν (l + 1) = f l
      rw [Nat.add_comm, hin l h1]
    have o2 : xk_ov ν (43 + 5 * i, 0) = ν (43 + 5 * i) := by
      unfold xk_ov
      rw [if_neg (by show ¬ 43 + 5 * i = 0; omega)]
    have hf := hfb l h1
    have hf2 : f l ≤ 67108863 := by
      have := hf.2
      split at this <;> omega
    have hp : (0 : Int) < ((2 ^ j : Nat) : Int) := by
      have := Nat.two_pow_pos j
      omega
    have n0 : 0 ≤ f l / ((2 ^ j : Nat) : Int) := Int.ediv_nonneg hf.1 (by omega)
    have n1 : f l / ((2 ^ j : Nat) : Int) ≤ f l := Int.ediv_le_self _ hf.1
    rw [e23, o2, e27, o1, kn_and1 n0 (by omega)]
    rfl
  have hwl : ∀ l, l < 10 → xa_e ν (kx_wl l) = f l := by
    intro l h1
    unfold kx_wl
    rw [xa_lin_ok ν (by
      intro g hg
      unfold kx_wb at hg
      obtain ⟨j, _, rfl⟩ := List.mem_map.mp hg
      omega)]
    have e : (kx_wb l).map ν = (List.range (26 - l % 2)).map (kn_bit (f l)) := by
      unfold kx_wb
      rw [List.map_map]
      exact List.map_congr_left fun j hj => hbit l h1 j (List.mem_range.mp hj)
    rw [e, kn_bits]
    have hf := hfb l h1
    refine Int.emod_eq_of_lt hf.1 ?_
    have h2 := hf.2
    rcases Nat.mod_two_eq_zero_or_one l with z | z
    · rw [if_pos z] at h2
      rw [z]
      show f l < 67108864
      omega
    · rw [if_neg (by omega)] at h2
      rw [z]
      show f l < 33554432
      omega
  have hws : ∀ k, k ≤ 10 → xa_e ν (kx_ws k) = kx_sm f k := by
    intro k
    induction k with
    | zero => intro _; rfl
    | succ k ih =>
      intro hk
      unfold kx_ws kx_sm
      rw [xa_add_ok, xa_scl_ok, hwl k (by omega), ih (by omega)]
  rw [hws 10 (by omega), kx_sm_ok, hv] at w2
  rw [hΦ]
  have ho : kx_oW.map (fun r => ν (43 + r)) = (kx_wout.map Prod.fst).map ν := rfl
  have hlen : ((kx_wout.map Prod.fst).map ν).length = 32 := rfl
  have hby : ∀ a ∈ (kx_wout.map Prod.fst).map ν, 0 ≤ a ∧ a ≤ 255 := fun a ha => by
    obtain ⟨g, hg, rfl⟩ := List.mem_map.mp ha
    obtain ⟨q, hq, rfl⟩ := List.mem_map.mp hg
    have hw := w3 q hq
    unfold kx_wout at hq
    obtain ⟨i, _, rfl⟩ := List.mem_map.mp hq
    exact hw
  have hes := kn_es_ok ((kx_wout.map Prod.fst).map ν) 0
  rw [hlen, w2] at hes
  have hd := kn_dig_ok hby
  rw [hlen] at hd
  have hbv : kn_bv ((kx_wout.map Prod.fst).map ν) = v := by
    rw [hes]
    show kn_bv _ = 1 * kn_bv _
    rw [Int.one_mul]
  rw [hbv] at hd
  rw [ho]
  exact hd
/-- the last product, within finer bounds -/
def kx_mout : List (Nat × Int × Int) := (List.range 10).map (fun i => (21 + kv_oX.getD i 0, if i % 2 = 0 then -33554432 else if i = 9 then -16777216 else -17000000, if i % 2 = 0 then 33554432 else if i = 9 then 16777216 else 17000000))
theorem kx_mck : xc_ck kc_mulIX_g (xc_b10 1 134217728 ++ xc_b10 11 134217728) kx_mout xc_E10 xc_p (xa_mul (xa_lin (xn 1 10) xc_E10) (xa_lin (xn 11 10) xc_E10)) = true := by decide +kernel
theorem kx_last (H : kC_13 Φ) {v w : List Int} {x y : Int} (h : xl_L 134217728 v x) (h' : xl_L 134217728 w y) : kx_oW.map (fun r => Φ 13 r (kx_oD.map (fun r => Φ 10 r (kv_oX.map (fun r => Φ 3 r (v ++ w)))))) = kn_dig 32 (x * y % xc_p) := by
  obtain ⟨f, rfl⟩ := xn_fn h.1
  obtain ⟨f', rfl⟩ := xn_fn h'.1
  obtain ⟨t1, t2⟩ := xk_tv_ok (Φ := Φ) (wd := kwe) (n := 20) (ag := xn 1 20) (tb := kc_mulIX_g) (by decide +kernel) ((xn 0 10).map f ++ (xn 0 10).map f')
  generalize hν : xk_tv Φ kwe kc_mulIX_g (xn 1 20) ((xn 0 10).map f ++ (xn 0 10).map f') = ν at t1 t2
  have hΦ : (fun r => Φ 3 r ((xn 0 10).map f ++ (xn 0 10).map f')) = fun r => ν (21 + r) := by
    funext r
    rw [H.1.1.1.1.1.1.1.1.1.1.2, ← hν]
    rfl
  have n1 : (xn 1 10).map ν = (xn 0 10).map f := xl_nu (N := 20) (k := 0) (j := 10) (n := 20) t1 rfl (by omega) (by omega)
  have n2 : (xn 11 10).map ν = (xn 0 10).map f' := xl_nu (N := 20) (k := 10) (j := 10) (n := 20) t1 rfl (by omega) (by omega)
  have g1 : xl_G ν 134217728 (xn 1 10) x := xl_L_G (by rw [n1]; exact h)
  have g2 : xl_G ν 134217728 (xn 11 10) y := xl_L_G (by rw [n2]; exact h')
  obtain ⟨p, p1, p2, p3⟩ := xc_ck_ok kx_mck t2 (fun q hq => by
    rcases List.mem_append.mp hq with hq | hq
    · exact xl_bnd g1 (fun i g hg => by
        unfold xn at hg
        rw [List.getElem?_map] at hg
        cases hr : (List.range 10)[i]? with
        | none => rw [hr] at hg; cases hg
        | some j =>
          rw [hr] at hg
          have hj : i = j := by
            have := List.getElem?_range (n := 10) (i := i) (by have := (List.getElem?_eq_some_iff.mp hr).1; simpa using this)
            rw [this] at hr
            exact Option.some.inj hr
          subst hj
          cases hg
          rfl) q hq
    · exact xl_bnd g2 (fun i g hg => by
        unfold xn at hg
        rw [List.getElem?_map] at hg
        cases hr : (List.range 10)[i]? with
        | none => rw [hr] at hg; cases hg
        | some j =>
          rw [hr] at hg
          have hj : i = j := by
            have := List.getElem?_range (n := 10) (i := i) (by have := (List.getElem?_eq_some_iff.mp hr).1; simpa using this)
            rw [this] at hr
            exact Option.some.inj hr
          subst hj
          cases hg
          rfl) q hq)
  have hc : xl_cg (xc_val ((kx_mout.map Prod.fst).map ν) xc_E10) (x * y) := by
    have p2 : xl_cg _ (xa_e ν p) := p2
    rw [xl_w2 p1] at p2
    exact p2.trans (g1.2.2.mul g2.2.2)
  have ho : kv_oX.map (fun r => ν (21 + r)) = (kx_mout.map Prod.fst).map ν := rfl
  have bnd : ∀ (i : Nat) (a : Int), ((kx_mout.map Prod.fst).map ν)[i]? = some a → (if i % 2 = 0 then (-33554432 : Int) else if i = 9 then -16777216 else -17000000) ≤ a ∧ a ≤ (if i % 2 = 0 then 33554432 else if i = 9 then 16777216 else 17000000) := fun i a ha => by
    have hi : i < 10 := (List.getElem?_eq_some_iff.mp ha).1
    have hq : kx_mout[i]? = some (21 + kv_oX.getD i 0, if i % 2 = 0 then -33554432 else if i = 9 then -16777216 else -17000000, if i % 2 = 0 then 33554432 else if i = 9 then 16777216 else 17000000) := by
      unfold kx_mout
      rw [List.getElem?_map, List.getElem?_range hi]
      rfl
    rw [List.getElem?_map, List.getElem?_map, hq] at ha
    have hb := p3 _ (List.mem_of_getElem? hq)
    have ha : ν (21 + kv_oX.getD i 0) = a := Option.some.inj ha
    dsimp only at hb
    rw [ha] at hb
    exact hb
  rw [hΦ, ho]
  obtain ⟨F, hF⟩ := xn_fn (n := 10) (v := (kx_mout.map Prod.fst).map ν) rfl
  rw [hF] at bnd hc ⊢
  have q0 : -33554432 ≤ F 0 ∧ F 0 ≤ 33554432 := bnd 0 _ rfl
  have q1 : -17000000 ≤ F 1 ∧ F 1 ≤ 17000000 := bnd 1 _ rfl
  have q2 : -33554432 ≤ F 2 ∧ F 2 ≤ 33554432 := bnd 2 _ rfl
  have q3 : -17000000 ≤ F 3 ∧ F 3 ≤ 17000000 := bnd 3 _ rfl
  have q4 : -33554432 ≤ F 4 ∧ F 4 ≤ 33554432 := bnd 4 _ rfl
  have q5 : -17000000 ≤ F 5 ∧ F 5 ≤ 17000000 := bnd 5 _ rfl
  have q6 : -33554432 ≤ F 6 ∧ F 6 ≤ 33554432 := bnd 6 _ rfl
  have q7 : -17000000 ≤ F 7 ∧ F 7 ≤ 17000000 := bnd 7 _ rfl
  have q8 : -33554432 ≤ F 8 ∧ F 8 ≤ 33554432 := bnd 8 _ rfl
  have q9 : -16777216 ≤ F 9 ∧ F 9 ≤ 16777216 := bnd 9 _ rfl
  have hX : xc_val ((xn 0 10).map F) xc_E10 = 1 * F 0 + (67108864 * F 1 + (2251799813685248 * F 2 + (151115727451828646838272 * F 3 + (5070602400912917605986812821504 * F 4 + (340282366920938463463374607431768211456 * F 5 + (11417981541647679048466287755595961091061972992 * F 6 + (766247770432944429179173513575154591809369561091801088 * F 7 + (25711008708143844408671393477458601640355247900524685364822016 * F 8 + (1725436586697640946858688965569256363112777243042596638790631055949824 * F 9 + (0)))))))))) := rfl
  have hr := kx_red H (x := (xn 0 10).map F) rfl (fun i a ha => by
    have := bnd i a ha
    refine ⟨fun h => ?_, fun h => ?_⟩
    · rw [if_pos h, if_pos h] at this
      omega
    · have h0 : ¬ i % 2 = 0 := by omega
      rw [if_neg h0, if_neg h0] at this
      by_cases h9 : i = 9
      · rw [if_pos h9, if_pos h9] at this
        omega
      · rw [if_neg h9, if_neg h9] at this
        omega) (by
    rw [hX]
    constructor <;> omega)
  rw [xl_cg_mod hc] at hr
  exact kx_wr H hr
/-- what reckon reckons -/
theorem kx_rk_ok (H : kX Φ) {B P : List Int} (hP : kn_by P) : kx_rk Φ B P = kn_ans B P := by
  have H1 := H.1.1.1
  have hr := kx_read H1 hP
  have hz : xl_L 67108864 [0, 0, 0, 0, 0, 0, 0, 0, 0, 0] 0 := ⟨rfl, fun i a ha => by
    have : a = 0 := by
      have := List.mem_of_getElem? ha
      simpa using this
    subst this
    exact ⟨fun _ => ⟨by decide, by decide⟩, fun _ => ⟨by decide, by decide⟩⟩, ⟨0, by decide⟩⟩
  have h1 : xl_L 67108864 [1, 0, 0, 0, 0, 0, 0, 0, 0, 0] 1 := ⟨rfl, fun i a ha => by
    have : a = 1 ∨ a = 0 := by
      have := List.mem_of_getElem? ha
      simpa using this
    rcases this with rfl | rfl <;> exact ⟨fun _ => ⟨by decide, by decide⟩, fun _ => ⟨by decide, by decide⟩⟩, ⟨0, by decide⟩⟩
  have hS : kx_S (kx_v0 Φ P) (kn_num P) (1, 0, kn_num P, 1) := by
    unfold kx_v0
    obtain ⟨F, hF⟩ := xn_fn (n := 10) (v := kx_oR.map (fun r => Φ 12 r P)) rfl
    rw [hF] at hr ⊢
    exact ⟨rfl, h1, hz, hr, h1, hr⟩
  have hI := kx_it_ok H1 (B := fun j => B.getD j 0) 255 hS
  unfold kx_rk kx_end kn_ans kn_res
  have hq : xl_it (kn_num P) (fun j => B.getD j 0) 255 (1, 0, kn_num P, 1) = kn_q B P := rfl
  rw [hq] at hI
  generalize kx_it Φ (fun j => B.getD j 0) 255 (kx_v0 Φ P) = v at hI ⊢
  obtain ⟨hl, ha, hb, -, -, -⟩ := hI
  have hb' := hb.le (k' := 134217728) (by decide)
  have hi := kv_it_ok H1 hb' 254 hb'
  have hinv : (List.range 10).map (fun r => Φ 40 r ((v.drop 10).take 10)) = kv_it Φ ((v.drop 10).take 10) 254 ((v.drop 10).take 10) := by
    apply List.ext_getElem?
    intro i
    by_cases hi' : i < 10
    · rw [List.getElem?_map, List.getElem?_range hi', kx_get hi.1 hi']
      show some (Φ 40 i _) = _
      rw [H.1.2]
      rfl
    · rw [List.getElem?_eq_none (by simp; omega), List.getElem?_eq_none (by rw [hi.1]; omega)]
  rw [hinv]
  exact kx_last H1 (ha.le (by decide)) hi
end XM
