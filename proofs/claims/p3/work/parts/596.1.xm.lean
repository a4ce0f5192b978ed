/-! ===== the class: brought to 0 .. p - 1 ===== -/
section XM
variable {Φ : Nat → Nat → List Int → Int}
/-- limbs between 0 and their weights' quotient, and their number -/
def kx_N (y : List Int) (v : Int) : Prop := y.length = 10 ∧ (∀ (i : Nat) (a : Int), y[i]? = some a → 0 ≤ a ∧ a ≤ (if i % 2 = 0 then 67108863 else 33554431)) ∧ xc_val y xc_E10 = v
/-- rounding down, limb by limb -/
theorem kx_flo {E B E' P x s s' P' : Int} (hE : 0 < E) (hB : 0 < B) (hE' : E' = E * B) (hs : s' = (x + s) / B) (hP : P' = P + E * x) (h : E * s ≤ P ∧ P < E * s + E) : E' * s' ≤ P' ∧ P' < E' * s' + E' := by
  have d1 : B * s' ≤ x + s := by rw [hs]; exact Int.mul_ediv_self_le (by omega)
  have d2 : x + s < B * s' + B := by rw [hs]; exact Int.lt_mul_ediv_self_add hB
  have m1 : E * (B * s') ≤ E * (x + s) := Int.mul_le_mul_of_nonneg_left d1 (by omega)
  have m2 : E * (x + s + 1) ≤ E * (B * s' + B) := Int.mul_le_mul_of_nonneg_left (by omega) (by omega)
  rw [Int.mul_add] at m1
  rw [Int.mul_add, Int.mul_add, Int.mul_add, Int.mul_one] at m2
  rw [hE', hP, Int.mul_assoc]
  omega
theorem kx_num {X Y s c : Int} (h1 : -57896044618658097711785492504343953926634992332820282019728792003956564819949 < X) (h2 : X < 57896044618658097711785492504343953926634992332820282019728792003956564819949) (h3 : 57896044618658097711785492504343953926634992332820282019728792003956564819968 * s ≤ X) (h4 : X < 57896044618658097711785492504343953926634992332820282019728792003956564819968 * s + 57896044618658097711785492504343953926634992332820282019728792003956564819968) (h5 : Y = X + (19 * s + (-57896044618658097711785492504343953926634992332820282019728792003956564819968) * c)) (h6 : 0 ≤ Y) (h7 : Y ≤ 57896044618658097711785492504343953926634992332820282019728792003956564819967) : Y = X % xc_p := by
  have hs2 : s = 0 ∨ s = -1 := by omega
  unfold xc_p
  rcases hs2 with z | z
  · have hc69 : c = 0 := by omega
    have hm : X % 57896044618658097711785492504343953926634992332820282019728792003956564819949 = X := Int.emod_eq_of_lt (by omega) h2
    rw [hm]
    omega
  · have hc69 : c = -1 := by omega
    have hm : X % 57896044618658097711785492504343953926634992332820282019728792003956564819949 = X + 57896044618658097711785492504343953926634992332820282019728792003956564819949 := by
      rw [← Int.add_emod_right]
      exact Int.emod_eq_of_lt (by omega) (by omega)
    rw [hm]
    omega
theorem kx_ybd {y0 y1 y2 y3 y4 y5 y6 y7 y8 y9 : Int} (q0 : 0 ≤ y0 ∧ y0 ≤ 67108863) (q1 : 0 ≤ y1 ∧ y1 ≤ 33554431) (q2 : 0 ≤ y2 ∧ y2 ≤ 67108863) (q3 : 0 ≤ y3 ∧ y3 ≤ 33554431) (q4 : 0 ≤ y4 ∧ y4 ≤ 67108863) (q5 : 0 ≤ y5 ∧ y5 ≤ 33554431) (q6 : 0 ≤ y6 ∧ y6 ≤ 67108863) (q7 : 0 ≤ y7 ∧ y7 ≤ 33554431) (q8 : 0 ≤ y8 ∧ y8 ≤ 67108863) (q9 : 0 ≤ y9 ∧ y9 ≤ 33554431) : 0 ≤ (1 * y0 + (67108864 * y1 + (2251799813685248 * y2 + (151115727451828646838272 * y3 + (5070602400912917605986812821504 * y4 + (340282366920938463463374607431768211456 * y5 + (11417981541647679048466287755595961091061972992 * y6 + (766247770432944429179173513575154591809369561091801088 * y7 + (25711008708143844408671393477458601640355247900524685364822016 * y8 + (1725436586697640946858688965569256363112777243042596638790631055949824 * y9 + (0))))))))))) ∧ (1 * y0 + (67108864 * y1 + (2251799813685248 * y2 + (151115727451828646838272 * y3 + (5070602400912917605986812821504 * y4 + (340282366920938463463374607431768211456 * y5 + (11417981541647679048466287755595961091061972992 * y6 + (766247770432944429179173513575154591809369561091801088 * y7 + (25711008708143844408671393477458601640355247900524685364822016 * y8 + (1725436586697640946858688965569256363112777243042596638790631055949824 * y9 + (0))))))))))) ≤ 57896044618658097711785492504343953926634992332820282019728792003956564819967 := by omega
theorem kx_226 : ((2 ^ 26 : Nat) : Int) = 67108864 := by decide
theorem kx_225 : ((2 ^ 25 : Nat) : Int) = 33554432 := by decide
def kx_din : List (Nat × Int × Int) := (List.range 10).map (fun i => (1 + i, if i % 2 = 0 then -34000000 else -17000000, if i % 2 = 0 then 34000000 else 17000000))
def kx_dout : List (Nat × Int × Int) := (List.range 10).map (fun i => (11 + kx_oD.getD i 0, 0, if i % 2 = 0 then 67108863 else 33554431))
theorem kx_dck : xc_ck kc_reduce_g kx_din kx_dout xc_E10 0 (some (xa_add (xa_lin (xn 1 10) xc_E10) [(69 * 4096, -57896044618658097711785492504343953926634992332820282019728792003956564819968), (30 * 4096, 19)])) = true := by decide +kernel
theorem kx_dok : xc_ok kc_reduce_g kx_din = true := by decide +kernel
theorem kx_e0 {ν : Nat → Int} (hx : ∀ e ∈ kc_reduce_g, xa_ex ν e) : ν 12 = (ν 1 + 0) / 67108864 := by
  have a : ν 11 = ν 1 + 0 := hx (11, 20, [(1, 0), (0, 0)]) (List.mem_of_getElem? (i := 0) rfl)
  have d : ν 12 = ν 11 / ((2 ^ 26 : Nat) : Int) := hx (12, 27, [(11, 0), (0, 26)]) (List.mem_of_getElem? (i := 1) rfl) 26 rfl
  rw [d, a, kx_226]
theorem kx_e1 {ν : Nat → Int} (hx : ∀ e ∈ kc_reduce_g, xa_ex ν e) : ν 14 = (ν 2 + ν 12) / 33554432 := by
  have a : ν 13 = ν 2 + ν 12 := hx (13, 20, [(2, 0), (12, 0)]) (List.mem_of_getElem? (i := 2) rfl)
  have d : ν 14 = ν 13 / ((2 ^ 25 : Nat) : Int) := hx (14, 27, [(13, 0), (0, 25)]) (List.mem_of_getElem? (i := 3) rfl) 25 rfl
  rw [d, a, kx_225]
theorem kx_e2 {ν : Nat → Int} (hx : ∀ e ∈ kc_reduce_g, xa_ex ν e) : ν 16 = (ν 3 + ν 14) / 67108864 := by
  have a : ν 15 = ν 3 + ν 14 := hx (15, 20, [(3, 0), (14, 0)]) (List.mem_of_getElem? (i := 4) rfl)
  have d : ν 16 = ν 15 / ((2 ^ 26 : Nat) : Int) := hx (16, 27, [(15, 0), (0, 26)]) (List.mem_of_getElem? (i := 5) rfl) 26 rfl
  rw [d, a, kx_226]
theorem kx_e3 {ν : Nat → Int} (hx : ∀ e ∈ kc_reduce_g, xa_ex ν e) : ν 18 = (ν 4 + ν 16) / 33554432 := by
  have a : ν 17 = ν 4 + ν 16 := hx (17, 20, [(4, 0), (16, 0)]) (List.mem_of_getElem? (i := 6) rfl)
  have d : ν 18 = ν 17 / ((2 ^ 25 : Nat) : Int) := hx (18, 27, [(17, 0), (0, 25)]) (List.mem_of_getElem? (i := 7) rfl) 25 rfl
  rw [d, a, kx_225]
theorem kx_e4 {ν : Nat → Int} (hx : ∀ e ∈ kc_reduce_g, xa_ex ν e) : ν 20 = (ν 5 + ν 18) / 67108864 := by
  have a : ν 19 = ν 5 + ν 18 := hx (19, 20, [(5, 0), (18, 0)]) (List.mem_of_getElem? (i := 8) rfl)
  have d : ν 20 = ν 19 / ((2 ^ 26 : Nat) : Int) := hx (20, 27, [(19, 0), (0, 26)]) (List.mem_of_getElem? (i := 9) rfl) 26 rfl
  rw [d, a, kx_226]
theorem kx_e5 {ν : Nat → Int} (hx : ∀ e ∈ kc_reduce_g, xa_ex ν e) : ν 22 = (ν 6 + ν 20) / 33554432 := by
  have a : ν 21 = ν 6 + ν 20 := hx (21, 20, [(6, 0), (20, 0)]) (List.mem_of_getElem? (i := 10) rfl)
  have d : ν 22 = ν 21 / ((2 ^ 25 : Nat) : Int) := hx (22, 27, [(21, 0), (0, 25)]) (List.mem_of_getElem? (i := 11) rfl) 25 rfl
  rw [d, a, kx_225]
theorem kx_e6 {ν : Nat → Int} (hx : ∀ e ∈ kc_reduce_g, xa_ex ν e) : ν 24 = (ν 7 + ν 22) / 67108864 := by
  have a : ν 23 = ν 7 + ν 22 := hx (23, 20, [(7, 0), (22, 0)]) (List.mem_of_getElem? (i := 12) rfl)
  have d : ν 24 = ν 23 / ((2 ^ 26 : Nat) : Int) := hx (24, 27, [(23, 0), (0, 26)]) (List.mem_of_getElem? (i := 13) rfl) 26 rfl
  rw [d, a, kx_226]
theorem kx_e7 {ν : Nat → Int} (hx : ∀ e ∈ kc_reduce_g, xa_ex ν e) : ν 26 = (ν 8 + ν 24) / 33554432 := by
  have a : ν 25 = ν 8 + ν 24 := hx (25, 20, [(8, 0), (24, 0)]) (List.mem_of_getElem? (i := 14) rfl)
  have d : ν 26 = ν 25 / ((2 ^ 25 : Nat) : Int) := hx (26, 27, [(25, 0), (0, 25)]) (List.mem_of_getElem? (i := 15) rfl) 25 rfl
  rw [d, a, kx_225]
theorem kx_e8 {ν : Nat → Int} (hx : ∀ e ∈ kc_reduce_g, xa_ex ν e) : ν 28 = (ν 9 + ν 26) / 67108864 := by
  have a : ν 27 = ν 9 + ν 26 := hx (27, 20, [(9, 0), (26, 0)]) (List.mem_of_getElem? (i := 16) rfl)
  have d : ν 28 = ν 27 / ((2 ^ 26 : Nat) : Int) := hx (28, 27, [(27, 0), (0, 26)]) (List.mem_of_getElem? (i := 17) rfl) 26 rfl
  rw [d, a, kx_226]
theorem kx_e9 {ν : Nat → Int} (hx : ∀ e ∈ kc_reduce_g, xa_ex ν e) : ν 30 = (ν 10 + ν 28) / 33554432 := by
  have a : ν 29 = ν 10 + ν 28 := hx (29, 20, [(10, 0), (28, 0)]) (List.mem_of_getElem? (i := 18) rfl)
  have d : ν 30 = ν 29 / ((2 ^ 25 : Nat) : Int) := hx (30, 27, [(29, 0), (0, 25)]) (List.mem_of_getElem? (i := 19) rfl) 25 rfl
  rw [d, a, kx_225]
theorem kx_red (H : kC_13 Φ) {x : List Int} (hl : x.length = 10) (hb : ∀ (i : Nat) (a : Int), x[i]? = some a → (i % 2 = 0 → -34000000 ≤ a ∧ a ≤ 34000000) ∧ (i % 2 = 1 → -17000000 ≤ a ∧ a ≤ 17000000)) (hv : -57896044618658097711785492504343953926634992332820282019728792003956564819949 < xc_val x xc_E10 ∧ xc_val x xc_E10 < 57896044618658097711785492504343953926634992332820282019728792003956564819949) : kx_N (kx_oD.map (fun r => Φ 10 r x)) (xc_val x xc_E10 % xc_p) := by
  obtain ⟨f, rfl⟩ := xn_fn hl
  obtain ⟨t1, t2⟩ := xk_tv_ok (Φ := Φ) (wd := kwe) (n := 10) (ag := xn 1 10) (tb := kc_reduce_g) (by decide +kernel) ((xn 0 10).map f)
  generalize hν : xk_tv Φ kwe kc_reduce_g (xn 1 10) ((xn 0 10).map f) = ν at t1 t2
  have hΦ : (fun r => Φ 10 r ((xn 0 10).map f)) = fun r => ν (11 + r) := by
    funext r
    rw [H.1.1.1.2, ← hν]
    rfl
  have hin : ∀ i, i < 10 → ν (1 + i) = f i := fun i hi => by
    rw [t1 _ (by omega), xl_pos (N := 10) rfl hi, List.getD_eq_getElem?_getD]
    unfold xn
    rw [List.getElem?_map, List.getElem?_map, List.getElem?_range hi]
    show f (0 + i) = f i
    rw [Nat.zero_add]
  have hbd : ∀ q ∈ kx_din, q.2.1 ≤ ν q.1 ∧ ν q.1 ≤ q.2.2 := fun q hq => by
    unfold kx_din at hq
    obtain ⟨i, hi, rfl⟩ := List.mem_map.mp hq
    have hi := List.mem_range.mp hi
    have hg : ((xn 0 10).map f)[i]? = some (f i) := by
      unfold xn
      rw [List.getElem?_map, List.getElem?_map, List.getElem?_range hi]
      show some (f (0 + i)) = some (f i)
      rw [Nat.zero_add]
    obtain ⟨p, q⟩ := hb i _ hg
    rw [hin i hi]
    split
    · rename_i h; exact p h
    · rename_i h; exact q (by omega)
  obtain ⟨w, w1, w2, w3⟩ := xc_ck_ok kx_dck t2 hbd
  have hx := xc_ok_ex kx_dok t2 hbd
  have w1 := Option.some.inj w1
  subst w1
  have w2 := xc_zero w2
  rw [xa_add_ok, xa_lin_ok ν (by decide)] at w2
  have hvx : xc_val ((xn 1 10).map ν) xc_E10 = xc_val ((xn 0 10).map f) xc_E10 := by
    congr 1
    unfold xn
    rw [List.map_map, List.map_map]
    refine List.map_congr_left fun i hi => ?_
    show ν (1 + i) = f (0 + i)
    rw [hin i (List.mem_range.mp hi), Nat.zero_add]
  have hs : xa_e ν [(69 * 4096, -57896044618658097711785492504343953926634992332820282019728792003956564819968), (30 * 4096, 19)] = 19 * ν 30 + (-57896044618658097711785492504343953926634992332820282019728792003956564819968) * ν 69 := by
    show (-57896044618658097711785492504343953926634992332820282019728792003956564819968) * xa_m ν (69 * 4096) + (19 * xa_m ν (30 * 4096) + 0) = _
    rw [xa_m1 ν (by decide), xa_m1 ν (by decide)]
    omega
  rw [hvx, hs] at w2
  have i0 : ν 1 = f 0 := hin 0 (by decide)
  have i1 : ν 2 = f 1 := hin 1 (by decide)
  have i2 : ν 3 = f 2 := hin 2 (by decide)
  have i3 : ν 4 = f 3 := hin 3 (by decide)
  have i4 : ν 5 = f 4 := hin 4 (by decide)
  have i5 : ν 6 = f 5 := hin 5 (by decide)
  have i6 : ν 7 = f 6 := hin 6 (by decide)
  have i7 : ν 8 = f 7 := hin 7 (by decide)
  have i8 : ν 9 = f 8 := hin 8 (by decide)
  have i9 : ν 10 = f 9 := hin 9 (by decide)
  have d0 := kx_e0 hx
  have d1 := kx_e1 hx
  have d2 := kx_e2 hx
  have d3 := kx_e3 hx
  have d4 := kx_e4 hx
  have d5 := kx_e5 hx
  have d6 := kx_e6 hx
  have d7 := kx_e7 hx
  have d8 := kx_e8 hx
  have d9 := kx_e9 hx
  have c0 := kx_flo (E := 1) (B := 67108864) (E' := 67108864) (P := (0 : Int)) (x := f 0) (s := 0) (s' := ν 12) (P' := ((0 : Int) + 1 * f 0)) (by decide) (by decide) (by decide) (by rw [d0, i0]) rfl ⟨by decide, by decide⟩
  have c1 := kx_flo (E := 67108864) (B := 33554432) (E' := 2251799813685248) (P := ((0 : Int) + 1 * f 0)) (x := f 1) (s := (ν 12)) (s' := ν 14) (P' := (((0 : Int) + 1 * f 0) + 67108864 * f 1)) (by decide) (by decide) (by decide) (by rw [d1, i1]) rfl c0
  have c2 := kx_flo (E := 2251799813685248) (B := 67108864) (E' := 151115727451828646838272) (P := (((0 : Int) + 1 * f 0) + 67108864 * f 1)) (x := f 2) (s := (ν 14)) (s' := ν 16) (P' := ((((0 : Int) + 1 * f 0) + 67108864 * f 1) + 2251799813685248 * f 2)) (by decide) (by decide) (by decide) (by rw [d2, i2]) rfl c1
  have c3 := kx_flo (E := 151115727451828646838272) (B := 33554432) (E' := 5070602400912917605986812821504) (P := ((((0 : Int) + 1 * f 0) + 67108864 * f 1) + 2251799813685248 * f 2)) (x := f 3) (s := (ν 16)) (s' := ν 18) (P' := (((((0 : Int) + 1 * f 0) + 67108864 * f 1) + 2251799813685248 * f 2) + 151115727451828646838272 * f 3)) (by decide) (by decide) (by decide) (by rw [d3, i3]) rfl c2
  have c4 := kx_flo (E := 5070602400912917605986812821504) (B := 67108864) (E' := 340282366920938463463374607431768211456) (P := (((((0 : Int) + 1 * f 0) + 67108864 * f 1) + 2251799813685248 * f 2) + 151115727451828646838272 * f 3)) (x := f 4) (s := (ν 18)) (s' := ν 20) (P' := ((((((0 : Int) + 1 * f 0) + 67108864 * f 1) + 2251799813685248 * f 2) + 151115727451828646838272 * f 3) + 5070602400912917605986812821504 * f 4)) (by decide) (by decide) (by decide) (by rw [d4, i4]) rfl c3
  have c5 := kx_flo (E := 340282366920938463463374607431768211456) (B := 33554432) (E' := 11417981541647679048466287755595961091061972992) (P := ((((((0 : Int) + 1 * f 0) + 67108864 * f 1) + 2251799813685248 * f 2) + 151115727451828646838272 * f 3) + 5070602400912917605986812821504 * f 4)) (x := f 5) (s := (ν 20)) (s' := ν 22) (P' := (((((((0 : Int) + 1 * f 0) + 67108864 * f 1) + 2251799813685248 * f 2) + 151115727451828646838272 * f 3) + 5070602400912917605986812821504 * f 4) + 340282366920938463463374607431768211456 * f 5)) (by decide) (by decide) (by decide) (by rw [d5, i5]) rfl c4
  have c6 := kx_flo (E := 11417981541647679048466287755595961091061972992) (B := 67108864) (E' := 766247770432944429179173513575154591809369561091801088) (P := (((((((0 : Int) + 1 * f 0) + 67108864 * f 1) + 2251799813685248 * f 2) + 151115727451828646838272 * f 3) + 5070602400912917605986812821504 * f 4) + 340282366920938463463374607431768211456 * f 5)) (x := f 6) (s := (ν 22)) (s' := ν 24) (P' := ((((((((0 : Int) + 1 * f 0) + 67108864 * f 1) + 2251799813685248 * f 2) + 151115727451828646838272 * f 3) + 5070602400912917605986812821504 * f 4) + 340282366920938463463374607431768211456 * f 5) + 11417981541647679048466287755595961091061972992 * f 6)) (by decide) (by decide) (by decide) (by rw [d6, i6]) rfl c5
  have c7 := kx_flo (E := 766247770432944429179173513575154591809369561091801088) (B := 33554432) (E' := 25711008708143844408671393477458601640355247900524685364822016) (P := ((((((((0 : Int) + 1 * f 0) + 67108864 * f 1) + 2251799813685248 * f 2) + 151115727451828646838272 * f 3) + 5070602400912917605986812821504 * f 4) + 340282366920938463463374607431768211456 * f 5) + 11417981541647679048466287755595961091061972992 * f 6)) (x := f 7) (s := (ν 24)) (s' := ν 26) (P' := (((((((((0 : Int) + 1 * f 0) + 67108864 * f 1) + 2251799813685248 * f 2) + 151115727451828646838272 * f 3) + 5070602400912917605986812821504 * f 4) + 340282366920938463463374607431768211456 * f 5) + 11417981541647679048466287755595961091061972992 * f 6) + 766247770432944429179173513575154591809369561091801088 * f 7)) (by decide) (by decide) (by decide) (by rw [d7, i7]) rfl c6
  have c8 := kx_flo (E := 25711008708143844408671393477458601640355247900524685364822016) (B := 67108864) (E' := 1725436586697640946858688965569256363112777243042596638790631055949824) (P := (((((((((0 : Int) + 1 * f 0) + 67108864 * f 1) + 2251799813685248 * f 2) + 151115727451828646838272 * f 3) + 5070602400912917605986812821504 * f 4) + 340282366920938463463374607431768211456 * f 5) + 11417981541647679048466287755595961091061972992 * f 6) + 766247770432944429179173513575154591809369561091801088 * f 7)) (x := f 8) (s := (ν 26)) (s' := ν 28) (P' := ((((((((((0 : Int) + 1 * f 0) + 67108864 * f 1) + 2251799813685248 * f 2) + 151115727451828646838272 * f 3) + 5070602400912917605986812821504 * f 4) + 340282366920938463463374607431768211456 * f 5) + 11417981541647679048466287755595961091061972992 * f 6) + 766247770432944429179173513575154591809369561091801088 * f 7) + 25711008708143844408671393477458601640355247900524685364822016 * f 8)) (by decide) (by decide) (by decide) (by rw [d8, i8]) rfl c7
  have c9 := kx_flo (E := 1725436586697640946858688965569256363112777243042596638790631055949824) (B := 33554432) (E' := 57896044618658097711785492504343953926634992332820282019728792003956564819968) (P := ((((((((((0 : Int) + 1 * f 0) + 67108864 * f 1) + 2251799813685248 * f 2) + 151115727451828646838272 * f 3) + 5070602400912917605986812821504 * f 4) + 340282366920938463463374607431768211456 * f 5) + 11417981541647679048466287755595961091061972992 * f 6) + 766247770432944429179173513575154591809369561091801088 * f 7) + 25711008708143844408671393477458601640355247900524685364822016 * f 8)) (x := f 9) (s := (ν 28)) (s' := ν 30) (P' := (((((((((((0 : Int) + 1 * f 0) + 67108864 * f 1) + 2251799813685248 * f 2) + 151115727451828646838272 * f 3) + 5070602400912917605986812821504 * f 4) + 340282366920938463463374607431768211456 * f 5) + 11417981541647679048466287755595961091061972992 * f 6) + 766247770432944429179173513575154591809369561091801088 * f 7) + 25711008708143844408671393477458601640355247900524685364822016 * f 8) + 1725436586697640946858688965569256363112777243042596638790631055949824 * f 9)) (by decide) (by decide) (by decide) (by rw [d9, i9]) rfl c8
  have hX : xc_val ((xn 0 10).map f) xc_E10 = 1 * f 0 + (67108864 * f 1 + (2251799813685248 * f 2 + (151115727451828646838272 * f 3 + (5070602400912917605986812821504 * f 4 + (340282366920938463463374607431768211456 * f 5 + (11417981541647679048466287755595961091061972992 * f 6 + (766247770432944429179173513575154591809369561091801088 * f 7 + (25711008708143844408671393477458601640355247900524685364822016 * f 8 + (1725436586697640946858688965569256363112777243042596638790631055949824 * f 9 + (0)))))))))) := rfl
  have hX' : xc_val ((xn 0 10).map f) xc_E10 = (((((((((((0 : Int) + 1 * f 0) + 67108864 * f 1) + 2251799813685248 * f 2) + 151115727451828646838272 * f 3) + 5070602400912917605986812821504 * f 4) + 340282366920938463463374607431768211456 * f 5) + 11417981541647679048466287755595961091061972992 * f 6) + 766247770432944429179173513575154591809369561091801088 * f 7) + 25711008708143844408671393477458601640355247900524685364822016 * f 8) + 1725436586697640946858688965569256363112777243042596638790631055949824 * f 9) := by rw [hX]; omega
  rw [← hX'] at c9
  rw [hΦ]
  have ho : kx_oD.map (fun r => ν (11 + r)) = (kx_dout.map Prod.fst).map ν := rfl
  rw [ho]
  have bnd : ∀ (i : Nat) (a : Int), ((kx_dout.map Prod.fst).map ν)[i]? = some a → 0 ≤ a ∧ a ≤ (if i % 2 = 0 then 67108863 else 33554431) := fun i a ha => by
    have hi : i < 10 := (List.getElem?_eq_some_iff.mp ha).1
    have hq : kx_dout[i]? = some (11 + kx_oD.getD i 0, 0, if i % 2 = 0 then 67108863 else 33554431) := by
      unfold kx_dout
      rw [List.getElem?_map, List.getElem?_range hi]
      rfl
    rw [List.getElem?_map, List.getElem?_map, hq] at ha
    have hb := w3 _ (List.mem_of_getElem? hq)
    have ha : ν (11 + kx_oD.getD i 0) = a := Option.some.inj ha
    dsimp only at hb
    rw [ha] at hb
    exact hb
  refine ⟨rfl, bnd, ?_⟩
  have q0 : 0 ≤ ν 35 ∧ ν 35 ≤ 67108863 := bnd 0 _ rfl
  have q1 : 0 ≤ ν 39 ∧ ν 39 ≤ 33554431 := bnd 1 _ rfl
  have q2 : 0 ≤ ν 43 ∧ ν 43 ≤ 67108863 := bnd 2 _ rfl
  have q3 : 0 ≤ ν 47 ∧ ν 47 ≤ 33554431 := bnd 3 _ rfl
  have q4 : 0 ≤ ν 51 ∧ ν 51 ≤ 67108863 := bnd 4 _ rfl
  have q5 : 0 ≤ ν 55 ∧ ν 55 ≤ 33554431 := bnd 5 _ rfl
  have q6 : 0 ≤ ν 59 ∧ ν 59 ≤ 67108863 := bnd 6 _ rfl
  have q7 : 0 ≤ ν 63 ∧ ν 63 ≤ 33554431 := bnd 7 _ rfl
  have q8 : 0 ≤ ν 67 ∧ ν 67 ≤ 67108863 := bnd 8 _ rfl
  have q9 : 0 ≤ ν 71 ∧ ν 71 ≤ 33554431 := bnd 9 _ rfl
  have hyb := kx_ybd q0 q1 q2 q3 q4 q5 q6 q7 q8 q9
  exact kx_num hv.1 hv.2 c9.1 c9.2 w2 hyb.1 hyb.2
end XM
