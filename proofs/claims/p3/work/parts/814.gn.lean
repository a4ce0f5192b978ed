/-! ===== get ===== -/
section GN
variable {p : Program} {l : Launch} {e : Env} {m : MethodId} {args : Array Value} {below : List Frame} {meth : Method} {c : Code}
variable {D : va_G} {AC : Nat → ClassId} {S : Nat → Nat} {L : Heap} {n : Nat}
theorem gh_l5 {B : ck_A} {ρ : Nat → Int} {G : Nat → Nat} {N : List Nat} {H : Heap} {ls : Array Slot} {st : List Value} {b : Nat} {fs : List ck_V} {l1 h1 l2 h2 : Int} (hS : gk_S D AC (gl_S S b) gv_tab L 8 ρ G N B H ls st) (hA : B.1 = [(0, gv_r 1 0), (1, gv_r 1 1), (2, gv_r 1 12), (3, gv_r 1 16), (4, gv_g 1 2556 149 0)]) (hT : B.2.2[0]? = some ((6, 2), fs)) (hf1 : fs[1]? = some (gv_g l1 h1 144 0)) (hf2 : fs[2]? = some (gv_g l2 h2 145 0)) (hρ : ρ 149 = (b : Int)) :
    ∃ (aX aM aO : Nat) (xb w1 w2 : Int32), lv_has ls 8 [(0, .ref (S 2)), (1, .ref aX), (2, .ref aM), (3, .ref aO), (4, .int xb)] ∧ N[0]? = some (S 2) ∧ N[1]? = some aX ∧ N[12]? = some aM ∧ N[16]? = some aO ∧ xb.toInt = (b : Int) ∧ ck_R (gl_S S b) ρ G N (gv_g 1 2556 149 0) (.int xb) ∧ w1.toInt = ρ 144 ∧ w2.toInt = ρ 145 ∧ ∀ cell : Cell, L[S 2]? = some cell → cell.slots[b + 1]? = some (.int w1) ∧ cell.slots[b + 2]? = some (.int w2) := by
  obtain ⟨lv, g1, g2, g3, g4⟩ := hS
  rw [hA] at g2
  obtain ⟨⟨i0, v0⟩, m0, rfl, ⟨e0, r0⟩, j0⟩ := g2.uncons
  obtain ⟨⟨i1, v1⟩, m1, rfl, ⟨e1, r1⟩, j1⟩ := j0.uncons
  obtain ⟨⟨i2, v2⟩, m2, rfl, ⟨e2, r2⟩, j2⟩ := j1.uncons
  obtain ⟨⟨i3, v3⟩, m3, rfl, ⟨e3, r3⟩, j3⟩ := j2.uncons
  obtain ⟨⟨i4, v4⟩, m4, rfl, ⟨e4, r4⟩, j4⟩ := j3.uncons
  have hm : m4 = [] := by
    have := j4.1
    cases m4 with
    | nil => rfl
    | cons a b => simp at this
  subst hm
  dsimp only at e0 e1 e2 e3 e4 r0 r1 r2 r3 r4
  subst e0 e1 e2 e3 e4
  obtain ⟨a0, q0, rfl⟩ := r0
  obtain ⟨aX, q1, rfl⟩ := r1
  obtain ⟨aM, q2, rfl⟩ := r2
  obtain ⟨aO, q3, rfl⟩ := r3
  have r4' := r4
  obtain ⟨xb, rfl, x1, -⟩ := gi_int r4
  obtain ⟨z0, cell, z1, z2, z3⟩ := g4.2.2.1 0 _ a0 hT q0
  have z0 : a0 = S 2 := z0
  subst z0
  obtain ⟨wa, y1, y2⟩ := z3 1 _ hf1
  obtain ⟨w1, rfl, y3, -⟩ := gi_int y2
  obtain ⟨wb, u1, u2⟩ := z3 2 _ hf2
  obtain ⟨w2, rfl, u3, -⟩ := gi_int u2
  refine ⟨aX, aM, aO, xb, w1, w2, g1, q0, q1, q2, q3, x1.trans hρ, r4', y3, u3, fun cell' hc => ?_⟩
  cases z1.symm.trans hc
  exact ⟨y1, u1⟩
/-- one int of the script, by hand -/
theorem gh_int {R : Room} {s : State} {H : Heap} {locs : List Loc} {cells slots : Nat} {Q : State → Prop} {pc b k : Nat} {ls : Array Slot} {rest : List Value} {w xb xk : Int32} {ik : Int} (hB : ck_B p s m meth c glw_M) (hKf : ck_Kf D AC S L s n) (hL : xk_L L H) (h0 : ls[0]? = some (.val (.ref (S 2)))) (h4 : ls[4]? = some (.val (.int xb))) (hxb : xb.toInt = (b : Int)) (hbn : b + 5 ≤ n) (hn2 : n ≤ 2561) (hk : xk.toInt = (k : Int)) (hk5 : k < 5) (hik : Int32.ofInt ik = xk)
    (d0 : decode code pc = .ok (.aload_n 0, 1)) (d1 : decode code (pc + 1) = .ok (.iload 4, 2)) (d3 : decode code (pc + 3) = .ok (.iconst ik, 1)) (d4 : decode code (pc + 4) = .ok (.iadd, 1)) (d5 : decode code (pc + 5) = .ok (.iaload, 1)) (hw : ∀ cell : Cell, L[S 2]? = some cell → cell.slots[b + k]? = some (.int w)) (kk : W p l e R s m args below meth c H locs cells slots Q (F0 m (pc + 6) ls (.int w :: rest))) : W p l e R s m args below meth c H locs cells slots Q (F0 m pc ls rest) := by
  have hexec := hB.1
  have hb : c.code = code := hB.2.1
  obtain ⟨cell, c1, c2, c3, c4, c5, c6⟩ := hKf.sta (show 2 < 3 by omega)
  have c5 : cell.slots.size = n := c5
  have hj : (xb + xk).toInt = (b : Int) + k := by
    rw [Int32.toInt_add, hxb, hk]
    exact ck_bm (by omega) (by omega)
  have hjn : (xb + xk).toNatClampNeg = b + k := by
    show (xb + xk).toInt.toNat = b + k
    omega
  refine lv_aload_n hexec hb d0 (i := 0) rfl h0 ?_
  refine lv_iload hexec hb d1 h4 ?_
  refine lv_iconst hexec hb d3 hik ?_
  refine lv_iadd hexec hb d4 ?_
  exact W.iald hexec hb (a := S 2) (cell := cell) (j := xb + xk) (v := .int w) (by rw [hL.2 _ c2]; exact c1) c3 c4 (by
    rw [hjn]
    intro h
    rcases h with h | h
    · have := Int32.lt_iff_toInt_lt.mp h
      have e0 : (0 : Int32).toInt = 0 := rfl
      omega
    · omega) (by rw [hjn]; exact hw cell c1) rfl rfl d5 kk
/-- eight numbers in a row -/
theorem gh_m8 {s : Nat} {f : Nat → Int} : (xn s 8).map f = [f (s + 0), f (s + 1), f (s + 2), f (s + 3), f (s + 4), f (s + 5), f (s + 6), f (s + 7)] := rfl
theorem gz1_k : gx_ck gv_tab gs_39.2.2 [(0, 12)] [0] [(0, 0)] [(1, 1, 0, 0)] kw_thr.2.1 = true := by decide +kernel
theorem gz1_4 : gx_r4 [(0, 12)] [0] kw_thr.2.1 = true := by decide +kernel
theorem gn_1 (htr : e.platform.stackTraces = false) (hn1 : 1 ≤ n) (hn2 : n ≤ 2561) {Φ : Nat → Nat → List Int → Int} (HE : kE Φ) (H0 : kH_0 Φ) : gl_In p l e m args below meth c D AC S L n 229 gp_i1_1_B := by
  intro k b s R ls ρ G N d a r ih hc hs hf hlo hB hKf hSt hρ hbn hS hR hE
  have hz : ∀ q, s.heap.size ≤ q → G q = 0 := by
    obtain ⟨lv, -, -, -, i4⟩ := hS
    exact fun q hq => i4.zero hq
  refine gk_piece (M := glw_M) (S := gl_S S b) (n := n) (al := []) hB htr ⟨Nat.zero_le _, Nat.zero_le _, Nat.zero_le _, Nat.zero_le _⟩ hn1 hn2 hKf ce_ok11 rfl cm_ok gp_i1_1_h ce_glob kco_law_ok (fun a ha => by cases ha) rfl (fun _ => hρ) (by decide) gp_i1_1_m hS (fun a' ha' s1 ls1 st1 ρ1 G1 N1 hW1 hS1 hF1 hρ1 => ?_)
  rw [gp_i1_1_n, List.mem_singleton] at ha'
  subst ha'
  refine ⟨3 * (k + 1 + 1), 18 * (k + 1 + 1), by show 0 + _ ≤ _; omega, by show 0 + _ ≤ _; omega, ?_⟩
  have hρ1' : ρ1 149 = (b : Int) := by rw [hρ1 149 (by omega) (by omega)]; exact hρ
  have hR1 := hR.keep hF1 hz (by decide)
  have hE1 := hE.keep hF1 hz (by decide) hR
  obtain ⟨lv1, a1, a2, a3, a4⟩ := id hS1
  have hz1 : ∀ q, s1.heap.size ≤ q → G1 q = 0 := fun q hq => a4.zero hq
  obtain ⟨vo, t1, rfl, ⟨aO', hO', rfl⟩, a6⟩ := a3.uncons
  obtain ⟨x1, x2, aX', rfl, hX', e1, e2, b1, b2⟩ := gi_stk2 (h1 := 3) (h2 := 3) (nm := 1) a6
  obtain ⟨aX, aM, aO, xb, w1, w2, l5, n0, n1, n12, n16, hxb, rxb, ew1, ew2, hwin⟩ := gh_l5 (S := S) hS1 rfl rfl rfl rfl hρ1'
  obtain rfl : aX = aX' := Option.some.inj (n1.symm.trans hX')
  obtain rfl : aO = aO' := Option.some.inj (n16.symm.trans hO')
  obtain ⟨k1, f1⟩ : ∃ k : Nat, x1.toInt = (k : Int) := ⟨x1.toInt.toNat, by omega⟩
  obtain ⟨k2, f2⟩ : ∃ k : Nat, x2.toInt = (k : Int) := ⟨x2.toInt.toNat, by omega⟩
  have X1 : (4 * k1 + k2) / 4 = k1 := by omega
  have X2 : (4 * k1 + k2) % 4 = k2 := by omega
  obtain ⟨Nx, g, hNx, hg, hxH⟩ := gx_build (rt := gd1_rt) (τs := gd1_ts) (par := gd1_pr) (bl := gd1_bl) (T := gd1_T) a4 gd1_k hR1.row (gx_r4_ok gd1_4) hR1.2.2.2.2.2.2 (fun _ => 0)
  have hrw := gd1_rw hNx hg hR1
  have hX0 := gi_own hNx hg (i := 0) (nm := 1) (by decide +kernel) rfl n1
  have hO0 := gi_own hNx hg (i := 6) (nm := 16) (by decide +kernel) rfl n16
  refine gl_both (S := gl_S S b) (Φ := Φ) (Xc := gt_801) (mi0 := 113) (M0 := cm_113) (K := gq_1_1_K) (Kx := kw_get (4 * k1 + k2)) (B := gs_31) (y := gq_1_1_y) (va := [.ref aX, .int x1, .int x2, .ref aO]) (rest := []) (ρ := ρ1) (G := G1) (N := N1) (Nx := Nx) (θ := xg_θ g) (ρ0 := xg_ρ gd1_bl g (fun _ => 0)) (c2 := 3 * (k + 1 + 1)) (s2 := 18 * (k + 1 + 1)) (gk_Bmv hB hW1) htr ⟨by show 3 ≤ R.frames; omega, by show 48 ≤ R.locals; omega, Nat.zero_le _, Nat.zero_le _⟩ hn1 hn2 (hKf.moved hW1) (gl_St (hSt.moved hW1.alike)) cm_g113 rfl (gt_801_ok.wid (Nat.zero_le _) (by decide)) (kw_get_ok HE (by omega)).1 ⟨Nat.le_of_ble_eq_true rfl, Nat.le_of_ble_eq_true rfl⟩ rfl rfl gq_1_1_m rfl (Nat.zero_le _) (Nat.zero_le _) (by show 0 + _ ≤ _; omega) (by show 0 + _ ≤ _; omega) hS1 ?_ hxH (fun s2 w ρ2 G2 N2 hW2 hS2 hF2 hρ2 hrs hxH2 hxF => ?_)
  · exact ck_all.cons (gi_a1 hX0) (ck_all.cons (gi_ac (by rw [f1, X1])) (ck_all.cons (gi_ac (by rw [f2, X2])) (ck_all.cons ⟨aO, hO0, rfl⟩ ck_all.nil)))
  have V2 := State.WarmedH.trans hW1 hW2
  have hR2 := hR1.keep hF2 hz1 (by decide)
  have hE2 := hE1.keep hF2 hz1 (by decide) hR1
  obtain ⟨lv2, p1, p2, p3, p4⟩ := hS2
  have hz2 : ∀ q, s2.heap.size ≤ q → G2 q = 0 := fun q hq => p4.zero hq
  -- the answer, and where it stands
  obtain ⟨wv, ewv, x0, ex0, ex1⟩ := hrs
  have ew : w = some (.int 0) := by
    have : w = some wv := by injection ewv
    rw [this, ex0]
    exact congrArg (fun z => some (Value.int z)) (gi_ieq ex1)
  subst ew
  have hN2 : ∀ i, i < 17 → N2[i]? = N1[i]? := fun i hi => hF2.1.2.2.2.2.1 i (by
    have : N1.length = 17 := a4.2.1
    omega)
  obtain ⟨fO, gO1, gO2⟩ := (hxH2.2.2 6 _ aO rfl hO0).2
  obtain ⟨vO, gO3, gO4⟩ := gO2 0 _ rfl
  have gO4 : vO.toInt = xk_rho Φ (1011 + (4 * k1 + k2) % 4, 129, xn (1 + 32 * ((4 * k1 + k2) / 4) + 8 * ((4 * k1 + k2) % 4)) 8) (xg_ρ gd1_bl g (fun _ => 0)) 144 := gO4
  rw [gi_rn (k := 14) (by omega), X1, X2, gh_m8] at gO4
  -- by hand to the second call
  have hB2 := gk_Bmv hB V2
  have hKf2 := hKf.moved V2
  have hL2 : xk_L L s2.heap := ⟨p4.1.1, p4.1.2.1⟩
  have hexec := hB.1
  have hcb : c.code = code := hB.2.1
  show W p l e _ s2 m args below meth c s2.heap [] 0 0 _ (F0 m 246 ls1 (.int 0 :: []))
  refine lv_istore hexec hcb (gl_dec 246 rfl) l5 (by omega) rfl (fun ls2 l6 => ?_)
  refine lv_aload_n hexec hcb (gl_dec 248 rfl) (i := 2) rfl (lv_at l6 3 rfl) ?_
  refine gh_int (S := S) (b := b) (k := 1) (xk := 1) (ik := 1) hB2 hKf2 hL2 (lv_at l6 1 rfl) (lv_at l6 5 rfl) hxb hbn hn2 rfl (by omega) rfl (gl_dec 249 rfl) (gl_dec 250 rfl) (gl_dec 252 rfl) (gl_dec 253 rfl) (gl_dec 254 rfl) (fun cell hc => (hwin cell hc).1) ?_
  refine gh_int (S := S) (b := b) (k := 2) (xk := 2) (ik := 2) hB2 hKf2 hL2 (lv_at l6 1 rfl) (lv_at l6 5 rfl) hxb hbn hn2 rfl (by omega) rfl (gl_dec 255 rfl) (gl_dec 256 rfl) (gl_dec 258 rfl) (gl_dec 259 rfl) (gl_dec 260 rfl) (fun cell hc => (hwin cell hc).2) ?_
  have v1 : w1.toInt = (k1 : Int) := by rw [ew1, ← e1, f1]
  have v2 : w2.toInt = (k2 : Int) := by rw [ew2, ← e2, f2]
  have m0 : N2[0]? = some (S 2) := by rw [hN2 0 (by omega)]; exact n0
  have m1 : N2[1]? = some aX := by rw [hN2 1 (by omega)]; exact n1
  have m12 : N2[12]? = some aM := by rw [hN2 12 (by omega)]; exact n12
  have m16 : N2[16]? = some aO := by rw [hN2 16 (by omega)]; exact n16
  have r144 : ρ2 144 = ρ1 144 := hρ2 144 (by omega) (by omega)
  have r145 : ρ2 145 = ρ1 145 := hρ2 145 (by omega) (by omega)
  have r149 : ρ2 149 = ρ1 149 := hρ2 149 (by omega) (by omega)
  have rxb2 : ck_R (gl_S S b) ρ2 G2 N2 (gv_g 1 2556 149 0) (.int xb) := by
    obtain ⟨x, ex, q1, q2, q3⟩ := rxb
    exact ⟨x, ex, q1, q2, fun g c hg => by cases hg; rw [r149]; exact q3 149 0 rfl⟩
  have hA2 : ∀ ls', lv_has ls' 8 [(0, .ref (S 2)), (1, .ref aX), (2, .ref aM), (3, .ref aO), (4, .int xb), (5, .int 0)] → gk_S D AC (gl_S S b) gv_tab L 8 ρ2 G2 N2 gs_32 s2.heap ls' (([.ref aM, .int w1, .int w2] : List Value).reverse ++ []) := fun ls' hl => ⟨_, hl, ck_all.cons ⟨rfl, _, m0, rfl⟩ (ck_all.cons ⟨rfl, _, m1, rfl⟩ (ck_all.cons ⟨rfl, _, m12, rfl⟩ (ck_all.cons ⟨rfl, _, m16, rfl⟩ (ck_all.cons ⟨rfl, rxb2⟩ (ck_all.cons ⟨rfl, 0, rfl, Int.le_refl _, Int.le_refl _, fun g c q => by cases q⟩ ck_all.nil))))), ck_all.cons ⟨w2, rfl, by show (0 : Int) ≤ w2.toInt; omega, by show w2.toInt ≤ 3; omega, fun g c hg => by cases hg; rw [r145]; omega⟩ (ck_all.cons ⟨w1, rfl, by show (0 : Int) ≤ w1.toInt; omega, by show w1.toInt ≤ 3; omega, fun g c hg => by cases hg; rw [r144]; omega⟩ (ck_all.cons ⟨_, m12, rfl⟩ ck_all.nil)), p4.leT (by decide +kernel)⟩
  have hS2' := hA2 ls2 (lv_sub l6 [1, 2, 3, 4, 5, 0] rfl)
  obtain ⟨-, -, -, -, c4⟩ := id hS2'
  obtain ⟨Ny, gm, hNy, hgm, hyH⟩ := gx_build (rt := gm1_rt) (τs := gm1_ts) (par := gm1_pr) (bl := gm1_bl) (T := gm1_T) c4 gm1_k hR2.row (gx_r4_ok gm1_4) hR2.2.2.2.2.2.2 (fun _ => 0)
  have hmem := gi_mem hNy hgm hR2 (im := 1) ⟨rfl, rfl, rfl⟩
  have hM0 := gi_own hNy hgm (i := 0) (nm := 12) (by decide +kernel) rfl m12
  have hgq : ∀ q, q < 128 → gm 1 q = g (2 + q / 32) (q % 32) := fun q hq => by
    have h1 := hmem.2 q (by omega)
    have h2 := hE1 (q / 32) (q % 32) (by omega) (by omega)
    have h3 : gk_at s2.heap a q = gk_at s1.heap a q := gr_at hF2 hz1 hR1.2.1 (by decide) (by decide) (by omega)
    rw [show 32 * (q / 32) + q % 32 = q by omega, (hrw (q / 32) (by omega)).2 (q % 32) (by omega), ← h3, h1] at h2
    exact (Option.some.inj h2).symm
  have hOy : aO ∉ Ny := by
    intro hm
    obtain ⟨i, hi⟩ := List.getElem?_of_mem hm
    have hil : i < 2 := by
      have e9 : Ny.length = 2 := hNy
      have := (List.getElem?_eq_some_iff.mp hi).1
      omega
    match i, hil, hi with
    | 0, _, hi =>
      cases hi.symm.trans hM0
      have := c4.2.2.2 12 16 _ _ _ rfl rfl rfl rfl m12 m16
      omega
    | 1, _, hi =>
      cases hi.symm.trans hmem.1
      have h1 := (c4.2.2.1 16 _ _ rfl m16).2.1
      have h2 := hR2.2.1
      rw [h1] at h2
      cases h2
  refine gl_both (S := gl_S S b) (Φ := Φ) (Xc := gt_802) (mi0 := 148) (M0 := cm_148) (K := gq_1_2_K) (Kx := ke_mg (4 * k1 + k2)) (B := gs_32) (y := gq_1_2_y) (va := [.ref aM, .int w1, .int w2]) (rest := []) (ρ := ρ2) (G := G2) (N := N2) (Nx := Ny) (θ := xg_θ gm) (ρ0 := xg_ρ gm1_bl gm (fun _ => 0)) (c2 := 3 * (k + 1 + 1)) (s2 := 18 * (k + 1 + 1)) hB2 htr ⟨by show 2 ≤ R.frames; omega, by show 30 ≤ R.locals; omega, Nat.zero_le _, Nat.zero_le _⟩ hn1 hn2 hKf2 (gl_St (hSt.moved V2.alike)) cm_g148 rfl (gt_802_ok.wid (Nat.zero_le _) (by decide)) (ke_mg_ok HE (by omega)).1 ⟨Nat.le_of_ble_eq_true rfl, Nat.le_of_ble_eq_true rfl⟩ rfl rfl gq_1_2_m rfl (Nat.zero_le _) (Nat.zero_le _) (by show 0 + _ ≤ _; omega) (by show 0 + _ ≤ _; omega) hS2' ?_ hyH (fun s4 w' ρ4 G4 N4 hW4 hS4 hF4 hρ4 hrs' hyH2 hyF => ?_)
  · exact ck_all.cons (gi_a1 hM0) (ck_all.cons (gi_ac (by rw [v1, X1])) (ck_all.cons (gi_ac (by rw [v2, X2])) ck_all.nil))
  have V4 := State.WarmedH.trans V2 hW4
  have hR4 := hR2.keep hF4 hz2 (by decide)
  have hE4 := hE2.keep hF4 hz2 (by decide) hR2
  obtain ⟨lv4, i1, i2, i3, i4⟩ := hS4
  have hz4 : ∀ q, s4.heap.size ≤ q → G4 q = 0 := fun q hq => i4.zero hq
  have hN4 : ∀ i, i < 17 → N4[i]? = N2[i]? := fun i hi => hF4.1.2.2.2.2.1 i (by
    have : N2.length = 17 := p4.2.1
    omega)
  have o12 : N4[12]? = some aM := by rw [hN4 12 (by omega)]; exact m12
  have o16 : N4[16]? = some aO := by rw [hN4 16 (by omega)]; exact m16
  obtain ⟨wm, ewm, vM, eM0, eM1⟩ := hrs'
  have ew' : w' = some (.long vM) := by
    have : w' = some wm := by injection ewm
    rw [this, eM0]
  subst ew'
  have eM1 : vM.toInt = xk_rho Φ (1015 + (4 * k1 + k2), 353, xn (2 + 8 * (4 * k1 + k2)) 8) (xg_ρ gm1_bl gm (fun _ => 0)) 368 := eM1
  rw [gi_rn (k := 14) (by omega), gh_m8] at eM1
  have hsame : vM = vO := by
    refine Int64.toInt_inj.mp ?_
    rw [eM1, gO4]
    have key : ∀ j, j < 8 → xg_ρ gm1_bl gm (fun _ => 0) (2 + 8 * (4 * k1 + k2) + j) = xg_ρ gd1_bl g (fun _ => 0) (1 + 32 * k1 + 8 * k2 + j) := fun j hj => by
      have q1 := gm1_nd (g := gm) (ext := fun _ => 0) (8 * (4 * k1 + k2) + j) (by omega)
      have q2 := gd1_nd (g := g) (ext := fun _ => 0) (8 * (4 * k1 + k2) + j) (by omega)
      rw [hgq (8 * (4 * k1 + k2) + j) (by omega)] at q1
      rw [show 2 + 8 * (4 * k1 + k2) + j = 2 + (8 * (4 * k1 + k2) + j) by omega, q1, show 1 + 32 * k1 + 8 * k2 + j = 1 + (8 * (4 * k1 + k2) + j) by omega, q2]
    rw [key 0 (by omega), key 1 (by omega), key 2 (by omega), key 3 (by omega), key 4 (by omega), key 5 (by omega), key 6 (by omega), key 7 (by omega)]
    exact (gf_get HE (by omega) (by omega) _ _ _ _ _ _ _ _).symm
  subst hsame
  have hO4 : s4.heap[aO]? = s2.heap[aO]? := hyF.2 aO hOy
  -- whether it was thrown
  have hB4 := gk_Bmv hB V4
  have hKf4 := hKf.moved V4
  show W p l e _ s4 m args below meth c s4.heap [] 0 0 _ (F0 m 264 ls2 (.long vM :: []))
  refine lv_lstore hexec hcb (gl_dec 264 rfl) l6 (by omega) rfl (fun ls3 l7 => ?_)
  refine lv_aload_n hexec hcb (gl_dec 266 rfl) (i := 2) rfl (lv_at l7 4 rfl) ?_
  have hS5 : gk_S D AC (gl_S S b) gv_tab L 8 ρ4 G4 N4 gs_39 s4.heap ls3 (([.ref aM] : List Value).reverse ++ []) := ⟨_, lv_sub l7 [2, 3, 4, 5, 6, 1, 0] rfl, ck_all.cons ⟨rfl, _, (hN4 0 (by omega)).trans m0, rfl⟩ (ck_all.cons ⟨rfl, _, (hN4 1 (by omega)).trans m1, rfl⟩ (ck_all.cons ⟨rfl, _, o12, rfl⟩ (ck_all.cons ⟨rfl, _, o16, rfl⟩ (ck_all.cons ⟨rfl, by
      obtain ⟨x, ex, q1, q2, q3⟩ := rxb2
      exact ⟨x, ex, q1, q2, fun g c hg => by cases hg; rw [hρ4 149 (by omega) (by omega)]; exact q3 149 0 rfl⟩⟩ (ck_all.cons ⟨rfl, 0, rfl, Int.le_refl _, Int.le_refl _, fun g c q => by cases q⟩ (ck_all.cons ⟨rfl, vM, rfl, (ck_i64 vM).1, (ck_i64 vM).2⟩ ck_all.nil)))))), ck_all.cons ⟨_, o12, rfl⟩ ck_all.nil, i4.leT (by decide +kernel)⟩
  obtain ⟨-, -, -, -, d4⟩ := id hS5
  obtain ⟨Nz, gz, hNz, hgz, hzH⟩ := gx_build (rt := [(0, 12)]) (τs := [0]) (par := [(0, 0)]) (bl := [(1, 1, 0, 0)]) (T := kw_thr.2.1) (Tl := gs_39.2.2) d4 gz1_k hR4.row (gx_r4_ok gz1_4) hR4.2.2.2.2.2.2 (fun _ => 0)
  have hT0 := gi_own hNz hgz (i := 0) (nm := 12) (by decide +kernel) rfl o12
  have hOz : aO ∉ Nz := by
    intro hm
    obtain ⟨i, hi⟩ := List.getElem?_of_mem hm
    have hil : i < 1 := by
      have e9 : Nz.length = 1 := hNz
      have := (List.getElem?_eq_some_iff.mp hi).1
      omega
    match i, hil, hi with
    | 0, _, hi =>
      cases hi.symm.trans hT0
      have := d4.2.2.2 12 16 _ _ _ rfl rfl rfl rfl o12 o16
      omega
  refine gl_both (S := gl_S S b) (Φ := Φ) (Xc := gt_789) (mi0 := 188) (M0 := cm_188) (K := gq_1_3_K) (Kx := kw_thr) (B := gs_39) (y := gq_1_3_y) (va := [.ref aM]) (rest := []) (ρ := ρ4) (G := G4) (N := N4) (Nx := Nz) (θ := xg_θ gz) (ρ0 := xg_ρ [(1, 1, 0, 0)] gz (fun _ => 0)) (c2 := 3 * (k + 1 + 1)) (s2 := 18 * (k + 1 + 1)) hB4 htr ⟨by show 1 ≤ R.frames; omega, by show 12 ≤ R.locals; omega, Nat.zero_le _, Nat.zero_le _⟩ hn1 hn2 hKf4 (gl_St (hSt.moved V4.alike)) cm_g188 rfl (gt_789_ok.wid (Nat.zero_le _) (by decide)) (kw_thr_ok H0).1 ⟨Nat.le_of_ble_eq_true rfl, Nat.le_of_ble_eq_true rfl⟩ rfl rfl gq_1_3_m rfl (Nat.zero_le _) (Nat.zero_le _) (by show 0 + _ ≤ _; omega) (by show 0 + _ ≤ _; omega) hS5 (ck_all.cons (gi_a1 hT0) ck_all.nil) hzH (fun s6 w6 ρ6 G6 N6 hW6 hS6 hF6 hρ6 hrs6 hzH2 hzF => ?_)
  have V6 := State.WarmedH.trans V4 hW6
  have hR6 := hR4.keep hF6 hz4 (by decide)
  have hE6 := hE4.keep hF6 hz4 (by decide) hR4
  obtain ⟨lv6, j1, j2, j3, j4⟩ := id hS6
  have hz6 : ∀ q, s6.heap.size ≤ q → G6 q = 0 := fun q hq => j4.zero hq
  obtain ⟨wt, ewt, xt, et0, -⟩ := hrs6
  have ew6 : w6 = some (.int xt) := by
    have : w6 = some wt := by injection ewt
    rw [this, et0]
  subst ew6
  have hxt : xt = 0 := by
    obtain ⟨u, hu, u1, u2, -⟩ := (j3.2 0 (gv_i 0 0) (.int xt) rfl rfl)
    cases hu
    have u1 : (0 : Int) ≤ xt.toInt := u1
    have u2 : xt.toInt ≤ 0 := u2
    exact gi_ieq (by show xt.toInt = 0; omega)
  subst hxt
  have hO6 : s6.heap[aO]? = some (arrV (AC 1) 1 fO) := by
    rw [hzF.2 aO hOz, hO4]
    exact gO1
  have hB6 := gk_Bmv hB V6
  have hKf6 := hKf.moved V6
  show W p l e _ s6 m args below meth c s6.heap [] 0 0 _ (F0 m 270 ls3 (.int 0 :: []))
  refine lv_iload hexec hcb (gl_dec 270 rfl) (lv_at l7 1 rfl) ?_
  refine lv_icmp_eq hexec hcb (tgt := 277) (gl_dec 272 rfl) rfl (fun _ => ?_) (fun h => absurd rfl h)
  refine lv_iload hexec hcb (gl_dec 277 rfl) (lv_at l7 1 rfl) ?_
  refine lv_if_ne hexec hcb (tgt := 293) (gl_dec 279 rfl) rfl (fun h => absurd rfl h) (fun _ => ?_)
  refine lv_aload_n hexec hcb (gl_dec 282 rfl) (i := 3) rfl (lv_at l7 5 rfl) ?_
  refine lv_iconst hexec hcb (gl_dec 283 rfl) (v := 0) rfl ?_
  refine W.lald hexec hcb (a := aO) (cell := arrV (AC 1) 1 fO) (j := 0) (v := .long vM) hO6 ((hKf6.1.2 1 _ rfl).1 1 fO) ?_ ?_ ?_ rfl rfl (gl_dec 284 rfl) ?_
  · exact fun h => by cases h
  · intro h
    rcases h with h | h
    · exact absurd h (by decide)
    · rw [arrV_size] at h
      exact absurd h (by decide)
  · show (arrV (AC 1) 1 fO).slots[0]? = _
    rw [arrV_read _ _ (by omega), gO3]
  refine lv_lload hexec hcb (gl_dec 285 rfl) (lv_at l7 0 rfl) ?_
  refine W.lcmp hexec hcb (gl_dec 287 rfl) ?_
  have hcz : lg_cmp vM vM = 0 := by simp [lg_cmp]
  rw [hcz]
  refine lv_if_eq hexec hcb (tgt := 293) (gl_dec 288 rfl) rfl (fun _ => ?_) (fun h => absurd rfl h)
  -- on to the head
  have hS7 : gk_S D AC (gl_S S b) gv_tab L 8 ρ6 G6 N6 gp_i1_3_B s6.heap ls3 [] := gi_le gq_1_3_e ⟨lv6, j1, j2, ck_all.nil, j4⟩
  refine gk_piece (M := glw_M) (S := gl_S S b) (n := n) (al := []) hB6 htr ⟨Nat.zero_le _, Nat.zero_le _, Nat.zero_le _, Nat.zero_le _⟩ hn1 hn2 hKf6 ce_ok11 rfl cm_ok gp_i1_3_h ce_glob kco_law_ok (fun a ha => by cases ha) rfl (fun _ => by rw [hρ6 149 (by omega) (by omega), hρ4 149 (by omega) (by omega), r149]; exact hρ1') (by decide) gp_i1_3_m hS7 (fun a' ha' s8 ls8 st8 ρ8 G8 N8 hW8 hS8 hF8 hρ8 => ?_)
  rw [gp_i1_3_n, List.mem_singleton] at ha'
  subst ha'
  obtain ⟨rfl, hS9⟩ := gl_back (b := b) (ρ := ρ8) (by rw [hρ8 149 (by omega) (by omega), hρ6 149 (by omega) (by omega), hρ4 149 (by omega) (by omega), r149]; exact hρ1') (by rw [gl_eE]; exact hS8)
  have V8 := State.WarmedH.trans V6 hW8
  refine ⟨3 * (k + 1), 18 * (k + 1), by show 0 + _ ≤ _; omega, by show 0 + _ ≤ _; omega, ?_⟩
  exact ih s8 _ ls8 ρ8 G8 N8 d a r (by show _ ≤ R.cells - 0 - 0 - 0 - 0 - 0; omega) (by show _ ≤ R.slots - 0 - 0 - 0 - 0 - 0; omega) hf hlo (gk_Bmv hB V8) (hKf.moved V8) (hSt.moved V8.alike) hS9 (hR6.keep hF8 hz6 (by decide)) (hE6.keep hF8 hz6 (by decide) hR6)
end GN
