/-! ===== put's number, by hand ===== -/
def gh_v (w3 w4 : Int32) : Int64 := (w3.toInt64 <<< ((32 : Int32).toInt64 &&& 63)) ||| (w4.toInt64 &&& Int64.ofInt 4294967295)
section GH
variable {p : Program} {l : Launch} {e : Env} {R : Room} {s : State} {m : MethodId} {args : Array Value} {below : List Frame} {meth : Method} {c : Code} {H : Heap} {locs : List Loc} {cells slots : Nat} {Q : State → Prop}
variable {D : va_G} {AC : Nat → ClassId} {S : Nat → Nat} {L : Heap} {n : Nat}
theorem gh_long {pc b : Nat} {ls : Array Slot} {rest : List Value} {w3 w4 xb : Int32} (hB : ck_B p s m meth c glw_M) (hKf : ck_Kf D AC S L s n) (hL : xk_L L H) (h0 : ls[0]? = some (.val (.ref (S 2)))) (h4 : ls[4]? = some (.val (.int xb))) (hxb : xb.toInt = (b : Int)) (hbn : b + 5 ≤ n) (hn2 : n ≤ 2561)
    (d0 : decode code pc = .ok (.i2l, 1)) (d1 : decode code (pc + 1) = .ok (.bipush 32, 2)) (d3 : decode code (pc + 3) = .ok (.lshl, 1)) (d4 : decode code (pc + 4) = .ok (.aload_n 0, 1)) (d5 : decode code (pc + 5) = .ok (.iload 4, 2)) (d7 : decode code (pc + 7) = .ok (.iconst 4, 1)) (d8 : decode code (pc + 8) = .ok (.iadd, 1)) (d9 : decode code (pc + 9) = .ok (.iaload, 1)) (d10 : decode code (pc + 10) = .ok (.i2l, 1)) (d11 : decode code (pc + 11) = .ok (.ldc2_w 96, 3)) (d14 : decode code (pc + 14) = .ok (.land, 1)) (d15 : decode code (pc + 15) = .ok (.lor, 1))
    (hw4 : ∀ cell : Cell, L[S 2]? = some cell → cell.slots[b + 4]? = some (.int w4)) (k : W p l e R s m args below meth c H locs cells slots Q (F0 m (pc + 16) ls (.long (gh_v w3 w4) :: rest))) : W p l e R s m args below meth c H locs cells slots Q (F0 m pc ls (.int w3 :: rest)) := by
  have hexec := hB.1
  have hb : c.code = code := hB.2.1
  obtain ⟨cell, c1, c2, c3, c4, c5, c6⟩ := hKf.sta (show 2 < 3 by omega)
  have c5 : cell.slots.size = n := c5
  have hj : (xb + 4).toInt = (b : Int) + 4 := by
    rw [Int32.toInt_add, hxb]
    exact ck_bm (by show (-2147483648 : Int) ≤ (b : Int) + 4; omega) (by show (b : Int) + 4 ≤ 2147483647; omega)
  have hjn : (xb + 4).toNatClampNeg = b + 4 := by
    show (xb + 4).toInt.toNat = b + 4
    omega
  obtain ⟨v, v1, v2⟩ := ce_ok11.2.2.1 (96, 4294967295) (by decide)
  have hv : v = Int64.ofInt 4294967295 := Int64.toInt_inj.mp (by rw [v1]; rfl)
  subst hv
  refine lv_i2l hexec hb d0 rfl ?_
  refine lv_bipush hexec hb d1 (v := 32) rfl ?_
  refine lv_lshl hexec hb d3 rfl ?_
  refine lv_aload_n hexec hb d4 (i := 0) rfl h0 ?_
  refine lv_iload hexec hb d5 h4 ?_
  refine lv_iconst hexec hb d7 (v := 4) rfl ?_
  refine lv_iadd hexec hb d8 ?_
  refine W.iald hexec hb (a := S 2) (cell := cell) (j := xb + 4) (v := .int w4) (by rw [hL.2 _ c2]; exact c1) c3 c4 (by
    rw [hjn]
    intro h
    rcases h with h | h
    · have := Int32.lt_iff_toInt_lt.mp h
      have e0 : (0 : Int32).toInt = 0 := rfl
      omega
    · omega) (by rw [hjn]; exact hw4 cell c1) rfl rfl d9 ?_
  refine lv_i2l hexec hb d10 rfl ?_
  refine lv_ldc2 hexec hb (own := "RatchetDeskLaw") hB.2.2.2.2.2.1 (hKf.ts _ v2) d11 ?_
  refine lv_land hexec hb d14 ?_
  exact lv_lor hexec hb d15 k
theorem gh_stk {ρ : Nat → Int} {G : Nat → Nat} {N : List Nat} {nm : Nat} {st : List Value} (h : ck_all (ck_R S ρ G N) [gv_g (-2147483648) 2147483647 146 0, gv_g 0 3 145 0, gv_g 0 3 144 0, gv_r 1 nm] st) : ∃ (w3 x1 x2 : Int32) (a : Nat), st = .int w3 :: [.int x2, .int x1, .ref a] ∧ N[nm]? = some a ∧ w3.toInt = ρ 146 ∧ x1.toInt = ρ 144 ∧ x2.toInt = ρ 145 ∧ (0 ≤ x1.toInt ∧ x1.toInt ≤ 3) ∧ (0 ≤ x2.toInt ∧ x2.toInt ≤ 3) ∧ ck_all (ck_R S ρ G N) [gv_g 0 3 145 0, gv_g 0 3 144 0, gv_r 1 nm] [.int x2, .int x1, .ref a] := by
  obtain ⟨v3, t3, rfl, r3, h⟩ := h.uncons
  have h' := h
  obtain ⟨v2, t2, rfl, r2, h⟩ := h.uncons
  obtain ⟨v1, t1, rfl, r1, h⟩ := h.uncons
  obtain ⟨v0, t0, rfl, r0, h⟩ := h.uncons
  have ht : t0 = [] := by
    have := h.1
    cases t0 with
    | nil => rfl
    | cons a b => simp at this
  subst ht
  obtain ⟨w3, rfl, a3, -⟩ := gi_int r3
  obtain ⟨x2, rfl, a2, b2⟩ := gi_int r2
  obtain ⟨x1, rfl, a1, b1⟩ := gi_int r1
  obtain ⟨a, ha, rfl⟩ := r0
  exact ⟨w3, x1, x2, a, rfl, ha, a3, a1, a2, b1, b2, h'⟩
theorem gh_ls {B : ck_A} {ρ : Nat → Int} {G : Nat → Nat} {N : List Nat} {H : Heap} {ls : Array Slot} {st : List Value} {b : Nat} {fs : List ck_V} {lo hi : Int} (hS : gk_S D AC (gl_S S b) gv_tab L 8 ρ G N B H ls st) (hA0 : ck_loc B.1 0 = some (gv_r 1 0)) (hA4 : ck_loc B.1 4 = some (gv_g 1 2556 149 0)) (hT : B.2.2[0]? = some ((6, 2), fs)) (hf : fs[4]? = some (gv_g lo hi 147 0)) (hρ : ρ 149 = (b : Int)) : ls[0]? = some (.val (.ref (S 2))) ∧ (∃ xb : Int32, ls[4]? = some (.val (.int xb)) ∧ xb.toInt = (b : Int)) ∧ ∃ w4 : Int32, w4.toInt = ρ 147 ∧ ∀ cell : Cell, L[S 2]? = some cell → cell.slots[b + 4]? = some (.int w4) := by
  obtain ⟨lv, h1, h2, h3, h4⟩ := hS
  obtain ⟨j0, w0, g1, g2⟩ := ck_loc_ok h2 hA0
  obtain ⟨a, ha, rfl⟩ := g2
  obtain ⟨e0, cell, z1, z2, z3⟩ := h4.2.2.1 0 _ a hT ha
  have e0 : a = S 2 := e0
  subst e0
  obtain ⟨j4, w4', f1, f2⟩ := ck_loc_ok h2 hA4
  obtain ⟨xb, rfl, x1, -⟩ := gi_int f2
  obtain ⟨wv, y1, y2⟩ := z3 4 _ hf
  obtain ⟨w4, rfl, y3, -⟩ := gi_int y2
  refine ⟨lv_at h1 j0 g1, ⟨xb, lv_at h1 j4 f1, x1.trans hρ⟩, w4, y3, fun cell' hc => ?_⟩
  cases z1.symm.trans hc
  exact y1
end GH
