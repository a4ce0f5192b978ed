/-! ===== a call of which a typed and an exact contract speak ===== -/
theorem gi_xi {n k j : Nat} (h : j < k) : (xi n k)[j]? = some (0, n + j, 0) := by
  unfold xi
  rw [List.getElem?_map, List.getElem?_range h]
  rfl
theorem gi_xn {n k j : Nat} (h : j < k) : (xn n k)[j]? = some (n + j) := by
  unfold xn
  rw [List.getElem?_map, List.getElem?_range h]
  rfl
section GI
variable {p : Program} {l : Launch} {e : Env} {R : Room} {s : State} {m : MethodId} {args : Array Value} {below : List Frame} {meth : Method} {c : Code}
variable {D : va_G} {AC : Nat → ClassId} {S : Nat → Nat} {tab : List ck_D} {L : Heap} {n : Nat}
theorem gk_S.le {ρ : Nat → Int} {G : Nat → Nat} {N : List Nat} {B B' : ck_A} {H : Heap} {ls : Array Slot} {st : List Value} {nL : Nat} (hl : ck_leA B B' = true) (h : gk_S D AC S tab L nL ρ G N B H ls st) : ∃ ρ' G' N', ρ' = ρ ∧ G' = G ∧ N' = N ∧ gk_S D AC S tab L nL ρ' G' N' B' H ls st := by
  obtain ⟨lv, h1, h2, h3, h4⟩ := h
  unfold ck_leA at hl
  simp only [Bool.and_eq_true, beq_iff_eq] at hl
  obtain ⟨⟨⟨l1, l2⟩, l3⟩, l4⟩ := hl
  have key : ∀ A' : List (Nat × ck_V), A'.all (fun q => match ck_loc B.1 q.1 with
    | some v => ck_le v q.2
    | none => false) = true → ∃ lv', lv_has ls nL lv' ∧ ck_all (ck_RL S ρ G N) A' lv' := by
    intro A'
    induction A' with
    | nil => exact fun _ => ⟨[], ⟨h1.1, h1.2.1, fun q hq => by cases hq⟩, ck_all.nil⟩
    | cons q t ih =>
      intro hall
      rw [List.all_cons, Bool.and_eq_true] at hall
      obtain ⟨lv', i1, i2⟩ := ih hall.2
      have hq := hall.1
      split at hq
      · rename_i v hv
        obtain ⟨j, w, g1, g2⟩ := ck_loc_ok h2 hv
        have hls : ls[q.1]? = some (.val w) := lv_at h1 j g1
        refine ⟨(q.1, w) :: lv', ⟨h1.1, h1.2.1, fun r hr => ?_⟩, ck_all.cons ⟨rfl, g2.le hq⟩ i2⟩
        rcases List.mem_cons.mp hr with rfl | hr
        · exact hls
        · exact i1.2.2 r hr
      · cases hq
  obtain ⟨lv', i1, i2⟩ := key B'.1 l1
  refine ⟨ρ, G, N, rfl, rfl, rfl, lv', i1, i2, ⟨by rw [← l2]; exact h3.1, fun i k v hk hv => ?_⟩, h4.leT l4⟩
  have hil : i < B.2.1.length := by rw [l2]; exact (List.getElem?_eq_some_iff.mp hk).1
  have hk0 : B.2.1[i]? = some B.2.1[i] := List.getElem?_eq_getElem hil
  have hz : (B.2.1[i], k) ∈ B.2.1.zip B'.2.1 := List.mem_of_getElem? (i := i) (by rw [List.getElem?_zip_eq_some]; exact ⟨hk0, hk⟩)
  exact (h3.2 i _ v hk0 hv).le (List.all_eq_true.mp l3 _ hz)
theorem gi_le {ρ : Nat → Int} {G : Nat → Nat} {N : List Nat} {B B' : ck_A} {H : Heap} {ls : Array Slot} {st : List Value} {nL : Nat} (hl : ck_leA B B' = true) (h : gk_S D AC S tab L nL ρ G N B H ls st) : gk_S D AC S tab L nL ρ G N B' H ls st := by
  obtain ⟨_, _, _, rfl, rfl, rfl, h'⟩ := h.le hl
  exact h'
/-- the call: both ends are of one state -/
theorem gl_both {Φ : Nat → Nat → List Int → Int} {Xc : ck_Kt} {mi0 : Nat} {M0 : ck_MM} {K : ck_Ct} {Kx : xk_K} {i : Instr} {pc cZ sZ c2 s2 : Nat} {y : ck_N} {B : ck_A} {post : List ck_C} {rr : Option ck_V} {ls : Array Slot} {va rest : List Value} {ρ : Nat → Int} {G : Nat → Nat} {N Nx : List Nat} {θ : Nat → Value} {ρ0 : Nat → Int}
    (hB : ck_B p s m meth c glw_M) (htr : e.platform.stackTraces = false) (hR : K.2.2.2.2.1 ≤ R.frames ∧ K.2.2.2.2.2.1 ≤ R.locals ∧ K.2.2.2.2.2.2.1 ≤ R.cells ∧ K.2.2.2.2.2.2.2 ≤ R.slots) (hn1 : 1 ≤ n) (hn2 : n ≤ 2561) (hKf : ck_Kf D AC S L s n) (hSt : xk_St S L s) (hM0 : cm_ms[mi0]? = some M0) (hX : Xc.2.1 = [(post, .inl rr)]) (hOt : gck_Ok l gv_tab (1, 2561) M0.1 Xc) (hOx : xk_Ok l Φ (0, 2147483647) M0.1 Kx) (hrm : Kx.2.2.2.2.2.1 ≤ Xc.1.2.2.2.2.1 ∧ Kx.2.2.2.2.2.2 ≤ Xc.1.2.2.2.2.2.1)
    (hi : ck_cdAt kco_law pc = some (i, 3)) (hnp : B.2.2.length = K.2.1.length) (hcal : gck_cal ce_11 gv_tab cm_ms [(mi0, Xc)] glw_M K [] Xc.2.2 i 3 pc B 0 0 = some [y]) (hva : va.length = ck_na M0.2.1 M0.2.2.1) (hy1 : y.2.2.1 ≤ R.cells) (hy2 : y.2.2.2 ≤ R.slots) (hc : y.2.2.1 + c2 ≤ cZ) (hs : y.2.2.2 + s2 ≤ sZ)
    (hS : gk_S D AC S gv_tab L 8 ρ G N B s.heap ls (va.reverse ++ rest)) (hxv : ck_all (xk_R S θ ρ0 Nx) Kx.1 va) (hxH : xk_H D AC S θ L ρ0 Nx Kx.2.1 s.heap)
    (kk : ∀ (s' : State) (w : Option Value) (ρ' : Nat → Int) (G' : Nat → Nat) (N' : List Nat), s.WarmedH s'.vm → gk_S D AC S gv_tab L 8 ρ' G' N' y.2.1 s'.heap ls (w.toList ++ rest) → gck_F Xc.2.2 G N s.heap G' N' y.2.1.2.2 s'.heap → (∀ g, 100 ≤ g → g < 200 → ρ' g = ρ g) → xk_rs S θ (xk_rho Φ Kx.2.2.2.2.1 ρ0) Nx Kx.2.2.1 (.returned w) → xk_H D AC S θ L (xk_rho Φ Kx.2.2.2.2.1 ρ0) Nx Kx.2.2.2.1 s'.heap → xk_F Nx s.heap s'.heap →
      W p l e { R with cells := R.cells - y.2.2.1, slots := R.slots - y.2.2.2 } s' m args below meth c s'.heap [] 0 0 (gk_Z below L c2 s2 s') (F0 m y.1 ls (w.toList ++ rest))) :
    W p l e R s m args below meth c s.heap [] 0 0 (gk_Z below L cZ sZ s) (F0 m pc ls (va.reverse ++ rest)) := by
  obtain ⟨lv, s1, s2', s3, s4⟩ := hS
  have hNB : N.length = B.2.2.length := s4.2.1
  have hxL : xk_L L s.heap := ⟨s4.1.1, s4.1.2.1⟩
  refine gcw_calP (Xc := Xc) (mi0 := mi0) (nS := n) (nb := (1, 2561)) (wr := Xc.2.2) (al := []) (K := K) (M0 := M0) (post := post) (r := rr) (ρ0 := ρ) (G0 := G) (N0 := N) (cod := kco_law) (Pp := fun o H' => xk_rs S θ (xk_rho Φ Kx.2.2.2.2.1 ρ0) Nx Kx.2.2.1 o ∧ xk_H D AC S θ L (xk_rho Φ Kx.2.2.2.2.1 ρ0) Nx Kx.2.2.2.1 H' ∧ xk_F Nx s.heap H')
    ⟨hB, htr, hR, ⟨n, hn1, hn2, hKf⟩, ce_ok11, rfl, cm_ok, (fun q hq => by rw [List.mem_singleton] at hq; subst hq; exact ⟨M0, hM0, hOt⟩), ce_glob, kco_law_ok⟩ ⟨hn1, hn2⟩ hKf rfl (kco_law_ok _ _ _ hi) hcal hM0 hX ⟨ρ, G, N, lv, s1, s2', s3, s4, gck_F.refl hNB (fun q hq => s4.zero hq), (fun q hq => by cases hq), fun _ _ _ => rfl⟩ hva
    (fun R' s' mk methk ck below' q1 q2 q3 q4 q5 q6 => ck_mono (fun t ht => ?_) (hOx p e R' s' mk va.toArray below' methk ck D AC S θ L ρ0 Nx va n (Nat.zero_le _) (by omega) q1 htr (Nat.le_trans hrm.1 q2) (Nat.le_trans hrm.2 q3) q4 (hSt.moved q6.alike) (by rw [q5]; exact hxL) rfl hxv (by rw [q5]; exact hxH))) (fun H' w locs' hst hpp => ?_)
  · obtain ⟨o, t1, t2, t3, t4, t5, t6, t7⟩ := ht
    rw [q5] at t7
    exact ⟨o, t2, t5, t6, t7⟩
  · obtain ⟨ρ', G', N', lv', i1, i2, i3, i4, i5, i6, i7⟩ := hst
    refine gk_cut hy1 hy2 i6 hc hs (fun s' hs' hW => ?_)
    subst hs'
    exact kk s' w ρ' G' N' hW ⟨lv', i1, i2, i3, i4⟩ i5 i7 hpp.1 hpp.2.1 hpp.2.2
/-- what a node is at first -/
theorem gx_node {Tl : List ck_C} {rt : List (Nat × Nat)} {τs : List Nat} {par : List (Nat × Nat)} {bl : List (Nat × Nat × Nat × Nat)} {T : List xk_C} (hck : gx_ck tab Tl rt τs par bl T = true) {g : Nat → Nat → Value} {ext : Nat → Int} {i j k nd : Nat} {z : Int} {cc : xk_C} (hT : T[i]? = some cc) (hj : cc.2[j]? = some (k, nd, z)) (hk : k < 2) (h0 : nd ≠ 0) : xg_ρ bl g ext nd = xg_I (g i j) := by
  unfold gx_ck at hck
  simp only [Bool.and_eq_true] at hck
  have h9 := List.all_eq_true.mp hck.2 i (List.mem_range.mpr (List.getElem?_eq_some_iff.mp hT).1)
  simp only [Bool.and_eq_true] at h9
  have h7 := h9.1.1
  rw [hT] at h7
  dsimp only at h7
  simp only [Bool.and_eq_true] at h7
  have h6 := List.all_eq_true.mp h7.2 j (List.mem_range.mpr (List.getElem?_eq_some_iff.mp hj).1)
  rw [hj] at h6
  dsimp only at h6
  have hf : xg_find bl nd = some (i, j) := by
    match k, hk, h6 with
    | 0, _, h6 =>
      have h6 : (match gx_kd tab Tl rt τs i j with
        | some (.inl _) => if nd = 0 then (ck_lk rt i).isNone && !(cc.1.1 == 0) && τs.getD i 0 == 49 && decide (gr_kc[j]? = some z) else decide (xg_find bl nd = some (i, j))
        | _ => false) = true := h6
      split at h6
      · rw [if_neg h0] at h6
        exact of_decide_eq_true h6
      · cases h6
    | 1, _, h6 =>
      have h6 : (match gx_kd tab Tl rt τs i j with
        | some (.inr (.inl _)) => !(nd == 0) && decide (xg_find bl nd = some (i, j))
        | _ => false) = true := h6
      split at h6
      · simp only [Bool.and_eq_true, decide_eq_true_eq] at h6
        exact h6.2
      · cases h6
  unfold xg_ρ
  rw [hf]
/-- what stands at a place, told by a node -/
theorem gx_post {θ : Nat → Value} {ρ1 : Nat → Int} {N : List Nat} {T : List xk_C} {H : Heap} (h : xk_H D AC S θ L ρ1 N T H) {i a j nd : Nat} {z : Int} {cc : xk_C} (hT : T[i]? = some cc) (hN : N[i]? = some a) (hk : cc.1.1 ≠ 0) (hj : cc.2[j]? = some (0, nd, z)) (h0 : nd ≠ 0) : ∃ x : Int32, gk_at H a j = some (.int x) ∧ x.toInt = ρ1 nd := by
  have h1 := (h.2.2 i cc a hT hN).2
  have hjl := (List.getElem?_eq_some_iff.mp hj).1
  obtain ⟨⟨k, ac⟩, fs⟩ := cc
  have fin : ∀ (f : Nat → Value) (sz : Nat), H[a]? = some (arrV (AC ac) sz f) → j < sz → xk_R S θ ρ1 N (0, nd, z) (f j) → ∃ x : Int32, gk_at H a j = some (.int x) ∧ x.toInt = ρ1 nd := fun f sz e1 e2 e3 => by
    obtain ⟨x, e4, e5⟩ := e3
    refine ⟨x, ?_, ?_⟩
    · unfold gk_at
      rw [e1]
      show (arrV (AC ac) sz f).slots[j]? = _
      rw [arrV_read _ _ e2, e4]
    · rw [e5]
      unfold xk_ov
      rw [if_neg h0]
  match k, hk, h1 with
  | 1, _, h1 =>
    obtain ⟨f, f1, f2⟩ := h1
    exact fin f _ f1 hjl (f2 j _ hj)
  | k + 2, _, h1 =>
    obtain ⟨f, f1, f2, f3, -⟩ := h1
    exact fin f _ f1 (Nat.lt_of_lt_of_le hjl f2) (f3 j _ hj)
section GIN
variable {ρ : Nat → Int} {G : Nat → Nat} {Nl : List Nat} {Tl : List ck_C} {H : Heap} {rt : List (Nat × Nat)} {τs : List Nat} {par : List (Nat × Nat)} {T : List xk_C} {N : List Nat} {g : Nat → Nat → Value} {d a : Nat} {r : Nat → Nat}
/-- a typed cell that has none of the named cells' types is none of them -/
theorem gi_out (hN : N.length = T.length) (hg : ∀ i a c, N[i]? = some a → T[i]? = some c → gx_cell D AC tab L G Nl Tl H rt τs par g i a c) {q τ : Nat} (hq : G q = τ) (h0 : τ ≠ 0) (hτ : τ ∉ τs) (hl : τs.length = T.length) : q ∉ N := by
  intro hm
  obtain ⟨i, hi⟩ := List.getElem?_of_mem hm
  have hil : i < T.length := by rw [← hN]; exact (List.getElem?_eq_some_iff.mp hi).1
  obtain ⟨-, -, -, h4⟩ := hg i q _ hi (List.getElem?_eq_getElem hil)
  cases hr : ck_lk rt i with
  | some nm =>
    rw [hr] at h4
    exact h0 (hq.symm.trans h4.1)
  | none =>
    rw [hr] at h4
    have e1 : τs.getD i 0 = τ := h4.1.symm.trans hq
    have hit : i < τs.length := by omega
    rw [List.getD_eq_getElem?_getD, List.getElem?_eq_getElem hit] at e1
    exact hτ (by rw [← e1]; exact List.getElem_mem hit)
theorem gi_keep (hN : N.length = T.length) (hg : ∀ i a c, N[i]? = some a → T[i]? = some c → gx_cell D AC tab L G Nl Tl H rt τs par g i a c) {H' : Heap} (hF : xk_F N H H') {q τ j : Nat} (hq : G q = τ) (h0 : τ ≠ 0) (hτ : τ ∉ τs) (hl : τs.length = T.length) : gk_at H' q j = gk_at H q j := gk_at_eq (hF.2 q (gi_out hN hg hq h0 hτ hl))
/-- the desk and its rows, among the exact contract's cells -/
theorem gi_rows (hN : N.length = T.length) (hg : ∀ i a c, N[i]? = some a → T[i]? = some c → gx_cell D AC tab L G Nl Tl H rt τs par g i a c) (hR : gr_R G H d a r) (hl : 6 ≤ T.length) (h1 : (ck_lk rt 1).isNone = true ∧ τs.getD 1 0 = 13 ∧ T[1]? = some ((1, 7), [(2, 2, 0), (2, 3, 0), (2, 4, 0), (2, 5, 0)])) (h2 : ∀ k, k < 4 → (ck_lk rt (2 + k)).isNone = true ∧ par[2 + k]? = some (1, k)) (h3 : ∀ k, k < 4 → ∃ cc, T[2 + k]? = some cc ∧ cc.1.1 = 1 ∧ cc.2.length = 32) :
    ∀ k, k < 4 → N[2 + k]? = some (r k) ∧ ∀ j, j < 32 → gk_at H (r k) j = some (g (2 + k) j) := by
  intro k hk
  have n1 : N[1]? = some (N[1]'(by omega)) := List.getElem?_eq_getElem (by omega)
  obtain ⟨-, q2, -, q4⟩ := hg 1 _ _ n1 h1.2.2
  have r1 : ck_lk rt 1 = none := by simpa using h1.1
  rw [r1] at q4
  have ed : N[1]'(by omega) = d := hR.2.2.1 _ (q4.1.trans h1.2.1)
  rw [ed] at q2
  have e1 : gk_at H d k = some (g 1 k) := q2.at (by decide) hk
  rw [(hR.2.2.2.2.2.1 k hk).2] at e1
  have e1 : Value.ref (r k) = g 1 k := Option.some.inj e1
  have nk : N[2 + k]? = some (N[2 + k]'(by omega)) := List.getElem?_eq_getElem (by omega)
  obtain ⟨cc, c1, c2, c3⟩ := h3 k hk
  obtain ⟨-, p2, -, p4⟩ := hg (2 + k) _ _ nk c1
  have r2 : ck_lk rt (2 + k) = none := by simpa using (h2 k hk).1
  rw [r2] at p4
  have e2 := p4.2.2 1 k (h2 k hk).2
  rw [← e1] at e2
  have e3 : r k = N[2 + k]'(by omega) := by simpa using e2
  rw [← e3] at nk p2
  refine ⟨nk, fun j hj => p2.at (by rw [c2]; decide) ?_⟩
  unfold gx_sz
  rw [if_pos c2, c3]
  exact hj
/-- the memory, among the exact contract's cells -/
theorem gi_mem (hN : N.length = T.length) (hg : ∀ i a c, N[i]? = some a → T[i]? = some c → gx_cell D AC tab L G Nl Tl H rt τs par g i a c) (hR : gr_R G H d a r) {im : Nat} {fs : List xk_V} (h1 : (ck_lk rt im).isNone = true ∧ τs.getD im 0 = 46 ∧ T[im]? = some ((6000, 0), fs)) : N[im]? = some a ∧ ∀ j, j < 6000 → gk_at H a j = some (g im j) := by
  have hil := (List.getElem?_eq_some_iff.mp h1.2.2).1
  have n1 : N[im]? = some (N[im]'(by omega)) := List.getElem?_eq_getElem (by omega)
  obtain ⟨-, q2, -, q4⟩ := hg im _ _ n1 h1.2.2
  have r1 : ck_lk rt im = none := by simpa using h1.1
  rw [r1] at q4
  have ed : N[im]'(by omega) = a := hR.2.2.2.1 _ (q4.1.trans h1.2.1)
  rw [ed] at q2 n1
  exact ⟨n1, fun j hj => q2.at (by show (6000 : Nat) ≠ 0; omega) hj⟩
end GIN
end GI
