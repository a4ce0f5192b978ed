/-! the second checker: 10 -/
section CKR
variable {p : Program} {l : Launch} {e : Env} {R : Room} {s : State} {m : MethodId} {args : Array Value} {below : List Frame} {meth : Method} {c : Code} {cells slots : Nat} {Q : State → Prop}
variable {cc : ByteArray} {pc pc2 nL : Nat} {D : va_G} {AC : Nat → ClassId} {S : Nat → Nat} {tab : List ck_D} {L : Heap} {ρ0 : Nat → Int} {wr : List Nat} {G0 : Nat → Nat} {N0 : List Nat} {H0 : Heap}
variable {A : List (Nat × ck_V)} {st : List ck_V} {T : List ck_C} {own : String}
/-- from a typed array -/
theorem gcw_ldTy (hexec : p.tables.exec = Jvm.exec) (hb : c.code = cc) (hK : va_K D ck_cl (ck_tys AC) s) {τ ac n : Nat} {sg : List (Nat × ck_V)} {q : ck_Q} {k : ck_V} {ty : FieldType} (hτ : tab[τ]? = some (.inl (ac, n, sg))) (hty : ck_tyK ac = some ty) (h0 : 0 ≤ q.1) (hn : q.2.1 < (n : Int)) (hk : ck_rd sg q.1.toNat q.2.1.toNat = some k) (hp : ck_plain k = true) (hd : decode cc pc = .ok (ck_ldi ac, 1))
    (kk : gck_W p l e R s m args below meth c Q D AC S tab L nL ρ0 wr G0 N0 H0 (pc + 1) (A, k :: st, T) cells slots) : gck_W p l e R s m args below meth c Q D AC S tab L nL ρ0 wr G0 N0 H0 pc (A, .inl q :: .inr (.inr (2, τ)) :: st, T) cells slots := by
  intro H ls vs locs h
  obtain ⟨ρ, G, N, lv, h1, h2, h3, h4, h5, h6, h7⟩ := h
  obtain ⟨_, vs', rfl, ⟨i, rfl, gi⟩, g2⟩ := h3.uncons
  obtain ⟨_, vs'', rfl, ⟨a, rfl, ha, hz⟩, g3⟩ := g2.uncons
  obtain ⟨j, j1, j2, j3, j4, j5, j6⟩ := ck_idx gi h0 hn
  have ht := (h4.1.2.2 a (by rw [ha]; exact hz)).2
  rw [ha] at ht
  unfold ck_ty at ht
  rw [hτ] at ht
  obtain ⟨f, z1, z2⟩ := ht
  have y := z2 j j3
  rw [ck_rd_ok hk j (by omega) (by omega)] at y
  refine cw_ld0 hexec hb hK hty z1 j6 hd (kk H ls _ locs ⟨ρ, G, N, lv, h1, h2, ck_all.cons ?_ g3, h4, h5, h6, h7⟩)
  rw [j2]
  exact y.plain hp
/-- from an array of one's own, at a known place -/
theorem gcw_ldOwn (hexec : p.tables.exec = Jvm.exec) (hb : c.code = cc) (hK : va_K D ck_cl (ck_tys AC) s) {i ac j : Nat} {es : List ck_V} {q : ck_Q} {k : ck_V} {ty : FieldType} (hi : T[i]? = some ((1, ac), es)) (hty : ck_tyK ac = some ty) (h0 : q.1 = (j : Int)) (hn : q.2.1 = (j : Int)) (hk : es[j]? = some k) (hd : decode cc pc = .ok (ck_ldi ac, 1))
    (kk : gck_W p l e R s m args below meth c Q D AC S tab L nL ρ0 wr G0 N0 H0 (pc + 1) (A, k :: st, T) cells slots) : gck_W p l e R s m args below meth c Q D AC S tab L nL ρ0 wr G0 N0 H0 pc (A, .inl q :: .inr (.inr (1, i)) :: st, T) cells slots := by
  intro H ls vs locs h
  obtain ⟨ρ, G, N, lv, h1, h2, h3, h4, h5, h6, h7⟩ := h
  obtain ⟨_, vs', rfl, ⟨x, rfl, gi⟩, g2⟩ := h3.uncons
  obtain ⟨_, vs'', rfl, ⟨a, ha, rfl⟩, g3⟩ := g2.uncons
  have hjl : j < es.length := (List.getElem?_eq_some_iff.mp hk).1
  obtain ⟨j', j1, j2, j3, j4, j5, j6⟩ := ck_idx (n := es.length) gi (by omega) (by omega)
  have ej : j' = j := by omega
  subst ej
  obtain ⟨l1, l2, f, z1, z2⟩ := h4.2.2.1 i _ a hi ha
  refine cw_ld0 hexec hb hK hty z1 j6 hd (kk H ls _ locs ⟨ρ, G, N, lv, h1, h2, ck_all.cons ?_ g3, h4, h5, h6, h7⟩)
  rw [j2]
  exact z2 j' k hk
/-- from an array of one's own, between bounds -/
theorem gcw_ldOwnW (hexec : p.tables.exec = Jvm.exec) (hb : c.code = cc) (hK : va_K D ck_cl (ck_tys AC) s) {i ac : Nat} {es : List ck_V} {q : ck_Q} {k : ck_V} {ty : FieldType} (hi : T[i]? = some ((1, ac), es)) (hty : ck_tyK ac = some ty) (h0 : 0 ≤ q.1) (hn : q.2.1 < (es.length : Int)) (hk : ∀ (j : Nat) (v : ck_V), q.1 ≤ (j : Int) → (j : Int) ≤ q.2.1 → es[j]? = some v → ck_le v k = true) (hd : decode cc pc = .ok (ck_ldi ac, 1))
    (kk : gck_W p l e R s m args below meth c Q D AC S tab L nL ρ0 wr G0 N0 H0 (pc + 1) (A, k :: st, T) cells slots) : gck_W p l e R s m args below meth c Q D AC S tab L nL ρ0 wr G0 N0 H0 pc (A, .inl q :: .inr (.inr (1, i)) :: st, T) cells slots := by
  intro H ls vs locs h
  obtain ⟨ρ, G, N, lv, h1, h2, h3, h4, h5, h6, h7⟩ := h
  obtain ⟨_, vs', rfl, ⟨x, rfl, gi⟩, g2⟩ := h3.uncons
  obtain ⟨_, vs'', rfl, ⟨a, ha, rfl⟩, g3⟩ := g2.uncons
  obtain ⟨j', j1, j2, j3, j4, j5, j6⟩ := ck_idx (n := es.length) gi h0 hn
  obtain ⟨l1, l2, f, z1, z2⟩ := h4.2.2.1 i _ a hi ha
  refine cw_ld0 hexec hb hK hty z1 j6 hd (kk H ls _ locs ⟨ρ, G, N, lv, h1, h2, ck_all.cons ?_ g3, h4, h5, h6, h7⟩)
  rw [j2]
  have he : es[j']? = some es[j'] := List.getElem?_eq_getElem j3
  exact (z2 j' _ he).le (hk j' _ j4 j5 he)
theorem gcw_ldSt (hexec : p.tables.exec = Jvm.exec) (hb : c.code = cc) {j n : Nat} {q : ck_Q} (hs : ck_sta S L s j n) (h0 : 0 ≤ q.1) (hn : q.2.1 < (n : Int)) (hd : decode cc pc = .ok (.iaload, 1))
    (kk : gck_W p l e R s m args below meth c Q D AC S tab L nL ρ0 wr G0 N0 H0 (pc + 1) (A, ck_full :: st, T) cells slots) : gck_W p l e R s m args below meth c Q D AC S tab L nL ρ0 wr G0 N0 H0 pc (A, .inl q :: .inr (.inr (3, j)) :: st, T) cells slots := by
  intro H ls vs locs h
  obtain ⟨ρ, G, N, lv, h1, h2, h3, h4, h5, h6, h7⟩ := h
  obtain ⟨_, vs', rfl, ⟨i, rfl, gi⟩, g2⟩ := h3.uncons
  obtain ⟨_, vs'', rfl, rfl, g3⟩ := g2.uncons
  obtain ⟨j', j1, j2, j3, j4, j5, j6⟩ := ck_idx gi h0 hn
  obtain ⟨cell, c1, c2, c3, c4, c5, c6⟩ := hs
  obtain ⟨x, hx⟩ := c6 j' j3
  refine W.iald hexec hb (v := .int x) (by rw [h4.1.2.1 _ c2]; exact c1) c3 c4 (by rw [c5]; exact j6) (by rw [j2]; exact hx) rfl rfl hd (kk H ls _ locs ⟨ρ, G, N, lv, h1, h2, ck_all.cons ?_ g3, h4, h5, h6, h7⟩)
  exact ⟨x, rfl, (ck_i32 x).1, (ck_i32 x).2, fun g c q => by cases q⟩
/-- a static array by its name, at a known place -/
theorem gcw_ldSn (hexec : p.tables.exec = Jvm.exec) (hb : c.code = cc) {i j n k : Nat} {es : List ck_V} {q : ck_Q} {v : ck_V} (hs : ck_sta S L s j n) (hi : T[i]? = some ((5, j), es)) (h0 : q.1 = (k : Int)) (hn : q.2.1 = (k : Int)) (hk : es[k]? = some v) (hd : decode cc pc = .ok (.iaload, 1))
    (kk : gck_W p l e R s m args below meth c Q D AC S tab L nL ρ0 wr G0 N0 H0 (pc + 1) (A, v :: st, T) cells slots) : gck_W p l e R s m args below meth c Q D AC S tab L nL ρ0 wr G0 N0 H0 pc (A, .inl q :: .inr (.inr (1, i)) :: st, T) cells slots := by
  intro H ls vs locs h
  obtain ⟨ρ, G, N, lv, h1, h2, h3, h4, h5, h6, h7⟩ := h
  obtain ⟨_, vs', rfl, ⟨x, rfl, gi⟩, g2⟩ := h3.uncons
  obtain ⟨_, vs'', rfl, ⟨a, ha, rfl⟩, g3⟩ := g2.uncons
  obtain ⟨e0, cell', z1, z2, z3⟩ := h4.2.2.1 i _ a hi ha
  subst e0
  obtain ⟨cell, c1, c2, c3, c4, c5, c6⟩ := hs
  cases c1.symm.trans z1
  obtain ⟨w, y1, y2⟩ := z3 k v hk
  have hkn : k < n := by rw [← c5]; exact (Array.getElem?_eq_some_iff.mp y1).1
  obtain ⟨j', j1, j2, j3, j4, j5, j6⟩ := ck_idx (n := n) gi (by omega) (by omega)
  have ej : j' = k := by omega
  subst ej
  exact W.iald hexec hb (v := w) (by rw [h4.1.2.1 _ c2]; exact c1) c3 c4 (by rw [c5]; exact j6) (by rw [j2]; exact y1) rfl rfl hd (kk H ls _ locs ⟨ρ, G, N, lv, h1, h2, ck_all.cons y2 g3, h4, h5, h6, h7⟩)
/-- a window of a static array, at a place known by the ghost 149 -/
theorem gcw_ldWin (hexec : p.tables.exec = Jvm.exec) (hb : c.code = cc) {i j n k : Nat} {es : List ck_V} {q : ck_Q} {v : ck_V} (hs : ck_sta S L s j n) (hi : T[i]? = some ((6, j), es)) (hq : q.2.2 = some (149, (k : Int))) (hk : es[k]? = some v) (h149 : ρ0 149 = (S 3 : Int)) (hd : decode cc pc = .ok (.iaload, 1))
    (kk : gck_W p l e R s m args below meth c Q D AC S tab L nL ρ0 wr G0 N0 H0 (pc + 1) (A, v :: st, T) cells slots) : gck_W p l e R s m args below meth c Q D AC S tab L nL ρ0 wr G0 N0 H0 pc (A, .inl q :: .inr (.inr (1, i)) :: st, T) cells slots := by
  intro H ls vs locs h
  obtain ⟨ρ, G, N, lv, h1, h2, h3, h4, h5, h6, h7⟩ := h
  obtain ⟨_, vs', rfl, ⟨x, rfl, gi⟩, g2⟩ := h3.uncons
  obtain ⟨_, vs'', rfl, ⟨a, ha, rfl⟩, g3⟩ := g2.uncons
  have hx := gi.2.2 149 (k : Int) hq
  rw [h7 149 (by omega) (by omega), h149] at hx
  obtain ⟨e0, cell', z1, z2, z3⟩ := h4.2.2.1 i _ a hi ha
  subst e0
  obtain ⟨cell, c1, c2, c3, c4, c5, c6⟩ := hs
  cases c1.symm.trans z1
  obtain ⟨w, y1, y2⟩ := z3 k v hk
  have hlt : S 3 + k < cell'.slots.size := (Array.getElem?_eq_some_iff.mp y1).1
  have j2 : x.toNatClampNeg = S 3 + k := by show x.toInt.toNat = S 3 + k; omega
  exact W.iald hexec hb (v := w) (by rw [h4.1.2.1 _ c2]; exact c1) c3 c4 (vp_in_iff.mpr (by omega)) (by rw [j2]; exact y1) rfl rfl hd (kk H ls _ locs ⟨ρ, G, N, lv, h1, h2, ck_all.cons y2 g3, h4, h5, h6, h7⟩)
/-- the length of a static array, between bounds -/
theorem gcw_lenW (hexec : p.tables.exec = Jvm.exec) (hb : c.code = cc) {i j n kd : Nat} {es : List ck_V} {lo hi' : Int} (hs : ck_sta S L s j n) (hi : T[i]? = some ((kd, j), es)) (hkd : kd = 5 ∨ kd = 6) (h1 : lo ≤ (n : Int)) (h2 : (n : Int) ≤ hi') (hn : n < 2147483648) (hd : decode cc pc = .ok (.arraylength, 1))
    (kk : gck_W p l e R s m args below meth c Q D AC S tab L nL ρ0 wr G0 N0 H0 (pc + 1) (A, .inl (lo, hi', none) :: st, T) cells slots) : gck_W p l e R s m args below meth c Q D AC S tab L nL ρ0 wr G0 N0 H0 pc (A, .inr (.inr (1, i)) :: st, T) cells slots := by
  intro H ls vs locs h
  obtain ⟨ρ, G, N, lv, h1', h2', h3, h4, h5, h6, h7⟩ := h
  obtain ⟨_, vs', rfl, ⟨a, ha, rfl⟩, g2⟩ := h3.uncons
  have e0 : a = S j := by
    have := h4.2.2.1 i _ a hi ha
    rcases hkd with rfl | rfl
    · exact this.1
    · exact this.1
  subst e0
  obtain ⟨cell, c1, c2, c3, c4, c5, c6⟩ := hs
  have e := nI_toInt (n := n) hn
  refine W.alen (n := nI n) hexec hb (by rw [h4.1.2.1 _ c2]; exact c1) c3 (by rw [c5]; rfl) rfl rfl hd (kk H ls _ locs ⟨ρ, G, N, lv, h1', h2', ck_all.cons ⟨_, rfl, by rw [e]; exact h1, by rw [e]; exact h2, fun g c q => by cases q⟩ g2, h4, h5, h6, h7⟩)
theorem gcw_lenTy (hexec : p.tables.exec = Jvm.exec) (hb : c.code = cc) (hK : va_K D ck_cl (ck_tys AC) s) {τ ac n : Nat} {sg : List (Nat × ck_V)} {ty : FieldType} (hτ : tab[τ]? = some (.inl (ac, n, sg))) (hty : ck_tyK ac = some ty) (hn : n < 2147483648) (hd : decode cc pc = .ok (.arraylength, 1))
    (kk : gck_W p l e R s m args below meth c Q D AC S tab L nL ρ0 wr G0 N0 H0 (pc + 1) (A, .inl ((n : Int), (n : Int), none) :: st, T) cells slots) : gck_W p l e R s m args below meth c Q D AC S tab L nL ρ0 wr G0 N0 H0 pc (A, .inr (.inr (2, τ)) :: st, T) cells slots := by
  intro H ls vs locs h
  obtain ⟨ρ, G, N, lv, h1, h2, h3, h4, h5, h6, h7⟩ := h
  obtain ⟨_, vs', rfl, ⟨a, rfl, ha, hz⟩, g2⟩ := h3.uncons
  have ht := (h4.1.2.2 a (by rw [ha]; exact hz)).2
  rw [ha] at ht
  unfold ck_ty at ht
  rw [hτ] at ht
  obtain ⟨f, z1, z2⟩ := ht
  have e := nI_toInt (n := n) hn
  exact cw_len0 hexec hb z1 (ck_arrK hK (ck_tyK_ok hty) n f) (fun q => by cases q) (arrV_size _ _ _) hd (kk H ls _ locs ⟨ρ, G, N, lv, h1, h2, ck_all.cons ⟨_, rfl, by rw [e]; exact Int.le_refl _, by rw [e]; exact Int.le_refl _, fun g c q => by cases q⟩ g2, h4, h5, h6, h7⟩)
theorem gcw_lenSn (hexec : p.tables.exec = Jvm.exec) (hb : c.code = cc) {i j n : Nat} {es : List ck_V} (hs : ck_sta S L s j n) (hi : T[i]? = some ((5, j), es)) (hn : n < 2147483648) (hd : decode cc pc = .ok (.arraylength, 1))
    (kk : gck_W p l e R s m args below meth c Q D AC S tab L nL ρ0 wr G0 N0 H0 (pc + 1) (A, .inl ((n : Int), (n : Int), none) :: st, T) cells slots) : gck_W p l e R s m args below meth c Q D AC S tab L nL ρ0 wr G0 N0 H0 pc (A, .inr (.inr (1, i)) :: st, T) cells slots := by
  intro H ls vs locs h
  obtain ⟨ρ, G, N, lv, h1, h2, h3, h4, h5, h6, h7⟩ := h
  obtain ⟨_, vs', rfl, ⟨a, ha, rfl⟩, g2⟩ := h3.uncons
  obtain ⟨e0, -⟩ := h4.2.2.1 i _ a hi ha
  subst e0
  obtain ⟨cell, c1, c2, c3, c4, c5, c6⟩ := hs
  have e := nI_toInt (n := n) hn
  exact cw_len0 hexec hb (by rw [h4.1.2.1 _ c2]; exact c1) c3 c4 c5 hd (kk H ls _ locs ⟨ρ, G, N, lv, h1, h2, ck_all.cons ⟨_, rfl, by rw [e]; exact Int.le_refl _, by rw [e]; exact Int.le_refl _, fun g c q => by cases q⟩ g2, h4, h5, h6, h7⟩)
/-- a primitive into a typed array -/
theorem gcw_spTy (hexec : p.tables.exec = Jvm.exec) (hb : c.code = cc) (hK : va_K D ck_cl (ck_tys AC) s) {τ ac n : Nat} {sg : List (Nat × ck_V)} {q : ck_Q} {v k : ck_V} (hτ : tab[τ]? = some (.inl (ac, n, sg))) (h0 : 0 ≤ q.1) (hn : q.2.1 < (n : Int)) (hk : ck_rd sg q.1.toNat q.2.1.toNat = some k) (hle : ck_le v k = true) (hpl : ck_plain k = true) (hp : ck_prim ac v = true) (hwr : τ ∈ wr ∨ (τ + 1000 ∈ wr ∧ 128 ≤ q.1)) (hno : ∀ (j : Nat) (d : ck_C), T[j]? = some d → ck_foc d → d.1.2 ≠ τ) (hd : decode cc pc = .ok (ck_sti ac, 1))
    (kk : gck_W p l e R s m args below meth c Q D AC S tab L nL ρ0 wr G0 N0 H0 (pc + 1) (A, st, T) cells slots) : gck_W p l e R s m args below meth c Q D AC S tab L nL ρ0 wr G0 N0 H0 pc (A, v :: .inl q :: .inr (.inr (2, τ)) :: st, T) cells slots := by
  intro H ls vs locs h
  obtain ⟨ρ, G, N, lv, h1, h2, h3, h4, h5, h6, h7⟩ := h
  obtain ⟨w, vs', rfl, hw, g1⟩ := h3.uncons
  obtain ⟨_, vs'', rfl, ⟨i, rfl, gi⟩, g2⟩ := g1.uncons
  obtain ⟨_, vs3, rfl, ⟨a, rfl, ha, hz⟩, g3⟩ := g2.uncons
  obtain ⟨j, j1, j2, j3, j4, j5, j6⟩ := ck_idx gi h0 hn
  have hG : G a ≠ 0 := by rw [ha]; exact hz
  obtain ⟨l1, ht⟩ := h4.1.2.2 a hG
  rw [ha] at ht
  unfold ck_ty at ht
  rw [hτ] at ht
  obtain ⟨f, z1, z2⟩ := ht
  refine cw_sp0 hexec hb hK hp hw z1 j6 hd fun H' j' o1 o2 o3 => kk H' ls vs3 _ ⟨ρ, G, N, lv, h1, h2, g3, ?_, ?_, ?_, h7⟩
  · refine h4.putTy hG o2 o3 ?_ (fun i' d hi h3 hN => ?_)
    · rw [ha]
      unfold ck_ty
      rw [hτ]
      refine ⟨_, o1, fun j0 hj0 => ?_⟩
      rw [j2]
      unfold updV
      split
      · rename_i e0
        subst e0
        rw [ck_rd_ok hk j0 (by omega) (by omega)]
        exact (hw.le hle).plain hpl
      · exact z2 j0 hj0
    · exact hno i' d hi h3 (((h4.2.2.1 i' d a hi hN).foc h3).1.symm.trans ha)
  · rcases hwr with hwr | ⟨hwr, h128⟩
    · exact h5.put o2 o3 (Or.inl ⟨hG, by rw [ha]; exact hwr⟩) (fun i c hi ho => ⟨c, hi, ho⟩)
    · refine h5.putG o2 o3 hG (by rw [ha]; exact hwr) (fun j0 hj0 => ?_) (fun i c hi ho => ⟨c, hi, ho⟩)
      have hjq : 128 ≤ j := by have := gi.1; omega
      unfold gk_at
      rw [o1, z1]
      exact gk_arr_eq (fun k hk => by rw [j2]; unfold updV; rw [if_neg (by omega)]) hj0
  · intro q hq
    rcases List.mem_append.mp hq with z | z
    · exact h6 q z
    · rw [List.mem_singleton.mp z]; exact l1
/-- a primitive into an array of one's own, at a known place -/
theorem gcw_spOwn (hexec : p.tables.exec = Jvm.exec) (hb : c.code = cc) (hK : va_K D ck_cl (ck_tys AC) s) {i ac j : Nat} {es : List ck_V} {q : ck_Q} {v : ck_V} (hi : T[i]? = some ((1, ac), es)) (h0 : q.1 = (j : Int)) (hn : q.2.1 = (j : Int)) (hj : j < es.length) (hp : ck_prim ac v = true) (hd : decode cc pc = .ok (ck_sti ac, 1))
    (kk : gck_W p l e R s m args below meth c Q D AC S tab L nL ρ0 wr G0 N0 H0 (pc + 1) (A, st, T.set i ((1, ac), es.set j v)) cells slots) : gck_W p l e R s m args below meth c Q D AC S tab L nL ρ0 wr G0 N0 H0 pc (A, v :: .inl q :: .inr (.inr (1, i)) :: st, T) cells slots := by
  intro H ls vs locs h
  obtain ⟨ρ, G, N, lv, h1, h2, h3, h4, h5, h6, h7⟩ := h
  obtain ⟨w, vs', rfl, hw, g1⟩ := h3.uncons
  obtain ⟨_, vs'', rfl, ⟨x, rfl, gi⟩, g2⟩ := g1.uncons
  obtain ⟨_, vs3, rfl, ⟨a, ha, rfl⟩, g3⟩ := g2.uncons
  obtain ⟨j', j1, j2, j3, j4, j5, j6⟩ := ck_idx (n := es.length) gi (by omega) (by omega)
  have ej : j' = j := by omega
  subst ej
  obtain ⟨l1, l2, f, z1, z2⟩ := h4.2.2.1 i _ a hi ha
  refine cw_sp0 hexec hb hK hp hw z1 j6 hd fun H' j9 o1 o2 o3 => kk H' ls vs3 _ ⟨ρ, G, N, lv, h1, h2, g3, ?_, ?_, ?_, h7⟩
  · refine h4.putOwn hi ha rfl rfl o2 o3 ⟨l1, l2, _, by rw [List.length_set]; exact o1, fun j0 v0 hv0 => ?_⟩
    rw [j2]
    unfold updV
    by_cases e0 : j' = j0
    · subst e0
      simp only [List.getElem?_set_self hj] at hv0
      cases hv0
      rw [if_pos rfl]
      exact hw
    · simp only [List.getElem?_set_ne e0] at hv0
      rw [if_neg (Ne.symm e0)]
      exact z2 j0 v0 hv0
  · exact h5.put o2 o3 (Or.inr ⟨l2, i, _, hi, ha, rfl⟩) (ck_set_own ⟨_, hi, fun _ => rfl⟩)
  · intro q hq
    rcases List.mem_append.mp hq with z | z
    · exact h6 q z
    · rw [List.mem_singleton.mp z]; exact l1
/-- from a typed array by its name, at a known place -/
theorem gcw_ldFoc (hexec : p.tables.exec = Jvm.exec) (hb : c.code = cc) (hK : va_K D ck_cl (ck_tys AC) s) {i k j τ ac n : Nat} {sg : List (Nat × ck_V)} {es : List ck_V} {q : ck_Q} {v : ck_V} {ty : FieldType} (hi : T[i]? = some ((k + 7, τ), es)) (hτ : tab[τ]? = some (.inl (ac, n, sg))) (hty : ck_tyK ac = some ty) (h0 : q.1 = (j : Int)) (hn : q.2.1 = (j : Int)) (hk : k ≤ j) (hv : es[j - k]? = some v) (hd : decode cc pc = .ok (ck_ldi ac, 1))
    (kk : gck_W p l e R s m args below meth c Q D AC S tab L nL ρ0 wr G0 N0 H0 (pc + 1) (A, v :: st, T) cells slots) : gck_W p l e R s m args below meth c Q D AC S tab L nL ρ0 wr G0 N0 H0 pc (A, .inl q :: .inr (.inr (1, i)) :: st, T) cells slots := by
  intro H ls vs locs h
  obtain ⟨ρ, G, N, lv, h1, h2, h3, h4, h5, h6, h7⟩ := h
  obtain ⟨_, vs', rfl, ⟨x, rfl, gi⟩, g2⟩ := h3.uncons
  obtain ⟨_, vs'', rfl, ⟨a, ha, rfl⟩, g3⟩ := g2.uncons
  obtain ⟨t1, t2, ac', n', sg', f, z0, z1, z2, z3⟩ := h4.2.2.1 i _ a hi ha
  cases hτ.symm.trans z0
  dsimp only at z2 z3
  have hjl : j - k < es.length := (List.getElem?_eq_some_iff.mp hv).1
  obtain ⟨j', j1, j2, j3, j4, j5, j6⟩ := ck_idx (n := n) gi (by omega) (by omega)
  have ej : j' = j := by omega
  subst ej
  refine cw_ld0 hexec hb hK hty z1 j6 hd (kk H ls _ locs ⟨ρ, G, N, lv, h1, h2, ck_all.cons ?_ g3, h4, h5, h6, h7⟩)
  rw [j2]
  have := z3 (j' - k) v hv
  rw [show k + (j' - k) = j' by omega] at this
  exact this
/-- from a typed array that has a name, anywhere -/
theorem gcw_ldFocT (hexec : p.tables.exec = Jvm.exec) (hb : c.code = cc) (hK : va_K D ck_cl (ck_tys AC) s) {i kh τ ac n : Nat} {sg : List (Nat × ck_V)} {es : List ck_V} {q : ck_Q} {k : ck_V} {ty : FieldType} (hi : T[i]? = some ((kh + 7, τ), es)) (hτ : tab[τ]? = some (.inl (ac, n, sg))) (hty : ck_tyK ac = some ty) (h0 : 0 ≤ q.1) (hn : q.2.1 < (n : Int)) (hk : ck_rd sg q.1.toNat q.2.1.toNat = some k) (hp : ck_plain k = true) (hd : decode cc pc = .ok (ck_ldi ac, 1))
    (kk : gck_W p l e R s m args below meth c Q D AC S tab L nL ρ0 wr G0 N0 H0 (pc + 1) (A, k :: st, T) cells slots) : gck_W p l e R s m args below meth c Q D AC S tab L nL ρ0 wr G0 N0 H0 pc (A, .inl q :: .inr (.inr (1, i)) :: st, T) cells slots := by
  intro H ls vs locs h
  obtain ⟨ρ, G, N, lv, h1, h2, h3, h4, h5, h6, h7⟩ := h
  obtain ⟨w, vs', rfl, hw, g2⟩ := h3.uncons
  obtain ⟨_, vs'', rfl, ⟨a, ha, rfl⟩, g3⟩ := g2.uncons
  have t := (h4.2.2.1 i _ a hi ha).foc (Or.inr (Nat.le_add_left 7 kh))
  exact gcw_ldTy (c := c) hexec hb hK hτ hty h0 hn hk hp hd kk H ls (w :: .ref a :: vs'') locs ⟨ρ, G, N, lv, h1, h2, ck_all.cons hw (ck_all.cons ⟨a, rfl, t.1, t.2.1⟩ g3), h4, h5, h6, h7⟩
/-- a primitive into a typed array by its name, at a known place -/
theorem gcw_spFoc (hexec : p.tables.exec = Jvm.exec) (hb : c.code = cc) (hK : va_K D ck_cl (ck_tys AC) s) {i k j τ ac n : Nat} {sg : List (Nat × ck_V)} {es : List ck_V} {q : ck_Q} {v kd : ck_V} (hi : T[i]? = some ((k + 7, τ), es)) (hτ : tab[τ]? = some (.inl (ac, n, sg))) (h0 : q.1 = (j : Int)) (hn : q.2.1 = (j : Int)) (hjn : j < n) (hk : k ≤ j) (hkd : ck_rd sg j j = some kd) (hle : ck_le v kd = true) (hpl : ck_plain kd = true) (hp : ck_prim ac v = true) (hwr : τ ∈ wr) (hno : ∀ (j : Nat) (d : ck_C), j ≠ i → T[j]? = some d → ck_foc d → d.1.2 ≠ τ) (hd : decode cc pc = .ok (ck_sti ac, 1))
    (kk : gck_W p l e R s m args below meth c Q D AC S tab L nL ρ0 wr G0 N0 H0 (pc + 1) (A, st, T.set i ((k + 7, τ), es.set (j - k) v)) cells slots) : gck_W p l e R s m args below meth c Q D AC S tab L nL ρ0 wr G0 N0 H0 pc (A, v :: .inl q :: .inr (.inr (1, i)) :: st, T) cells slots := by
  intro H ls vs locs h
  obtain ⟨ρ, G, N, lv, h1, h2, h3, h4, h5, h6, h7⟩ := h
  obtain ⟨w, vs', rfl, hw, g1⟩ := h3.uncons
  obtain ⟨_, vs'', rfl, ⟨x, rfl, gi⟩, g2⟩ := g1.uncons
  obtain ⟨_, vs3, rfl, ⟨a, ha, rfl⟩, g3⟩ := g2.uncons
  obtain ⟨j', j1, j2, j3, j4, j5, j6⟩ := ck_idx (n := n) gi (by omega) (by omega)
  have ej : j' = j := by omega
  subst ej
  obtain ⟨t1, t2, ac', n', sg', f, z0, z1, z2, z3⟩ := h4.2.2.1 i _ a hi ha
  cases hτ.symm.trans z0
  dsimp only at z2 z3
  have hG : G a ≠ 0 := by rw [t1]; exact t2
  obtain ⟨l1, ht⟩ := h4.1.2.2 a hG
  rw [t1] at ht
  unfold ck_ty at ht
  rw [hτ] at ht
  obtain ⟨f', y1, y2⟩ := ht
  have hff : ∀ j0, j0 < n → f' j0 = f j0 := fun j0 hj0 => by
    have e : arrV (AC ac) n f' = arrV (AC ac) n f := Option.some.inj (y1.symm.trans z1)
    have r1 : (arrV (AC ac) n f').slots[j0]? = some (f' j0) := arrV_read _ _ hj0
    have r2 : (arrV (AC ac) n f).slots[j0]? = some (f j0) := arrV_read _ _ hj0
    rw [e, r2] at r1
    exact (Option.some.inj r1).symm
  refine cw_sp0 hexec hb hK hp hw z1 j6 hd fun H' j9 o1 o2 o3 => kk H' ls vs3 _ ⟨ρ, G, N, lv, h1, h2, g3, ?_, ?_, ?_, h7⟩
  · refine h4.putFoc (Or.inr (Nat.le_add_left 7 k)) rfl hi ha o2 o3 ?_ ⟨t1, t2, ac, n, sg, _, hτ, o1, by simpa using z2, fun j0 v0 hv0 => ?_⟩ hno
    · unfold ck_ty
      rw [hτ]
      refine ⟨_, o1, fun j0 hj0 => ?_⟩
      rw [j2]
      unfold updV
      split
      · rename_i e0
        subst e0
        rw [ck_rd_ok hkd j0 (Nat.le_refl _) (Nat.le_refl _)]
        exact (hw.le hle).plain hpl
      · rw [← hff j0 hj0]
        exact y2 j0 hj0
    · rw [j2]
      unfold updV
      dsimp only at hv0
      by_cases e0 : j' - k = j0
      · rw [if_pos (by omega)]
        subst e0
        have hl : j' - k < es.length := by have := (List.getElem?_eq_some_iff.mp hv0).1; simpa using this
        rw [List.getElem?_set_self hl] at hv0
        cases hv0
        exact hw
      · rw [List.getElem?_set_ne e0] at hv0
        rw [if_neg (by omega)]
        exact z3 j0 v0 hv0
  · exact h5.put o2 o3 (Or.inl ⟨hG, by rw [t1]; exact hwr⟩) (ck_set_own ⟨_, hi, fun h => by rw [ck_foc_own (Or.inr (Nat.le_add_left 7 k))] at h; cases h⟩)
  · intro q hq
    rcases List.mem_append.mp hq with z | z
    · exact h6 q z
    · rw [List.mem_singleton.mp z]; exact l1
/-- a reference into a typed array -/
theorem gcw_srTy (hexec : p.tables.exec = Jvm.exec) (hb : c.code = cc) (hK : va_K D ck_cl (ck_tys AC) s) {τ ac n ci : Nat} {sg : List (Nat × ck_V)} {q : ck_Q} {v k : ck_V} (hτ : tab[τ]? = some (.inl (ac, n, sg))) (h0 : 0 ≤ q.1) (hn : q.2.1 < (n : Int)) (hk : ck_rd sg q.1.toNat q.2.1.toNat = some k) (hle : ck_le v k = true) (hpl : ck_plain k = true) (hci : ck_comp ac = some ci)
    (hv : (∃ τ ks, v = .inr (.inr (2, τ)) ∧ tab[τ]? = some (.inr (ci, ks))) ∨ (∃ i fs, v = .inr (.inr (1, i)) ∧ T[i]? = some ((0, ci), fs)) ∨ (∃ i τ ks fs, v = .inr (.inr (1, i)) ∧ T[i]? = some ((3, τ), fs) ∧ tab[τ]? = some (.inr (ci, ks)))) (hwr : τ ∈ wr) (hno : ∀ (j : Nat) (d : ck_C), T[j]? = some d → ck_foc d → d.1.2 ≠ τ) (hd : decode cc pc = .ok (.aastore, 1))
    (kk : gck_W p l e R s m args below meth c Q D AC S tab L nL ρ0 wr G0 N0 H0 (pc + 1) (A, st, T) cells slots) : gck_W p l e R s m args below meth c Q D AC S tab L nL ρ0 wr G0 N0 H0 pc (A, v :: .inl q :: .inr (.inr (2, τ)) :: st, T) cells slots := by
  intro H ls vs locs h
  obtain ⟨ρ, G, N, lv, h1, h2, h3, h4, h5, h6, h7⟩ := h
  obtain ⟨w, vs', rfl, hw, g1⟩ := h3.uncons
  obtain ⟨_, vs'', rfl, ⟨i, rfl, gi⟩, g2⟩ := g1.uncons
  obtain ⟨_, vs3, rfl, ⟨a, rfl, ha, hz⟩, g3⟩ := g2.uncons
  obtain ⟨j, j1, j2, j3, j4, j5, j6⟩ := ck_idx gi h0 hn
  obtain ⟨b, ws, rfl, hob⟩ := ck_obj h4 hw hv
  have hG : G a ≠ 0 := by rw [ha]; exact hz
  obtain ⟨l1, ht⟩ := h4.1.2.2 a hG
  rw [ha] at ht
  unfold ck_ty at ht
  rw [hτ] at ht
  obtain ⟨f, z1, z2⟩ := ht
  refine cw_sr0 hexec hb hK hci hob z1 j6 hd fun H' j' o1 o2 o3 => kk H' ls vs3 _ ⟨ρ, G, N, lv, h1, h2, g3, ?_, ?_, ?_, h7⟩
  · refine h4.putTy hG o2 o3 ?_ (fun i' d hi h3 hN => ?_)
    · rw [ha]
      unfold ck_ty
      rw [hτ]
      refine ⟨_, o1, fun j0 hj0 => ?_⟩
      rw [j2]
      unfold updV
      split
      · rename_i e0
        subst e0
        rw [ck_rd_ok hk j0 (by omega) (by omega)]
        exact (hw.le hle).plain hpl
      · exact z2 j0 hj0
    · exact hno i' d hi h3 (((h4.2.2.1 i' d a hi hN).foc h3).1.symm.trans ha)
  · exact h5.put o2 o3 (Or.inl ⟨hG, by rw [ha]; exact hwr⟩) (fun i c hi ho => ⟨c, hi, ho⟩)
  · intro q hq
    rcases List.mem_append.mp hq with z | z
    · exact h6 q z
    · rw [List.mem_singleton.mp z]; exact l1
/-- a reference into an array of one's own -/
theorem gcw_srOwn (hexec : p.tables.exec = Jvm.exec) (hb : c.code = cc) (hK : va_K D ck_cl (ck_tys AC) s) {i ac j ci : Nat} {es : List ck_V} {q : ck_Q} {v : ck_V} (hi : T[i]? = some ((1, ac), es)) (h0 : q.1 = (j : Int)) (hn : q.2.1 = (j : Int)) (hj : j < es.length) (hci : ck_comp ac = some ci)
    (hv : (∃ τ ks, v = .inr (.inr (2, τ)) ∧ tab[τ]? = some (.inr (ci, ks))) ∨ (∃ i fs, v = .inr (.inr (1, i)) ∧ T[i]? = some ((0, ci), fs)) ∨ (∃ i τ ks fs, v = .inr (.inr (1, i)) ∧ T[i]? = some ((3, τ), fs) ∧ tab[τ]? = some (.inr (ci, ks)))) (hd : decode cc pc = .ok (.aastore, 1))
    (kk : gck_W p l e R s m args below meth c Q D AC S tab L nL ρ0 wr G0 N0 H0 (pc + 1) (A, st, T.set i ((1, ac), es.set j v)) cells slots) : gck_W p l e R s m args below meth c Q D AC S tab L nL ρ0 wr G0 N0 H0 pc (A, v :: .inl q :: .inr (.inr (1, i)) :: st, T) cells slots := by
  intro H ls vs locs h
  obtain ⟨ρ, G, N, lv, h1, h2, h3, h4, h5, h6, h7⟩ := h
  obtain ⟨w, vs', rfl, hw, g1⟩ := h3.uncons
  obtain ⟨_, vs'', rfl, ⟨x, rfl, gi⟩, g2⟩ := g1.uncons
  obtain ⟨_, vs3, rfl, ⟨a, ha, rfl⟩, g3⟩ := g2.uncons
  obtain ⟨j', j1, j2, j3, j4, j5, j6⟩ := ck_idx (n := es.length) gi (by omega) (by omega)
  have ej : j' = j := by omega
  subst ej
  obtain ⟨b, ws, rfl, hob⟩ := ck_obj h4 hw hv
  obtain ⟨l1, l2, f, z1, z2⟩ := h4.2.2.1 i _ a hi ha
  refine cw_sr0 hexec hb hK hci hob z1 j6 hd fun H' j9 o1 o2 o3 => kk H' ls vs3 _ ⟨ρ, G, N, lv, h1, h2, g3, ?_, ?_, ?_, h7⟩
  · refine h4.putOwn hi ha rfl rfl o2 o3 ⟨l1, l2, _, by rw [List.length_set]; exact o1, fun j0 v0 hv0 => ?_⟩
    rw [j2]
    unfold updV
    by_cases e0 : j' = j0
    · subst e0
      simp only [List.getElem?_set_self hj] at hv0
      cases hv0
      rw [if_pos rfl]
      exact hw
    · simp only [List.getElem?_set_ne e0] at hv0
      rw [if_neg (Ne.symm e0)]
      exact z2 j0 v0 hv0
  · exact h5.put o2 o3 (Or.inr ⟨l2, i, _, hi, ha, rfl⟩) (ck_set_own ⟨_, hi, fun _ => rfl⟩)
  · intro q hq
    rcases List.mem_append.mp hq with z | z
    · exact h6 q z
    · rw [List.mem_singleton.mp z]; exact l1
end CKR
