/-! the second checker: 11 -/
section CKN
variable {p : Program} {l : Launch} {e : Env} {R : Room} {s : State} {m : MethodId} {args : Array Value} {below : List Frame} {meth : Method} {c : Code} {cells slots : Nat} {Q : State → Prop}
variable {cc : ByteArray} {pc pc2 nL : Nat} {D : va_G} {AC : Nat → ClassId} {S : Nat → Nat} {tab : List ck_D} {L : Heap} {ρ0 : Nat → Int} {wr : List Nat} {G0 : Nat → Nat} {N0 : List Nat} {H0 : Heap}
variable {A : List (Nat × ck_V)} {st : List ck_V} {T : List ck_C} {own : String}
/-- a new array of primitives, typed -/
theorem gcw_newaTy (hexec : p.tables.exec = Jvm.exec) (hb : c.code = cc) (hK : va_K D ck_cl (ck_tys AC) s) {τ ac n : Nat} {sg : List (Nat × ck_V)} {q : ck_Q} {t : ArrayType} (harr : (Cond.arrayClass (newarray.typeOf t)).before args s = true) (hτ : tab[τ]? = some (.inl (ac, n, sg))) (hz : τ ≠ 0) (hrg : gk_isr τ = true → τ + 2000 ∈ wr ∧ cells = 0) (hrz : gk_isz τ = true → τ ≠ 13 ∧ τ ≠ 49 ∧ ac = 0) (hat : ck_at ac = some t) (hq1 : q.1 = (n : Int)) (hq2 : q.2.1 = (n : Int)) (hn : n ≤ 60000) (hdk : ck_dk ac sg = true) (hc : cells + 1 ≤ R.cells) (hs : slots + n ≤ R.slots) (hd : decode cc pc = .ok (.newarray t, 2))
    (kk : gck_W p l e R s m args below meth c Q D AC S tab L nL ρ0 wr G0 N0 s.heap (pc + 2) (A, .inr (.inr (2, τ)) :: st, T) (cells + 1) (slots + n)) : gck_W p l e R s m args below meth c Q D AC S tab L nL ρ0 wr G0 N0 s.heap pc (A, .inl q :: st, T) cells slots := by
  intro H ls vs locs h
  obtain ⟨ρ, G, N, lv, h1, h2, h3, h4, h5, h6, h7⟩ := h
  refine gk_size fun hsz => ?_
  obtain ⟨_, vs', rfl, ⟨x, rfl, gx⟩, g2⟩ := h3.uncons
  obtain ⟨x1, x2, -⟩ := gx
  have hx : x.toNatClampNeg = n := by show x.toInt.toNat = n; omega
  have hx0 : ¬ x < 0 := fun h => by have := Int32.lt_iff_toInt_lt.mp h; have e0 : (0 : Int32).toInt = 0 := rfl; omega
  obtain ⟨hty, hdef⟩ := ck_at_ok hat
  have hzz : ∀ q, G q ≠ 0 → ck_up G H.size τ q = G q := fun q hne => by
    unfold ck_up
    rw [if_neg (fun e => hne (by rw [e]; exact h4.zero (Nat.le_refl _)))]
  have hcb : componentBytes (newarray.typeOf t) ≤ 8 := by cases t <;> decide
  refine W.newa hexec hb harr rfl hd rfl hx0 (by rw [hx]; have := Nat.mul_le_mul hn hcb; omega) hc (by rw [hx]; exact hs) fun cA kA comp f1 f2 f3 => ?_
  have hAC : cA = AC ac := by
    match ac, hat with
    | 0, hat => cases hat; exact Option.some.inj (f1.symm.trans (hK.2 0 _ rfl).2)
    | 1, hat => cases hat; exact Option.some.inj (f1.symm.trans (hK.2 1 _ rfl).2)
    | 2, hat => cases hat; exact Option.some.inj (f1.symm.trans (hK.2 2 _ rfl).2)
    | n + 3, hat => cases hat
  subst hAC
  rw [hx]
  obtain ⟨p1, p2, p3⟩ := ck_push_other H { cls := AC ac, slots := Array.replicate n (defaultValue (newarray.typeOf t)), vm := .none }
  generalize H.push { cls := AC ac, slots := Array.replicate n (defaultValue (newarray.typeOf t)), vm := .none } = H' at p1 p2 p3
  refine kk H' ls _ locs ⟨ρ, ck_up G H.size τ, N, lv, h1, ck_allL_grow hzz h2, ck_all.cons ⟨H.size, rfl, by unfold ck_up; rw [if_pos rfl], hz⟩ (ck_all_grow hzz g2), h4.newTy p2 p3 ?_, h5.new (by omega) p3 (fun q hl => by unfold ck_up; rw [if_neg (by omega)]) ⟨[], by simp⟩ (fun i c a hc ha ho => Or.inl ⟨c, hc, ha, ho⟩) (fun q hq hr => ?_), h6, h7⟩
  rotate_left
  · unfold ck_up at hr ⊢
    split at hr
    · rename_i e0
      rw [if_pos e0]
      subst e0
      have h9 := h5.1.1
      refine ⟨fun hi => ⟨(hrg hi).1, by have := (hrg hi).2; omega⟩, fun e => ?_, fun _ => ⟨fun e => ?_, fun e j v hj hv => ?_⟩⟩
      · have hc9 : gk_isz τ = true := by rw [e]; rfl
        exact absurd e (hrz hc9).2.1
      · have hc9 : gk_isz τ = true := by rw [e]; rfl
        exact absurd e (hrz hc9).1
      · have hc9 : gk_isz τ = true := by rcases e with e | e <;> (rw [e]; rfl)
        have ha9 := (hrz hc9).2.2
        subst ha9
        cases hat
        unfold gk_at at hv
        rw [p1] at hv
        dsimp only at hv
        rw [Array.getElem?_replicate] at hv
        split at hv
        · exact (Option.some.inj hv).symm
        · cases hv
    · exact absurd (h4.zero hq) hr
  unfold ck_ty
  rw [hτ]
  refine ⟨fun _ => defaultValue (newarray.typeOf t), by rw [← arrV_new]; exact p1, fun j _ => ck_kat_all (P := fun k => ck_R S (fun _ => 0) (ck_up G H.size τ) [] k (defaultValue (newarray.typeOf t))) (fun q hq => ?_) trivial j⟩
  have := List.all_eq_true.mp hdk q hq
  simp only [Bool.and_eq_true] at this
  exact (hdef _ _ _ _).le this.1
/-- a new array of primitives of one's own -/
theorem gcw_newaOwn (hexec : p.tables.exec = Jvm.exec) (hb : c.code = cc) (hK : va_K D ck_cl (ck_tys AC) s) {ac n : Nat} {q : ck_Q} {t : ArrayType} (harr : (Cond.arrayClass (newarray.typeOf t)).before args s = true) (hat : ck_at ac = some t) (hq1 : q.1 = (n : Int)) (hq2 : q.2.1 = (n : Int)) (hn : n ≤ 60000) (hc : cells + 1 ≤ R.cells) (hs : slots + n ≤ R.slots) (hd : decode cc pc = .ok (.newarray t, 2))
    (kk : gck_W p l e R s m args below meth c Q D AC S tab L nL ρ0 wr G0 N0 H0 (pc + 2) (A, .inr (.inr (1, T.length)) :: st, T ++ [((1, ac), List.replicate n (ck_d0 ac))]) (cells + 1) (slots + n)) : gck_W p l e R s m args below meth c Q D AC S tab L nL ρ0 wr G0 N0 H0 pc (A, .inl q :: st, T) cells slots := by
  intro H ls vs locs h
  obtain ⟨ρ, G, N, lv, h1, h2, h3, h4, h5, h6, h7⟩ := h
  obtain ⟨_, vs', rfl, ⟨x, rfl, gx⟩, g2⟩ := h3.uncons
  obtain ⟨x1, x2, -⟩ := gx
  have hx : x.toNatClampNeg = n := by show x.toInt.toNat = n; omega
  have hx0 : ¬ x < 0 := fun h => by have := Int32.lt_iff_toInt_lt.mp h; have e0 : (0 : Int32).toInt = 0 := rfl; omega
  obtain ⟨hty, hdef⟩ := ck_at_ok hat
  have hcb : componentBytes (newarray.typeOf t) ≤ 8 := by cases t <;> decide
  refine W.newa hexec hb harr rfl hd rfl hx0 (by rw [hx]; have := Nat.mul_le_mul hn hcb; omega) hc (by rw [hx]; exact hs) fun cA kA comp f1 f2 f3 => ?_
  have hAC : cA = AC ac := by
    match ac, hat with
    | 0, hat => cases hat; exact Option.some.inj (f1.symm.trans (hK.2 0 _ rfl).2)
    | 1, hat => cases hat; exact Option.some.inj (f1.symm.trans (hK.2 1 _ rfl).2)
    | 2, hat => cases hat; exact Option.some.inj (f1.symm.trans (hK.2 2 _ rfl).2)
    | n + 3, hat => cases hat
  subst hAC
  rw [hx]
  obtain ⟨p1, p2, p3⟩ := ck_push_other H { cls := AC ac, slots := Array.replicate n (defaultValue (newarray.typeOf t)), vm := .none }
  generalize H.push { cls := AC ac, slots := Array.replicate n (defaultValue (newarray.typeOf t)), vm := .none } = H' at p1 p2 p3
  have hlen : N.length = T.length := h4.2.1
  refine kk H' ls _ locs ⟨ρ, G, N ++ [H.size], lv, h1, ck_allL_ext h2, ck_all.cons ⟨H.size, by rw [← hlen]; simp, rfl⟩ (ck_all_ext g2), h4.newNm (by omega) p3 ⟨h4.1.1, h4.zero (Nat.le_refl _), fun _ => defaultValue (newarray.typeOf t), by rw [← arrV_new, List.length_replicate]; exact p1, fun j v hj => ?_⟩, h5.new (by omega) p3 (fun q hl => rfl) ⟨_, rfl⟩ (fun i c a hc ha ho => ?_) (fun q hq hr => absurd (h4.zero hq) hr), h6, h7⟩
  · have := List.eq_of_mem_replicate (List.mem_of_getElem? hj)
    subst this
    exact hdef _ _ _ _
  · by_cases hi : i < T.length
    · rw [List.getElem?_append_left hi] at hc
      rw [List.getElem?_append_left (by omega)] at ha
      exact Or.inl ⟨c, hc, ha, ho⟩
    · rw [List.getElem?_append_right (by omega)] at ha
      have := List.mem_of_getElem? ha
      simp at this
      exact Or.inr (by omega)
/-- a new array of references of one's own -/
theorem gcw_anew (hexec : p.tables.exec = Jvm.exec) (hb : c.code = cc) (hown : s.vm.findClass own = some m.cls) (hK : va_K D ck_cl (ck_tys AC) s) {ac n idx : Nat} {q : ck_Q} {C : String} (hty : ck_tyK ac = some (.object C)) (hcl : (Cond.classLink own idx C).before args s = true) (hov : (Cond.arrayOver (.object C)).before args s = true) (hq1 : q.1 = (n : Int)) (hq2 : q.2.1 = (n : Int)) (hn : n ≤ 60000) (hc : cells + 1 ≤ R.cells) (hs : slots + n ≤ R.slots) (hd : decode cc pc = .ok (.anewarray idx, 3))
    (kk : gck_W p l e R s m args below meth c Q D AC S tab L nL ρ0 wr G0 N0 H0 (pc + 3) (A, .inr (.inr (1, T.length)) :: st, T ++ [((1, ac), List.replicate n (.inr (.inr (0, 0))))]) (cells + 1) (slots + n)) : gck_W p l e R s m args below meth c Q D AC S tab L nL ρ0 wr G0 N0 H0 pc (A, .inl q :: st, T) cells slots := by
  intro H ls vs locs h
  obtain ⟨ρ, G, N, lv, h1, h2, h3, h4, h5, h6, h7⟩ := h
  obtain ⟨_, vs', rfl, ⟨x, rfl, gx⟩, g2⟩ := h3.uncons
  obtain ⟨x1, x2, -⟩ := gx
  have hx : x.toNatClampNeg = n := by show x.toInt.toNat = n; omega
  have hx0 : ¬ x < 0 := fun h => by have := Int32.lt_iff_toInt_lt.mp h; have e0 : (0 : Int32).toInt = 0 := rfl; omega
  refine W.anew hexec hb hown hcl hov rfl hd rfl hx0 (by rw [hx]; omega) hc (by rw [hx]; exact hs) fun cA kA comp f1 f2 f3 f4 => ?_
  have hAC : cA = AC ac := by
    match ac, hty with
    | 3, hty => cases hty; obtain ⟨_, _, _, _, _, f⟩ := (hK.2 3 _ rfl).2; exact Option.some.inj (f1.symm.trans f)
    | 4, hty => cases hty; obtain ⟨_, _, _, _, _, f⟩ := (hK.2 4 _ rfl).2; exact Option.some.inj (f1.symm.trans f)
    | 5, hty => cases hty; obtain ⟨_, _, _, _, _, f⟩ := (hK.2 5 _ rfl).2; exact Option.some.inj (f1.symm.trans f)
    | 6, hty => cases hty; obtain ⟨_, _, _, _, _, f⟩ := (hK.2 6 _ rfl).2; exact Option.some.inj (f1.symm.trans f)
    | 0, hty => cases hty
    | 1, hty => cases hty
    | 2, hty => cases hty
    | 7, hty => cases hty
    | n + 8, hty => cases hty
  subst hAC
  rw [hx]
  obtain ⟨p1, p2, p3⟩ := ck_push_other H { cls := AC ac, slots := Array.replicate n .null, vm := .none }
  generalize H.push { cls := AC ac, slots := Array.replicate n .null, vm := .none } = H' at p1 p2 p3
  have hlen : N.length = T.length := h4.2.1
  refine kk H' ls _ locs ⟨ρ, G, N ++ [H.size], lv, h1, ck_allL_ext h2, ck_all.cons ⟨H.size, by rw [← hlen]; simp, rfl⟩ (ck_all_ext g2), h4.newNm (by omega) p3 ⟨h4.1.1, h4.zero (Nat.le_refl _), fun _ => .null, by rw [← arrV_new, List.length_replicate]; exact p1, fun j v hj => ?_⟩, h5.new (by omega) p3 (fun q hl => rfl) ⟨_, rfl⟩ (fun i c a hc ha ho => ?_) (fun q hq hr => absurd (h4.zero hq) hr), h6, h7⟩
  · have := List.eq_of_mem_replicate (List.mem_of_getElem? hj)
    subst this
    exact rfl
  · by_cases hi : i < T.length
    · rw [List.getElem?_append_left hi] at hc
      rw [List.getElem?_append_left (by omega)] at ha
      exact Or.inl ⟨c, hc, ha, ho⟩
    · rw [List.getElem?_append_right (by omega)] at ha
      have := List.mem_of_getElem? ha
      simp at this
      exact Or.inr (by omega)
/-- a new object of one's own -/
theorem gcw_new (hexec : p.tables.exec = Jvm.exec) (hb : c.code = cc) (hown : s.vm.findClass own = some m.cls) (hK : va_K D ck_cl (ck_tys AC) s) (hts : ∀ w ∈ ck_tb, w.before args s = true) {ci n idx : Nat} {C : String} {TT : u_T} (hcl : ck_cl[ci]? = some (C, TT, n)) (hlk : Cond.classLink own idx C ∈ ck_tb) (hc : cells + 1 ≤ R.cells) (hs : slots + n ≤ R.slots) (hd : decode cc pc = .ok (.new idx, 3))
    (kk : gck_W p l e R s m args below meth c Q D AC S tab L nL ρ0 wr G0 N0 H0 (pc + 3) (A, .inr (.inr (1, T.length)) :: st, T ++ [((0, ci), (List.range n).map (fun k => ck_dt (ck_yy ci k)))]) (cells + 1) (slots + n)) : gck_W p l e R s m args below meth c Q D AC S tab L nL ρ0 wr G0 N0 H0 pc (A, st, T) cells slots := by
  intro H ls vs locs h
  obtain ⟨ρ, G, N, lv, h1, h2, h3, h4, h5, h6, h7⟩ := h
  obtain ⟨w1, w2, w3, w4, w5, w6⟩ := ck_cls hcl
  have hKn := hK.1 ci _ hcl
  refine W.newcK hexec hb hown (hts _ hlk) (hts _ w5) (hts _ w6) rfl hd hc hs hKn.2.1 rfl fun H' kC k1 k2 k3 k4 => ?_
  have hlen : N.length = T.length := h4.2.1
  have hob := u_born (ck_yy ci) hts w1 hKn k1 k2 w2
  refine kk H' ls _ locs ⟨ρ, G, N ++ [H.size], lv, h1, ck_allL_ext h2, ck_all.cons ⟨H.size, by rw [← hlen]; simp, rfl⟩ (ck_all_ext h3), h4.newNm (by omega) k4 ⟨h4.1.1, h4.zero (Nat.le_refl _), (List.range n).map (fun k => defaultValue (ck_yy ci k)), ⟨C, TT, by simpa using hcl, ?_⟩, ?_⟩, h5.new (by omega) k4 (fun q hl => rfl) ⟨_, rfl⟩ (fun i c a hc ha ho => ?_) (fun q hq hr => absurd (h4.zero hq) hr), h6, h7⟩
  · simp only [List.length_map, List.length_range]
    exact hob.to (fun k hk => by simp [vp_V, List.getD_eq_getElem?_getD, hk])
  · refine ⟨by simp, fun i a b ha hb => ?_⟩
    simp only [List.getElem?_map] at ha hb
    obtain ⟨z, hz, rfl⟩ := Option.map_eq_some_iff.mp ha
    rw [hz] at hb
    cases hb
    exact ck_dt_ok _ _ _ _ _
  · by_cases hi : i < T.length
    · rw [List.getElem?_append_left hi] at hc
      rw [List.getElem?_append_left (by omega)] at ha
      exact Or.inl ⟨c, hc, ha, ho⟩
    · rw [List.getElem?_append_right (by omega)] at ha
      have := List.mem_of_getElem? ha
      simp at this
      exact Or.inr (by omega)
/-- copying into a typed array, out of a typed or a static one -/
theorem gcw_copy (hexec : p.tables.exec = Jvm.exec) (hb : c.code = cc) (hown : s.vm.findClass own = some m.cls) (hK : va_K D ck_cl (ck_tys AC) s) {idx : Nat} (hlink : (Cond.methodLink own idx arraycopyName).before args s = true) (hnat : (Cond.native arraycopyName).before args s = true) (hstat : (Cond.static arraycopyName).before args s = true) (hini : (Cond.initialized "java/lang/System").before args s = true)
    (hml : c.maxLocals = nL) {v : ck_V} {τ ac n0 n1 sp dp n : Nat} {sg sg0 : List (Nat × ck_V)} {ty : FieldType} (hty : ck_tyK ac = some ty) (hpr : ac = 0 ∨ ac = 1) (hτ : tab[τ]? = some (.inl (ac, n1, sg))) (hcp : ∀ j, j < n → ck_plain (ck_kat sg0 (sp + j)) = true ∧ ck_prim ac (ck_kat sg0 (sp + j)) = true ∧ ck_le (ck_kat sg0 (sp + j)) (ck_kat sg (dp + j)) = true) (hwr : τ ∈ wr) (hno : ∀ (j : Nat) (d : ck_C), T[j]? = some d → ck_foc d → d.1.2 ≠ τ)
    (hv : (∃ σ, v = .inr (.inr (2, σ)) ∧ tab[σ]? = some (.inl (ac, n0, sg0))) ∨ (∃ j, v = .inr (.inr (3, j)) ∧ ac = 0 ∧ ck_sta S L s j n0 ∧ sg0 = [(n0, ck_full)]))
    (b1 : sp + n ≤ n0) (b2 : dp + n ≤ n1) {qs qd qn : ck_Q} (e1 : qs.1 = (sp : Int) ∧ qs.2.1 = (sp : Int)) (e2 : qd.1 = (dp : Int) ∧ qd.2.1 = (dp : Int)) (e3 : qn.1 = (n : Int) ∧ qn.2.1 = (n : Int))
    (hst : st.all ck_kn = true) (hframes : 1 ≤ R.frames) (hlocals : ck_words st + (nativeFrameWords "java/lang/System" "arraycopy" 5 + 11) ≤ R.locals) (hd : decode cc pc = .ok (.invokestatic idx, 3))
    (kk : gck_W p l e R s m args below meth c Q D AC S tab L nL ρ0 wr G0 N0 H0 (pc + 3) (A, st, T) cells slots) : gck_W p l e R s m args below meth c Q D AC S tab L nL ρ0 wr G0 N0 H0 pc (A, .inl qn :: .inl qd :: .inr (.inr (2, τ)) :: .inl qs :: v :: st, T) cells slots := by
  intro H ls vs locs h
  obtain ⟨ρ, G, N, lv, h1, h2, h3, h4, h5, h6, h7⟩ := h
  obtain ⟨_, _, rfl, ⟨xn, rfl, gn⟩, g1⟩ := h3.uncons
  obtain ⟨_, _, rfl, ⟨xd, rfl, gd⟩, g2⟩ := g1.uncons
  obtain ⟨_, _, rfl, ⟨a, rfl, ha, hz⟩, g3⟩ := g2.uncons
  obtain ⟨_, _, rfl, ⟨xs, rfl, gs⟩, g4⟩ := g3.uncons
  obtain ⟨w, vs', rfl, hw, g5⟩ := g4.uncons
  have hG : G a ≠ 0 := by rw [ha]; exact hz
  obtain ⟨l1, ht⟩ := h4.1.2.2 a hG
  rw [ha] at ht
  unfold ck_ty at ht
  rw [hτ] at ht
  obtain ⟨g, z1, z2⟩ := ht
  have key : ∃ (a0 : Nat) (cs : Cell), w = .ref a0 ∧ H[a0]? = some cs ∧ s.isArrayOf cs ty ∧ cs.vm ≠ .unknown ∧ cs.slots.size = n0 ∧ ∀ j, sp ≤ j → j < sp + n → ck_R S (fun _ => 0) G [] (ck_kat sg0 j) (cs.slots.getD j .null) := by
    rcases hv with ⟨σ, rfl, hσ⟩ | ⟨j, rfl, rfl, hs, rfl⟩
    · obtain ⟨a0, rfl, hb0, hz0⟩ := hw
      have ht := (h4.1.2.2 a0 (by rw [hb0]; exact hz0)).2
      rw [hb0] at ht
      unfold ck_ty at ht
      rw [hσ] at ht
      obtain ⟨f, y1, y2⟩ := ht
      refine ⟨a0, _, rfl, y1, ck_arrK hK (ck_tyK_ok hty) n0 f, (fun q => by cases q), arrV_size _ _ _, fun j j1 j2 => ?_⟩
      rw [Array.getD_eq_getD_getElem?, arrV_read _ _ (by omega)]
      exact y2 j (by omega)
    · cases hw
      obtain ⟨cell, c1, c2, c3, c4, c5, c6⟩ := hs
      cases hty
      refine ⟨S j, cell, rfl, by rw [h4.1.2.1 _ c2]; exact c1, c3, c4, c5, fun j' j1 j2 => ?_⟩
      obtain ⟨x, hx⟩ := c6 j' (by omega)
      rw [Array.getD_eq_getD_getElem?, hx]
      have e9 : ck_kat [(n0, ck_full)] j' = ck_full := by
        unfold ck_kat
        rw [if_pos (by omega)]
      rw [e9]
      exact ⟨x, rfl, (ck_i32 x).1, (ck_i32 x).2, fun g c q => by cases q⟩
  obtain ⟨a0, cs, rfl, k1, k2, k3, k4, k5⟩ := key
  refine cw_copy0 hexec hb hown hK hlink hnat hstat hini (by rw [hml]; exact h1.1.symm) hty hpr k1 k2 k3 z1 (sp' := sp) (dp' := dp) (n' := n) (by have := gs.1; have := gs.2.1; omega) (by have := gd.1; have := gd.2.1; omega) (by have := gn.1; have := gn.2.1; omega) (by omega) b2 (fun i hi => ?_) hframes (by rw [ck_words_ok g5 hst]; exact hlocals) hd fun H' M hM o1 o2 o3 => kk H' ls vs' _ ⟨ρ, G, N, lv, h1, h2, g5, ?_, ?_, ?_, h7⟩
  · have y := k5 (sp + i) (by omega) (by omega)
    have hpk := (hcp i hi).2.1
    generalize ck_kat sg0 (sp + i) = ks at hpk y
    rcases hpr with rfl | rfl
    · cases hty
      match ks, hpk, y with
      | .inl q, _, y => obtain ⟨x, hx, -⟩ := y; rw [hx]; rfl
    · cases hty
      match ks, hpk, y with
      | .inr (.inl q), _, y => obtain ⟨x, hx, -⟩ := y; rw [hx]; rfl
  · refine h4.putTy hG o2 o3 ?_ (fun i' d hi h3 hN => ?_)
    · rw [ha]
      unfold ck_ty
      rw [hτ]
      refine ⟨_, o1, fun j0 hj0 => ?_⟩
      split
      · rename_i hin
        have := (k5 (sp + (j0 - dp)) (by omega) (by omega)).le (hcp (j0 - dp) (by omega)).2.2
        rw [show dp + (j0 - dp) = j0 by omega] at this
        exact this
      · exact z2 j0 hj0
    · exact hno i' d hi h3 (((h4.2.2.1 i' d a hi hN).foc h3).1.symm.trans ha)
  · exact h5.put o2 o3 (Or.inl ⟨hG, by rw [ha]; exact hwr⟩) (fun i c hi ho => ⟨c, hi, ho⟩)
  · intro q hq
    rcases List.mem_append.mp hq with z | z
    · exact h6 q z
    · rw [hM q z]; exact l1
/-- a static field that holds a static array -/
theorem gcw_gets (hexec : p.tables.exec = Jvm.exec) (hb : c.code = cc) (hown : s.vm.findClass own = some m.cls) {idx j : Nat} {C nm ds : String} (hZ : va_Z C nm ds (.ref (S j)) (fun q => L.size ≤ q) s L) (hlink : (Cond.fieldLink own idx C nm ds).before args s = true) (hd : decode cc pc = .ok (.getstatic idx, 3))
    (kk : gck_W p l e R s m args below meth c Q D AC S tab L nL ρ0 wr G0 N0 H0 (pc + 3) (A, .inr (.inr (3, j)) :: st, T) cells slots) : gck_W p l e R s m args below meth c Q D AC S tab L nL ρ0 wr G0 N0 H0 pc (A, st, T) cells slots := by
  intro H ls vs locs h
  obtain ⟨ρ, G, N, lv, h1, h2, h3, h4, h5, h6, h7⟩ := h
  obtain ⟨cf, kf, fi, f, a, cell, y1, y2, y3, y4, y5, y6, y7, y8⟩ := hZ
  have hal : a < L.size := by omega
  exact W.gets hexec hb hown hlink y1 y2 y3 y4 (by rw [h4.1.2.1 a hal]; exact y5) (fun e => by rw [e] at y6; cases y6) y7 rfl hd (kk H ls _ locs ⟨ρ, G, N, lv, h1, h2, ck_all.cons rfl h3, h4, h5, h6, h7⟩)
end CKN
