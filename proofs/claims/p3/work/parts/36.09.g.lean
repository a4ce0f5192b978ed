/-! the second checker: 09 -/
section CKG
variable {p : Program} {l : Launch} {e : Env} {R : Room} {s : State} {m : MethodId} {args : Array Value} {below : List Frame} {meth : Method} {c : Code} {cells slots : Nat} {Q : State → Prop}
variable {cc : ByteArray} {pc pc2 nL : Nat} {D : va_G} {AC : Nat → ClassId} {S : Nat → Nat} {tab : List ck_D} {L : Heap} {ρ0 : Nat → Int} {wr : List Nat} {G0 : Nat → Nat} {N0 : List Nat} {H0 : Heap}
variable {A : List (Nat × ck_V)} {st : List ck_V} {T : List ck_C} {own : String}
/-- of a named object -/
theorem gcw_getNm (hexec : p.tables.exec = Jvm.exec) (hb : c.code = cc) (hown : s.vm.findClass own = some m.cls) (hK : va_K D ck_cl (ck_tys AC) s) (hts : ∀ w ∈ ck_tb, w.before args s = true) {idx ci k i : Nat} {fs : List ck_V} {v : ck_V} {h : Nat × Nat} (hh : h = (0, ci) ∨ ∃ τ ks, h = (3, τ) ∧ tab[τ]? = some (.inr (ci, ks))) (hlk : ck_lnk own idx ci k) (hi : T[i]? = some (h, fs)) (hv : fs[k]? = some v) (hd : decode cc pc = .ok (.getfield idx, 3))
    (kk : gck_W p l e R s m args below meth c Q D AC S tab L nL ρ0 wr G0 N0 H0 (pc + 3) (A, v :: st, T) cells slots) : gck_W p l e R s m args below meth c Q D AC S tab L nL ρ0 wr G0 N0 H0 pc (A, .inr (.inr (1, i)) :: st, T) cells slots := by
  intro H ls vs locs h
  obtain ⟨ρ, G, N, lv, h1, h2, h3, h4, h5, h6, h7⟩ := h
  obtain ⟨_, vs', rfl, ⟨a, ha, rfl⟩, g2⟩ := h3.uncons
  have ht := h4.2.2.1 i _ a hi ha
  have key : ∃ ws : List Value, ck_ob D ci a H ws ∧ ck_all (ck_R S ρ G N) fs ws := by
    unfold ck_tc at ht
    rcases hh with rfl | ⟨τ, ks, rfl, hτ⟩
    · obtain ⟨-, -, ws, z1, z2⟩ := ht
      exact ⟨ws, z1, z2⟩
    · obtain ⟨-, -, ci', ks', ws, z0, z1, z2⟩ := ht
      cases hτ.symm.trans z0
      exact ⟨ws, z1, z2⟩
  obtain ⟨ws, z1, z2⟩ := key
  obtain ⟨w, y1, y2⟩ := z2.get hv
  exact cw_get0 hexec hb hown hK hts hlk z1 y1 hd (kk H ls _ locs ⟨ρ, G, N, lv, h1, h2, ck_all.cons y2 g2, h4, h5, h6, h7⟩)
/-- of a typed object -/
theorem gcw_getTy (hexec : p.tables.exec = Jvm.exec) (hb : c.code = cc) (hown : s.vm.findClass own = some m.cls) (hK : va_K D ck_cl (ck_tys AC) s) (hts : ∀ w ∈ ck_tb, w.before args s = true) {idx ci k τ : Nat} {ks : List ck_V} {v : ck_V} (hτ : tab[τ]? = some (.inr (ci, ks))) (hlk : ck_lnk own idx ci k) (hv : ks[k]? = some v) (hp : ck_plain v = true) (hd : decode cc pc = .ok (.getfield idx, 3))
    (kk : gck_W p l e R s m args below meth c Q D AC S tab L nL ρ0 wr G0 N0 H0 (pc + 3) (A, v :: st, T) cells slots) : gck_W p l e R s m args below meth c Q D AC S tab L nL ρ0 wr G0 N0 H0 pc (A, .inr (.inr (2, τ)) :: st, T) cells slots := by
  intro H ls vs locs h
  obtain ⟨ρ, G, N, lv, h1, h2, h3, h4, h5, h6, h7⟩ := h
  obtain ⟨_, vs', rfl, ⟨a, rfl, ha, hz⟩, g2⟩ := h3.uncons
  have ht := (h4.1.2.2 a (by rw [ha]; exact hz)).2
  rw [ha] at ht
  unfold ck_ty at ht
  rw [hτ] at ht
  obtain ⟨ws, z1, z2⟩ := ht
  obtain ⟨w, y1, y2⟩ := z2.get hv
  exact cw_get0 hexec hb hown hK hts hlk z1 y1 hd (kk H ls _ locs ⟨ρ, G, N, lv, h1, h2, ck_all.cons (y2.plain hp) g2, h4, h5, h6, h7⟩)
/-- into an object of one's own -/
theorem gcw_putOwn (hexec : p.tables.exec = Jvm.exec) (hb : c.code = cc) (hown : s.vm.findClass own = some m.cls) (hK : va_K D ck_cl (ck_tys AC) s) (hts : ∀ w ∈ ck_tb, w.before args s = true) {idx ci k i : Nat} {fs : List ck_V} {v : ck_V} (hlk : ck_lnk own idx ci k) (hi : T[i]? = some ((0, ci), fs))
    (hfin : ∀ C T n, ck_cl[ci]? = some (C, T, n) → (T k).2.2.2 = false ∨ (own = C ∧ meth.name = "<init>")) (hf : ck_fit (ck_yy ci k) v = true) (hd : decode cc pc = .ok (.putfield idx, 3))
    (kk : gck_W p l e R s m args below meth c Q D AC S tab L nL ρ0 wr G0 N0 H0 (pc + 3) (A, st, T.set i ((0, ci), fs.set k v)) cells slots) : gck_W p l e R s m args below meth c Q D AC S tab L nL ρ0 wr G0 N0 H0 pc (A, v :: .inr (.inr (1, i)) :: st, T) cells slots := by
  intro H ls vs locs h
  obtain ⟨ρ, G, N, lv, h1, h2, h3, h4, h5, h6, h7⟩ := h
  obtain ⟨w, vs', rfl, hw, g2⟩ := h3.uncons
  obtain ⟨_, vs'', rfl, ⟨a, ha, rfl⟩, g3⟩ := g2.uncons
  obtain ⟨f1, f2⟩ := ck_fit_ok hf hw
  have ht := h4.2.2.1 i _ a hi ha
  obtain ⟨l1, l2, ws, z1, z2⟩ := ht
  refine cw_put0 hexec hb hown hK hts hlk z1 hfin f1 f2 hd fun H' j o1 o2 o3 => kk H' ls vs'' _ ⟨ρ, G, N, lv, h1, h2, g3, ?_, ?_, ?_, h7⟩
  · exact h4.putOwn hi ha rfl rfl o2 o3 ⟨l1, l2, _, o1, z2.set k hw⟩
  · exact h5.put o2 o3 (Or.inr ⟨l2, i, _, hi, ha, rfl⟩) (ck_set_own ⟨_, hi, fun _ => rfl⟩)
  · intro q hq
    rcases List.mem_append.mp hq with z | z
    · exact h6 q z
    · rw [List.mem_singleton.mp z]; exact l1
/-- into a typed object by its name -/
theorem gcw_putFoc (hexec : p.tables.exec = Jvm.exec) (hb : c.code = cc) (hown : s.vm.findClass own = some m.cls) (hK : va_K D ck_cl (ck_tys AC) s) (hts : ∀ w ∈ ck_tb, w.before args s = true) {idx ci k i τ : Nat} {fs ks : List ck_V} {v kd : ck_V} (hτ : tab[τ]? = some (.inr (ci, ks))) (hlk : ck_lnk own idx ci k) (hi : T[i]? = some ((3, τ), fs)) (hkd : ks[k]? = some kd) (hle : ck_le v kd = true) (hpl : ck_plain kd = true)
    (hfin : ∀ C T n, ck_cl[ci]? = some (C, T, n) → (T k).2.2.2 = false ∨ (own = C ∧ meth.name = "<init>")) (hf : ck_fit (ck_yy ci k) v = true) (hwr : τ ∈ wr) (hno : ∀ (j : Nat) (d : ck_C), j ≠ i → T[j]? = some d → ck_foc d → d.1.2 ≠ τ) (hd : decode cc pc = .ok (.putfield idx, 3))
    (kk : gck_W p l e R s m args below meth c Q D AC S tab L nL ρ0 wr G0 N0 H0 (pc + 3) (A, st, T.set i ((3, τ), fs.set k v)) cells slots) : gck_W p l e R s m args below meth c Q D AC S tab L nL ρ0 wr G0 N0 H0 pc (A, v :: .inr (.inr (1, i)) :: st, T) cells slots := by
  intro H ls vs locs h
  obtain ⟨ρ, G, N, lv, h1, h2, h3, h4, h5, h6, h7⟩ := h
  obtain ⟨w, vs', rfl, hw, g2⟩ := h3.uncons
  obtain ⟨_, vs'', rfl, ⟨a, ha, rfl⟩, g3⟩ := g2.uncons
  obtain ⟨f1, f2⟩ := ck_fit_ok hf hw
  obtain ⟨t1, t2, ci', ks', ws, z0, z1, z2⟩ := h4.2.2.1 i _ a hi ha
  cases hτ.symm.trans z0
  have hG : G a ≠ 0 := by rw [t1]; exact t2
  have hty := h4.1.2.2 a hG
  rw [t1] at hty
  obtain ⟨l1, hty⟩ := hty
  unfold ck_ty at hty
  rw [hτ] at hty
  obtain ⟨ws', y1, y2⟩ := hty
  have ews : ws' = ws := by
    obtain ⟨_, _, b1, cl1, b2, b3, b4, b5⟩ := y1
    obtain ⟨_, _, e1, cl2, e2, e3, e4, e5⟩ := z1
    cases b2.symm.trans e2
    have hl : ws'.length = ws.length := by have := b1.symm.trans e1; simp at this; exact this.2.2
    apply List.ext_getElem? fun j => ?_
    by_cases hj : j < ws.length
    · have x1 := b5 j (by omega)
      have x2 := e5 j hj
      rw [x1] at x2
      have : vp_V ws' j = vp_V ws j := Option.some.inj x2
      unfold vp_V at this
      rw [List.getD_eq_getElem?_getD, List.getD_eq_getElem?_getD, List.getElem?_eq_getElem (by omega), List.getElem?_eq_getElem hj] at this
      rw [List.getElem?_eq_getElem (by omega), List.getElem?_eq_getElem hj]
      exact congrArg some (by simpa using this)
    · rw [List.getElem?_eq_none (by omega), List.getElem?_eq_none (by omega)]
  subst ews
  refine cw_put0 hexec hb hown hK hts hlk z1 hfin f1 f2 hd fun H' j o1 o2 o3 => kk H' ls vs'' _ ⟨ρ, G, N, lv, h1, h2, g3, ?_, ?_, ?_, h7⟩
  · refine h4.putFoc (Or.inl rfl) rfl hi ha o2 o3 ?_ ⟨t1, t2, ci, ks, _, hτ, o1, z2.set k hw⟩ hno
    unfold ck_ty
    rw [hτ]
    have := y2.set k (hw.le hle |>.plain hpl)
    have e : ks.set k kd = ks := by
      apply List.ext_getElem? fun j => ?_
      by_cases ej : k = j
      · subst ej
        rw [List.getElem?_set_self (List.getElem?_eq_some_iff.mp hkd).1, hkd]
      · rw [List.getElem?_set_ne ej]
    rw [e] at this
    exact ⟨_, o1, this⟩
  · exact h5.put o2 o3 (Or.inl ⟨hG, by rw [t1]; exact hwr⟩) (ck_set_own ⟨_, hi, fun h => by cases h⟩)
  · intro q hq
    rcases List.mem_append.mp hq with z | z
    · exact h6 q z
    · rw [List.mem_singleton.mp z]; exact l1
/-- into a typed object -/
theorem gcw_putTy (hexec : p.tables.exec = Jvm.exec) (hb : c.code = cc) (hown : s.vm.findClass own = some m.cls) (hK : va_K D ck_cl (ck_tys AC) s) (hts : ∀ w ∈ ck_tb, w.before args s = true) {idx ci k τ : Nat} {ks : List ck_V} {v kd : ck_V} (hτ : tab[τ]? = some (.inr (ci, ks))) (hlk : ck_lnk own idx ci k) (hkd : ks[k]? = some kd) (hle : ck_le v kd = true) (hpl : ck_plain kd = true)
    (hfin : ∀ C T n, ck_cl[ci]? = some (C, T, n) → (T k).2.2.2 = false ∨ (own = C ∧ meth.name = "<init>")) (hf : ck_fit (ck_yy ci k) v = true) (hwr : τ ∈ wr) (hno : ∀ (j : Nat) (d : ck_C), T[j]? = some d → ck_foc d → d.1.2 ≠ τ) (hd : decode cc pc = .ok (.putfield idx, 3))
    (kk : gck_W p l e R s m args below meth c Q D AC S tab L nL ρ0 wr G0 N0 H0 (pc + 3) (A, st, T) cells slots) : gck_W p l e R s m args below meth c Q D AC S tab L nL ρ0 wr G0 N0 H0 pc (A, v :: .inr (.inr (2, τ)) :: st, T) cells slots := by
  intro H ls vs locs h
  obtain ⟨ρ, G, N, lv, h1, h2, h3, h4, h5, h6, h7⟩ := h
  obtain ⟨w, vs', rfl, hw, g2⟩ := h3.uncons
  obtain ⟨_, vs'', rfl, ⟨a, rfl, ha, hz⟩, g3⟩ := g2.uncons
  obtain ⟨f1, f2⟩ := ck_fit_ok hf hw
  have hG : G a ≠ 0 := by rw [ha]; exact hz
  have hty := h4.1.2.2 a hG
  rw [ha] at hty
  obtain ⟨l1, hty⟩ := hty
  unfold ck_ty at hty
  rw [hτ] at hty
  obtain ⟨ws, y1, y2⟩ := hty
  refine cw_put0 hexec hb hown hK hts hlk y1 hfin f1 f2 hd fun H' j o1 o2 o3 => kk H' ls vs'' _ ⟨ρ, G, N, lv, h1, h2, g3, ?_, ?_, ?_, h7⟩
  · refine h4.putTy hG o2 o3 ?_ (fun i d hi h3 hN => ?_)
    · rw [ha]
      unfold ck_ty
      rw [hτ]
      have := y2.set k (hw.le hle |>.plain hpl)
      have e : ks.set k kd = ks := by
        apply List.ext_getElem? fun j => ?_
        by_cases ej : k = j
        · subst ej
          rw [List.getElem?_set_self (List.getElem?_eq_some_iff.mp hkd).1, hkd]
        · rw [List.getElem?_set_ne ej]
      rw [e] at this
      exact ⟨_, o1, this⟩
    · exact hno i d hi h3 (((h4.2.2.1 i d a hi hN).foc h3).1.symm.trans ha)
  · exact h5.put o2 o3 (Or.inl ⟨hG, by rw [ha]; exact hwr⟩) (fun i c hi ho => ⟨c, hi, ho⟩)
  · intro q hq
    rcases List.mem_append.mp hq with z | z
    · exact h6 q z
    · rw [List.mem_singleton.mp z]; exact l1
end CKG
