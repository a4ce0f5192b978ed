/-! ===== a call of which two contracts speak ===== -/
section GCI
variable {p : Program} {l : Launch} {e : Env} {R : Room} {s : State} {m : MethodId} {args : Array Value} {below : List Frame} {meth : Method} {c : Code} {T : State} {locs : List Loc} {cells slots : Nat}
theorem gck_callP {tab : List ck_D} {nb : Nat × Nat} {nS : Nat} {M : ck_M} {X : ck_Kt} (hO : gck_Ok l tab nb M X) (hn1 : nb.1 ≤ nS) (hn2 : nS ≤ nb.2) {g : JFrame} {rest : List Value} {a : Array Value} (hinv : ck_Inv p l e R s m args below meth c locs cells slots T M.1 g rest a) (hexec : p.tables.exec = Jvm.exec) (hg : g.method = m) (hsize : g.locals.size = c.maxLocals) {ig : Instr} (hdg : decode c.code g.pc = .ok (ig, 3))
    (hcode : (Cond.codeWith M.1 M.2.1 M.2.2.1 M.2.2.2.1 M.2.2.2.2).before args s = true) (hplain : plainName M.1.cls = true) (htr : e.platform.stackTraces = false) (hfr : X.1.2.2.2.2.1 + 1 ≤ R.frames) (hlo : 2 * g.monitorRoom + (rest.map fun v => v.category).sum + (M.2.2.1 + 11) + X.1.2.2.2.2.2.1 ≤ R.locals) (hce : cells + X.1.2.2.2.2.2.2.1 ≤ R.cells) (hsl : slots + X.1.2.2.2.2.2.2.2 ≤ R.slots)
    {D : va_G} {AC : Nat → ClassId} {S : Nat → Nat} {L : Heap} {ρ0 : Nat → Int} {G0 : Nat → Nat} {N0 : List Nat} {vs : List Value} (hK : ck_Kf D AC S L s nS) (ha : a = vs.toArray) (hv : ck_all (ck_R S ρ0 G0 N0) X.1.1 vs) (hH : ck_H D AC S tab L ρ0 G0 N0 (ck_etag X.1.2.1) T.heap) {Pp : Outcome → Heap → Prop} (hP : ∀ (R' : Room) (s' : State) (mk : MethodId) (methk : Method) (ck : Code) (below' : List Frame), ck_B p s' mk methk ck M → X.1.2.2.2.2.1 ≤ R'.frames → X.1.2.2.2.2.2.1 ≤ R'.locals → ck_Kf D AC S L s' nS → s'.heap = T.heap → s.WarmedH s'.vm → W p l e R' s' mk a below' methk ck s'.heap [] 0 0 (fun t => ∃ o, Ended t below' o ∧ Pp o t.heap) (entryFrame mk a M.2.2.1)) :
    ∃ (T' : State) (Ls : List Loc) (o : Outcome) (U : State) (al : List ck_C × (Option ck_V ⊕ Nat)), al ∈ X.2.1 ∧ Stand p l e R s m args below meth c T' (locs ++ Ls) (cells + X.1.2.2.2.2.2.2.1) (slots + X.1.2.2.2.2.2.2.2) ∧ (∀ q ∈ Ls, L.size ≤ q.base) ∧ s.WarmedH U.vm ∧ gck_Ps D AC S tab L ρ0 X.2.2 G0 N0 T.heap U (ck_alt X.1 al) o T'.heap ∧ Pp o T'.heap ∧
      (∀ v, o = .returned v → ∀ target, Steps p.tables e below (T'.setTop { g with pc := g.pc + 3, stack := v.toList ++ rest }) target → Steps p.tables e below (T.setTop g) target) ∧
      (∀ x, o = .threw x → ∀ target, Steps p.tables e below ((T'.setTop { g with stack := rest }).pushFrame (.throwing x)) target → Steps p.tables e below (T.setTop g) target) := by
  obtain ⟨vm₁, mk, hW₁, Y0, hn, hstep⟩ := hinv
  obtain ⟨m9, methk, ck, hn9, hm9, hc9, hb9, hl9, ht9, hr9, hk9, -⟩ := Cond.codeWith_spec hcode
  cases hn.symm.trans hn9
  have hmk : (T.setVm vm₁).vm.method? mk = some methk := by
    show vm₁.method? mk = some methk
    rw [hW₁.alike.method?]; exact hm9
  have hnT : (T.setVm vm₁).methodNamed? M.1 = some mk := Y0.named hn
  have hpk : (T.setVm vm₁).plainMethod mk := State.plainMethod.of_name (fun k hk => by
    obtain ⟨k', hk', hnm⟩ := className_of_methodNamed hnT
    cases hk.symm.trans hk'
    rw [hnm]; exact hplain)
  obtain ⟨Y, hent⟩ := Y0.into (g := { g with stack := rest }) hg hsize hdg a (R' := { frames := X.1.2.2.2.2.1, locals := X.1.2.2.2.2.2.1, cells := X.1.2.2.2.2.2.2.1, slots := X.1.2.2.2.2.2.2.2 }) hmk hc9 hk9 hpk hfr (by rw [hl9]; exact hlo) hce hsl
  have hclass : ((T.setVm vm₁).calling { g with stack := rest } mk a).vm.findClass M.1.cls = some mk.cls := findClass_of_methodNamed (s := (T.setVm vm₁)) hnT
  have hname : methk.name = M.1.name := (name_of_methodNamed hn hm9).1
  have hWc : s.WarmedH ((T.setVm vm₁).calling { g with stack := rest } mk a).vm := hW₁
  have w := hO p e { frames := X.1.2.2.2.2.1, locals := X.1.2.2.2.2.2.1, cells := X.1.2.2.2.2.2.2.1, slots := X.1.2.2.2.2.2.2.2 } ((T.setVm vm₁).calling { g with stack := rest } mk a) mk a (.java { g with stack := rest } :: below) methk ck D AC S L ρ0 G0 N0 vs nS hn1 hn2 ⟨hexec, hb9, hl9, hr9, hk9, hclass, ht9, hname⟩ htr (Nat.le_refl _) (Nat.le_refl _) (Nat.le_refl _) (Nat.le_refl _) (hK.moved hWc) ha hv hH
  have w2 := hP { frames := X.1.2.2.2.2.1, locals := X.1.2.2.2.2.2.1, cells := X.1.2.2.2.2.2.2.1, slots := X.1.2.2.2.2.2.2.2 } ((T.setVm vm₁).calling { g with stack := rest } mk a) mk methk ck (.java { g with stack := rest } :: below) ⟨hexec, hb9, hl9, hr9, hk9, hclass, ht9, hname⟩ (Nat.le_refl _) (Nat.le_refl _) (hK.moved hWc) rfl hWc
  obtain ⟨t, st, ⟨al, hal, o, hrun, hend, hWt, ⟨Ls, hsame, hLs⟩, hps⟩, o2, hend2, hpp⟩ := (W.both w w2 (fun t ht => ⟨_, ht.choose_spec.2.choose_spec.2.1⟩) (fun t ht => ⟨_, ht.choose_spec.1⟩)) (((T.setVm vm₁).setTop { g with stack := rest }).pushFrame (.java (entryFrame mk a ck.maxLocals))) rfl Y
  have eo := gk_eo hend2 hend
  subst eo
  have st2 : Steps p.tables e below (doInvoke e ((T.setVm vm₁).setTop { g with stack := rest }) [] mk a).1 t := by
    rw [hent []]
    rw [hl9] at st ⊢
    exact ck_weaken (mid := [.java { g with stack := rest }]) st
  cases o2 with
  | returned v =>
    obtain ⟨T', X', hWT, hsm, et⟩ := Y0.outOf (g := { g with stack := rest }) hg hdg hend hWt hsame
    refine ⟨T', Ls, .returned v, (T.setVm vm₁).calling { g with stack := rest } mk a, al, hal, X', hLs, hWc, ?_, ?_, ?_, ?_⟩
    · have : t.heap = T'.heap := by rw [et]; rfl
      rw [← this]
      exact hps
    · have : t.heap = T'.heap := by rw [et]; rfl
      rw [← this]
      exact hpp
    · intro v' hv' target htg
      cases hv'
      refine hstep target (st2.trans ?_)
      rw [et]
      exact htg
    · intro x hx
      cases hx
  | threw x =>
    obtain ⟨T', X', hWT, hsm, et⟩ := Y0.outOfThrown (g := { g with stack := rest }) hg hend hWt hsame
    refine ⟨T', Ls, .threw x, (T.setVm vm₁).calling { g with stack := rest } mk a, al, hal, X', hLs, hWc, ?_, ?_, ?_, ?_⟩
    · have : t.heap = T'.heap := by rw [et]; rfl
      rw [← this]
      exact hps
    · have : t.heap = T'.heap := by rw [et]; rfl
      rw [← this]
      exact hpp
    · intro v' hv'
      cases hv'
    · intro x' hx target htg
      cases hx
      refine hstep target (st2.trans ?_)
      rw [et]
      exact htg

end GCI
section GCA
variable {p : Program} {l : Launch} {e : Env} {R : Room} {s : State} {m : MethodId} {args : Array Value} {below : List Frame} {meth : Method} {c : Code} {cells slots : Nat} {Q : State → Prop}
variable {cc : ByteArray} {pc pc2 nL nS : Nat} {D : va_G} {AC : Nat → ClassId} {S : Nat → Nat} {tab : List ck_D} {L : Heap} {ρ0 : Nat → Int} {wr : List Nat} {G0 : Nat → Nat} {N0 : List Nat} {H0 : Heap}
variable {A : List (Nat × ck_V)} {st ks : List ck_V} {T : List ck_C} {K Km : ck_Ct} {M : ck_M} {μ : List Nat} {own : String}
theorem gcw_callP {ig : Instr} {nb : Nat × Nat} {X : ck_Kt} (hO : gck_Ok l tab nb M X) (hn1 : nb.1 ≤ nS) (hn2 : nS ≤ nb.2) (hexec : p.tables.exec = Jvm.exec) (hb : c.code = cc) (hml : c.maxLocals = nL) (hlk : meth.locks = false) (hown : s.vm.findClass own = some m.cls) (hd : decode cc pc = .ok (ig, 3)) (hKf : ck_Kf D AC S L s nS) (htr : e.platform.stackTraces = false) (hcode : (Cond.codeWith M.1 M.2.1 M.2.2.1 M.2.2.2.1 M.2.2.2.2).before args s = true) (hplain : plainName M.1.cls = true)
    (hinv : ∀ {U : State} {H : Heap} {ls : Array Slot} {vs rest : List Value} {locs : List Loc} {ρ : Nat → Int} {G : Nat → Nat} {N : List Nat}, U.heap = H → Stand p l e R s m args below meth c U locs cells slots → ck_H D AC S tab L ρ G N T H → ck_all (ck_R S ρ G N) ks vs → ck_Inv p l e R s m args below meth c locs cells slots U M.1 (F0 m pc ls (vs.reverse ++ rest)) rest vs.toArray)
    (hfr : X.1.2.2.2.2.1 + 1 ≤ R.frames) (hst : st.all ck_kn = true) (hlo : ck_words st + (M.2.2.1 + 11) + X.1.2.2.2.2.2.1 ≤ R.locals) (hce : cells + X.1.2.2.2.2.2.2.1 ≤ R.cells) (hsl : slots + X.1.2.2.2.2.2.2.2 ≤ R.slots) (hpre : ck_cpre T μ X.1.2.1 = true) (hargs : ck_cargs T μ ks X.1.1 = true) (hwr : ∀ τ ∈ X.2.2, τ ∈ wr) (hc0 : cells = 0 ∨ ∀ τ ∈ X.2.2, τ < 2000)
    {post : List ck_C} {r : Option ck_V} (hX : X.2.1 = [(post, .inl r)]) {H : Heap} {ls : Array Slot} {va rest : List Value} {locs : List Loc} (h : gck_st D AC S tab L nL ρ0 wr G0 N0 s.heap (A, ks.reverse ++ st, T) H ls (va.reverse ++ rest) locs) (hva : va.length = ks.length) {Pp : Outcome → Heap → Prop} (hP : ∀ (R' : Room) (s' : State) (mk : MethodId) (methk : Method) (ck : Code) (below' : List Frame), ck_B p s' mk methk ck M → X.1.2.2.2.2.1 ≤ R'.frames → X.1.2.2.2.2.2.1 ≤ R'.locals → ck_Kf D AC S L s' nS → s'.heap = H → s.WarmedH s'.vm → W p l e R' s' mk va.toArray below' methk ck s'.heap [] 0 0 (fun t => ∃ o, Ended t below' o ∧ Pp o t.heap) (entryFrame mk va.toArray M.2.2.1))
    (kk : ∀ (H' : Heap) (w : Option Value) (locs' : List Loc), gck_st D AC S tab L nL ρ0 wr G0 N0 s.heap (A, ck_push (ck_f0 T μ) (ck_mu T μ post) r st, ck_cpost tab (gk_w X.2.2) T μ post) H' ls (w.toList ++ rest) locs' → Pp (.returned w) H' → W p l e R s m args below meth c H' locs' (cells + X.1.2.2.2.2.2.2.1) (slots + X.1.2.2.2.2.2.2.2) Q (F0 m (pc + 3) ls (w.toList ++ rest))) :
    W p l e R s m args below meth c H locs cells slots Q (F0 m pc ls (va.reverse ++ rest)) := by
  intro U hU Xs
  obtain ⟨ρ, G, N, lv, h1, h2, h3, h4, h5, h6, h7⟩ := h
  obtain ⟨va', rest', hva', ha, hrest⟩ := ck_all.split h3
  have hl9 : va.reverse.length = va'.length := by
    have := ha.1
    rw [List.length_reverse] at this ⊢
    omega
  obtain ⟨hv1, hv2⟩ := List.append_inj hva' hl9
  subst hv1
  subst hv2
  have ha := ck_all.rev ha
  rw [List.reverse_reverse] at ha
  obtain ⟨ρ1, N1, e1, e2, e3, e4, e5, e6⟩ := h4.pre hpre
  have hv := ck_cargs_ok (ρ1 := ρ1) h4 (fun j i hj => (e1 j i hj).1) hargs ha
  have hi := hinv (ls := ls) (rest := rest) hU Xs h4 ha
  obtain ⟨U', Ls, o, V, al, hal, X', hLs, hWV, hps, hpp, hret, hthr⟩ := gck_callP hO hn1 hn2 hi hexec rfl (by rw [hml]; exact h1.1) (ig := ig) (by rw [hb]; exact hd) hcode hplain htr hfr (by show 2 * 0 + _ + _ + _ ≤ _; rw [ck_words_ok hrest hst]; omega) hce hsl hKf rfl hv (by rw [hU]; exact e3) (fun R' s' mk methk ck below' q1 q2 q3 q4 q5 q6 => hP R' s' mk methk ck below' q1 q2 q3 q4 (q5.trans hU) q6)
  obtain ⟨ρ2, G2, N2, y1, y2, y3, y4⟩ := hps
  rw [hU] at y2
  have y1 : ck_H D AC S tab L ρ2 G2 N2 al.1 U'.heap := y1
  have y2 : gck_F X.2.2 G N1 H G2 N2 al.1 U'.heap := y2
  obtain ⟨N', ⟨Mm, hM⟩, z2, z3, z4, z5⟩ := h4.postg (wk := X.2.2) e1 e2 e5 e6 e4 y3 y1 y2
  have hL2 : ck_all (ck_RL S ρ G2 N') A lv := h2.mono fun q w _ hq => ⟨hq.1, by rw [hM]; exact (hq.2.grow z2).ext _⟩
  have hS2 : ck_all (ck_R S ρ G2 N') st rest := hrest.mono fun q w _ hq => by rw [hM]; exact (hq.grow z2).ext _
  have hlo2 : ∀ q ∈ locs ++ Ls, L.size ≤ q.base := fun q hq => by
    rcases List.mem_append.mp hq with z | z
    · exact h6 q z
    · exact hLs q z
  have hcz : (∃ c ∈ X.2.2, 2000 ≤ c) → H.size ≤ s.heap.size := fun ⟨c, hc, hl⟩ => by
    have hsz := Xs.same.2.2.1
    have hsz : H.size ≤ s.heap.size + cells := by subst hU; exact hsz
    rcases hc0 with z | z
    · omega
    · have := z c hc
      omega
  rw [hX, List.mem_singleton] at hal
  subst hal
  dsimp only at y1 y2 y4 z3 z4 z5
  match r, kk, y4 with
  | none, kk, y4 =>
    have y4 : o = .returned none := y4
    subst y4
    obtain ⟨t, a, b⟩ := kk U'.heap none (locs ++ Ls) ⟨ρ, G2, N', lv, h1, hL2, hS2, z3, z5 hwr hcz h5, hlo2, h7⟩ hpp U' rfl X'
    exact ⟨t, hret none rfl t a, b⟩
  | some k, kk, y4 =>
    obtain ⟨w, rfl, hw⟩ := y4
    obtain ⟨t, a, b⟩ := kk U'.heap (some w) (locs ++ Ls) ⟨ρ, G2, N', lv, h1, hL2, ck_all.cons (z4 k w hw) hS2, z3, z5 hwr hcz h5, hlo2, h7⟩ hpp U' rfl X'
    exact ⟨t, hret (some w) rfl t a, b⟩

end GCA
section GCC
variable {p : Program} {l : Launch} {e : Env} {R : Room} {s : State} {m : MethodId} {args : Array Value} {below : List Frame} {meth : Method} {c : Code} {ce sl : Nat} {Q : State → Prop}
variable {pc nL : Nat} {nb : Nat × Nat} {al : List (List ck_C × (Option ck_V ⊕ Nat))} {D : va_G} {AC : Nat → ClassId} {S : Nat → Nat} {tab : List ck_D} {L : Heap} {ρ0 : Nat → Int} {wr : List Nat} {G0 : Nat → Nat} {N0 : List Nat} {H0 : Heap}
variable {B : ck_A} {M : ck_M} {K : ck_Ct} {E : ck_E} {ms : List ck_MM} {cts : List (Nat × ck_Kt)} {cod : List (List (Nat × Instr × Nat))}
variable {nS : Nat}
theorem gcw_calP {Xc : ck_Kt} {mi0 : Nat} (hy : gck_Hy p l e R s m meth c M K E ms [(mi0, Xc)] tab nb D AC S L cod) (hnb : nb.1 ≤ nS ∧ nS ≤ nb.2) (hKn : ck_Kf D AC S L s nS) (hnl : nL = M.2.2.1) {i : Instr} {n : Nat} {y : ck_N} (hd : decode M.2.1 pc = .ok (i, n)) (h : gck_cal E tab ms [(mi0, Xc)] M K al wr i n pc B ce sl = some [y])
    {M0 : ck_MM} (hM0 : ms[mi0]? = some M0) {post : List ck_C} {r : Option ck_V} (hX : Xc.2.1 = [(post, .inl r)]) {H : Heap} {ls : Array Slot} {va rest : List Value} {locs : List Loc} (hst0 : gck_st D AC S tab L nL ρ0 wr G0 N0 s.heap B H ls (va.reverse ++ rest) locs) (hva : va.length = ck_na M0.2.1 M0.2.2.1) {Pp : Outcome → Heap → Prop} (hP : ∀ (R' : Room) (s' : State) (mk : MethodId) (methk : Method) (ck : Code) (below' : List Frame), ck_B p s' mk methk ck M0.1 → Xc.1.2.2.2.2.1 ≤ R'.frames → Xc.1.2.2.2.2.2.1 ≤ R'.locals → ck_Kf D AC S L s' nS → s'.heap = H → s.WarmedH s'.vm → W p l e R' s' mk va.toArray below' methk ck s'.heap [] 0 0 (fun t => ∃ o, Ended t below' o ∧ Pp o t.heap) (entryFrame mk va.toArray M0.1.2.2.1))
    (kk : ∀ (H' : Heap) (w : Option Value) (locs' : List Loc), gck_st D AC S tab L nL ρ0 wr G0 N0 s.heap y.2.1 H' ls (w.toList ++ rest) locs' → Pp (.returned w) H' → W p l e R s m args below meth c H' locs' y.2.2.1 y.2.2.2 Q (F0 m y.1 ls (w.toList ++ rest))) :
    W p l e R s m args below meth c H locs ce sl Q (F0 m pc ls (va.reverse ++ rest)) := by
  obtain ⟨⟨hexec, hb, hml, hret, hlk, hown, hhd, hnm⟩, htr, ⟨r1, r2, r3, r4⟩, ⟨nS9, hn19, hn29, hKf9⟩, hE, hEM, hms, hcts, hgl, hcod⟩ := hy
  have hn1 := hnb.1
  have hn2 := hnb.2
  have hKf := hKn
  have hts : ∀ w ∈ ck_tb, w.before args s = true := hKf.ts
  obtain ⟨e1, e2, e3, e4, e5, e6, e7, e8, e9, e10, e11, e12⟩ := hE
  rw [← hEM] at hown
  have hnil : M.2.2.2.2 = [] → c.exceptionTable.toList = [] := fun hz => by
    rw [hz] at hhd
    exact List.map_eq_nil_iff.mp hhd
  obtain ⟨A, st, T⟩ := B
  unfold gck_cal at h
  split at h
  · rename_i kd idx hivk
    split at h
    · rename_i mi hmi
      split at h
      · rename_i M' kd' np ci hM
        split at h
        · rename_i hc
          obtain ⟨rfl, rfl, hna, hrcv⟩ := hc
          generalize hna' : ck_na kd' np = na at h hna hrcv
          dsimp only at h hna hrcv
          generalize hks : (st.take na).reverse = ks at h hrcv
          split at h
          · rename_i X' μ hcand
            split at h
            rotate_left
            · cases h
            rename_i hc0
            obtain ⟨hin, hchk⟩ := ck_cand_ok hcand
            obtain ⟨M2, hM2, hO⟩ := hcts _ hin
            cases hM.symm.trans hM2
            obtain ⟨em, ex⟩ := Prod.mk.inj (List.mem_singleton.mp hin)
            subst em
            subst ex
            cases hM0.symm.trans hM
            dsimp only at hva hP
            replace hO : gck_Ok l tab nb M' X' := hO
            obtain ⟨hcc, hpl, hnp, hnh, hkd⟩ := hms _ (List.mem_of_getElem? hM)
            obtain ⟨M3, hM3, hlink⟩ := e9 _ (ck_lk_mem hmi)
            cases hM.symm.trans hM3
            dsimp only at hcc hpl hnp hnh hkd hlink
            have hcode : (Cond.codeWith M'.1 M'.2.1 M'.2.2.1 M'.2.2.2.1 M'.2.2.2.2).before args s = true := by
              rcases hcc with ⟨z1, z2⟩ | z
              · rw [z1]; exact ck_codeW (hts _ z2)
              · exact hts _ z
            have hlk' : (Cond.methodLink E.1 idx M'.1).before args s = true ∨ ∃ host, (Cond.methodLinkNest E.1 idx M'.1 host).before args s = true := by
              rcases hlink with z | ⟨host, z⟩
              · exact Or.inl (hts _ z)
              · exact Or.inr ⟨host, hts _ z⟩
            unfold ck_chk at hchk
            simp only [Bool.and_eq_true, decide_eq_true_eq] at hchk
            obtain ⟨⟨⟨⟨⟨⟨⟨q6, q7⟩, q1⟩, q2⟩, q3⟩, q4⟩, q5⟩, q8⟩ := hchk
            have hst : st = ks.reverse ++ st.drop na := by
              rw [← hks, List.reverse_reverse, List.take_append_drop]
            have hkl : ks.length = na := by rw [← hks]; simp; omega
            have hinv : ∀ {U : State} {H : Heap} {ls : Array Slot} {vs rest : List Value} {locs : List Loc} {ρ : Nat → Int} {G : Nat → Nat} {N : List Nat}, U.heap = H → Stand p l e R s m args below meth c U locs ce sl → ck_H D AC S tab L ρ G N T H → ck_all (ck_R S ρ G N) ks vs → ck_Inv p l e R s m args below meth c locs ce sl U M'.1 (F0 m pc ls (vs.reverse ++ rest)) rest vs.toArray := by
              intro U H ls vs rest locs ρ G N hU X0 h4 hv
              match kd', hkd, hivk, hna', hrcv with
              | 0, hkd, hivk, hna', hrcv =>
                have hi : i = .invokestatic idx := by
                  unfold ck_ivk at hivk
                  split at hivk <;> cases hivk
                  rfl
                rw [hi] at hd
                exact ck_invS X0 hexec hown hcode hlk' (hts _ hkd.1) (hts _ hkd.2) hnh rfl hnp (by rw [← hv.1, hkl, ← hna']; rfl) rfl (by rw [hb]; exact hd)
              | 1, hkd, hivk, hna', hrcv =>
                have hi : i = .invokevirtual idx := by
                  unfold ck_ivk at hivk
                  split at hivk <;> cases hivk
                  rfl
                rw [hi] at hd
                match ks, hv, hkl, hrcv with
                | k0 :: ks', hv, hkl, hrcv =>
                  obtain ⟨v0, vs', rfl, w1, w2⟩ := hv.uncons
                  have hoc : ck_oc tab T k0 = some ci := by simpa [ck_rcv] using hrcv
                  obtain ⟨b, us, rfl, C, TT, hcl, cell, o1, o2⟩ := ck_obj h4 w1 (ck_oc_ok hoc)
                  obtain ⟨hk1, hk2, TT', n', hk3⟩ := hkd
                  cases hcl.symm.trans hk3
                  obtain ⟨hS, hfc, -⟩ := hKf.1.1 ci _ hcl
                  refine ck_invV (b := b) (cellB := cell) X0 hexec hown hcode hlk' (hts _ hk1) (hts _ hk2) hnh (by rw [hU]; exact o1) ?_ ?_ rfl hnp (argsL := vs') (by
                    have := w2.1
                    simp [ck_na] at hkl hna'
                    omega) (by simp [F0]) (by rw [hb]; exact hd)
                  · rw [o2.2.1]; rfl
                  · rw [o2.1]; exact hfc
              | kq + 2, hkd, hivk, hna', hrcv =>
                have hi : i = .invokespecial idx := by
                  unfold ck_ivk at hivk
                  split at hivk <;> cases hivk
                  rfl
                rw [hi] at hd
                match ks, hv, hkl, hrcv with
                | k0 :: ks', hv, hkl, hrcv =>
                  obtain ⟨v0, vs', rfl, w1, w2⟩ := hv.uncons
                  have hor : ∃ b, v0 = .ref b := by
                    refine ck_oref w1 ?_
                    unfold ck_rcv at hrcv
                    split at hrcv
                    · rename_i z; cases z
                    · omega
                    · rename_i z _ _; cases z; exact Or.inl ⟨_, rfl⟩
                    · rename_i z _ _; cases z; exact Or.inr ⟨_, rfl⟩
                    · cases hrcv
                  obtain ⟨b, rfl⟩ := hor
                  obtain ⟨hk1, hk2, hk3⟩ := hkd
                  exact ck_invI X0 hexec hown (hts _ hk3) hlk' (hts _ hk1) hk2 hnh rfl hnp (argsL := vs') (by
                    have := w2.1
                    simp [ck_na] at hkl hna'
                    omega) (by simp [F0]) (by rw [hb]; exact hd)
            rw [hst] at hst0
            rw [hX] at h
            unfold ck_resL gck_res1 at h
            dsimp only at h
            unfold ck_resL at h
            have h := Option.some.inj h
            rw [List.append_nil] at h
            have hy9 := (List.cons.inj h).1
            subst hy9
            exact gcw_callP hO hn1 hn2 hexec hb (hml.trans hnl.symm) hlk hown hd hKf htr hcode hpl hinv (by omega) q2 (by omega) (by omega) (by omega) q7 q6 (fun τ hτ => by simpa using List.all_eq_true.mp q8 τ hτ) (hc0.imp id (fun z τ hτ => of_decide_eq_true (List.all_eq_true.mp z τ hτ))) hX hst0 (by omega) hP kk
          · cases h
        · cases h
      · cases h
    · cases h
  · cases h

end GCC
