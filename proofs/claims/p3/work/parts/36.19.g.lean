/-! the second checker: 19 -/
section CKCA
variable {p : Program} {l : Launch} {e : Env} {R : Room} {s : State} {m : MethodId} {args : Array Value} {below : List Frame} {meth : Method} {c : Code} {cells slots : Nat} {Q : State → Prop}
variable {cc : ByteArray} {pc pc2 nL nS : Nat} {D : va_G} {AC : Nat → ClassId} {S : Nat → Nat} {tab : List ck_D} {L : Heap} {ρ0 : Nat → Int} {wr : List Nat} {G0 : Nat → Nat} {N0 : List Nat} {H0 : Heap}
variable {A : List (Nat × ck_V)} {st ks : List ck_V} {T : List ck_C} {K Km : ck_Ct} {M : ck_M} {μ : List Nat} {own : String}
/-- a call: whatever ending it has -/
def gck_ends (p : Program) (l : Launch) (e : Env) (R : Room) (s : State) (m : MethodId) (args : Array Value) (below : List Frame) (meth : Method) (c : Code) (Q : State → Prop) (D : va_G) (AC : Nat → ClassId) (S : Nat → Nat) (tab : List ck_D) (L : Heap) (nL : Nat) (ρ0 : Nat → Int) (wr : List Nat) (G0 : Nat → Nat) (N0 : List Nat) (own : String) (xl : List (Nat × Nat)) (pc : Nat) (A : List (Nat × ck_V)) (st : List ck_V) (T : List ck_C) (cells slots : Nat) (X : ck_Kt) (μ : List Nat) (a : List ck_C × (Option ck_V ⊕ Nat)) : Prop :=
  match a.2 with
  | .inl r => gck_W p l e R s m args below meth c Q D AC S tab L nL ρ0 wr G0 N0 s.heap (pc + 3) (A, ck_push (ck_f0 T μ) (ck_mu T μ a.1) r st, ck_cpost tab (gk_w X.2.2) T μ a.1) (cells + X.1.2.2.2.2.2.2.1) (slots + X.1.2.2.2.2.2.2.2)
  | .inr x => (c.exceptionTable.toList = [] ∧ ∃ Km : ck_Ct, (∀ t, gck_Fin D AC S tab L ρ0 wr G0 N0 Km below s t → Q t) ∧ N0.length = Km.2.1.length ∧ Km.2.2.2.1 = .inr x ∧ ck_leD Km.2.1.length (ck_cpost tab (gk_w X.2.2) T μ a.1) Km.2.2.1 = true ∧ cells + X.1.2.2.2.2.2.2.1 ≤ Km.2.2.2.2.2.2.1 ∧ slots + X.1.2.2.2.2.2.2.2 ≤ Km.2.2.2.2.2.2.2) ∨
    (∃ hpc, ck_fh xl pc x (c.exceptionTable.toList.map (fun h => (h.startPc, h.endPc, h.handlerPc, h.catchType))) = some hpc ∧ x < 3 ∧ Cond.castable (ck_xn x) (ck_xn x) ∈ ck_tb ∧ gck_W p l e R s m args below meth c Q D AC S tab L nL ρ0 wr G0 N0 s.heap hpc (A, [.inr (.inr (4, 0))], ck_cpost tab (gk_w X.2.2) T μ a.1) (cells + X.1.2.2.2.2.2.2.1) (slots + X.1.2.2.2.2.2.2.2))
theorem gcw_callA {ig : Instr} {xl : List (Nat × Nat)} {nb : Nat × Nat} {X : ck_Kt} (hO : gck_Ok l tab nb M X) (hn1 : nb.1 ≤ nS) (hn2 : nS ≤ nb.2) (hexec : p.tables.exec = Jvm.exec) (hb : c.code = cc) (hml : c.maxLocals = nL) (hlk : meth.locks = false) (hown : s.vm.findClass own = some m.cls) (hd : decode cc pc = .ok (ig, 3)) (hKf : ck_Kf D AC S L s nS) (htr : e.platform.stackTraces = false) (hcode : (Cond.codeWith M.1 M.2.1 M.2.2.1 M.2.2.2.1 M.2.2.2.2).before args s = true) (hplain : plainName M.1.cls = true)
    (hinv : ∀ {U : State} {H : Heap} {ls : Array Slot} {vs rest : List Value} {locs : List Loc} {ρ : Nat → Int} {G : Nat → Nat} {N : List Nat}, U.heap = H → Stand p l e R s m args below meth c U locs cells slots → ck_H D AC S tab L ρ G N T H → ck_all (ck_R S ρ G N) ks vs → ck_Inv p l e R s m args below meth c locs cells slots U M.1 (F0 m pc ls (vs.reverse ++ rest)) rest vs.toArray)
    (hfr : X.1.2.2.2.2.1 + 1 ≤ R.frames) (hst : st.all ck_kn = true) (hlo : ck_words st + (M.2.2.1 + 11) + X.1.2.2.2.2.2.1 ≤ R.locals) (hce : cells + X.1.2.2.2.2.2.2.1 ≤ R.cells) (hsl : slots + X.1.2.2.2.2.2.2.2 ≤ R.slots) (hpre : ck_cpre T μ X.1.2.1 = true) (hargs : ck_cargs T μ ks X.1.1 = true) (hwr : ∀ τ ∈ X.2.2, τ ∈ wr) (hc0 : cells = 0 ∨ ∀ τ ∈ X.2.2, τ < 2000)
    (hxl : ∀ q ∈ xl, Cond.classLink own q.1 (ck_xn q.2) ∈ ck_tb ∧ q.2 < 3 ∧ q.1 ≠ 0)
    (kk : ∀ a ∈ X.2.1, gck_ends p l e R s m args below meth c Q D AC S tab L nL ρ0 wr G0 N0 own xl pc A st T cells slots X μ a) :
    gck_W p l e R s m args below meth c Q D AC S tab L nL ρ0 wr G0 N0 s.heap pc (A, ks.reverse ++ st, T) cells slots := by
  intro H ls vs locs h U hU Xs
  obtain ⟨ρ, G, N, lv, h1, h2, h3, h4, h5, h6, h7⟩ := h
  obtain ⟨va, rest, rfl, ha, hrest⟩ := ck_all.split h3
  have ha := ck_all.rev ha
  obtain ⟨ρ1, N1, e1, e2, e3, e4, e5, e6⟩ := h4.pre hpre
  have hv := ck_cargs_ok (ρ1 := ρ1) h4 (fun j i hj => (e1 j i hj).1) hargs ha
  have hi := hinv (ls := ls) (rest := rest) hU Xs h4 ha
  rw [List.reverse_reverse] at hi
  obtain ⟨U', Ls, o, V, al, hal, X', hLs, hWV, hps, hret, hthr⟩ := gck_call hO hn1 hn2 hi hexec rfl (by rw [hml]; exact h1.1) (ig := ig) (by rw [hb]; exact hd) hcode hplain htr hfr (by show 2 * 0 + _ + _ + _ ≤ _; rw [ck_words_ok hrest hst]; omega) hce hsl hKf rfl hv (by rw [hU]; exact e3)
  obtain ⟨ρ2, G2, N2, y1, y2, y3, y4⟩ := hps
  rw [hU] at y2
  have y1 : ck_H D AC S tab L ρ2 G2 N2 al.1 U'.heap := y1
  have y2 : gck_F X.2.2 G N1 H G2 N2 al.1 U'.heap := y2
  obtain ⟨N', ⟨Mm, hM⟩, z2, z3, z4, z5⟩ := h4.postg (wk := X.2.2) e1 e2 e5 e6 e4 y3 y1 y2
  have hL2 : ck_all (ck_RL S ρ G2 N') A lv := h2.mono fun q w _ hq => ⟨hq.1, by rw [hM]; exact (hq.2.grow z2).ext _⟩
  have hS2 : ck_all (ck_R S ρ G2 N') st rest := hrest.mono fun q w _ hq => by rw [hM]; exact (hq.grow z2).ext _
  have hlo2 : ∀ q ∈ locs ++ Ls, L.size ≤ q.base := fun q hq => by
    rcases List.mem_append.mp hq with z | z
    · exact h6 q z
    · exact hLs q z
  have hcz : (∃ c ∈ X.2.2, 2000 ≤ c) → H.size ≤ s.heap.size := fun ⟨c, hc, hl⟩ => by
    have hsz := Xs.same.2.2.1
    have hsz : H.size ≤ s.heap.size + cells := by subst hU; exact hsz
    rcases hc0 with z | z
    · omega
    · have := z c hc
      omega
  have hk := kk al hal
  have y4 : match al.2 with
    | .inl none => o = .returned none
    | .inl (some k) => ∃ w, o = .returned (some w) ∧ ck_R S ρ2 G2 N2 k w
    | .inr x => ∃ (a : Nat) (cell : Cell), o = .threw a ∧ U'.heap[a]? = some cell ∧ cell.vm.isStatics = false ∧ V.vm.findClass (ck_xn x) = some cell.cls := y4
  unfold gck_ends at hk
  obtain ⟨post, res⟩ := al
  dsimp only at hk y4 y1 y2 z3 z4 z5
  match res, hk, y4 with
  | .inl none, hk, y4 =>
    subst y4
    obtain ⟨t, a, b⟩ := hk U'.heap ls rest (locs ++ Ls) ⟨ρ, G2, N', lv, h1, hL2, hS2, z3, z5 hwr hcz h5, hlo2, h7⟩ U' rfl X'
    exact ⟨t, hret none rfl t a, b⟩
  | .inl (some k), hk, y4 =>
    obtain ⟨w, rfl, hw⟩ := y4
    obtain ⟨t, a, b⟩ := hk U'.heap ls (w :: rest) (locs ++ Ls) ⟨ρ, G2, N', lv, h1, hL2, ck_all.cons (z4 k w hw) hS2, z3, z5 hwr hcz h5, hlo2, h7⟩ U' rfl X'
    exact ⟨t, hret (some w) rfl t a, b⟩
  | .inr x, hk, y4 =>
    obtain ⟨ax, cell, rfl, q1, q2, q3⟩ := y4
    rcases hk with ⟨hhd, Km, hQ, hnp, hKm, hle, hc, hs⟩ | ⟨hpc, hfh, hx3, hcast, hk⟩
    · unfold ck_leD at hle
      simp only [Bool.and_eq_true, decide_eq_true_eq] at hle
      obtain ⟨⟨⟨hT1, hT2⟩, hT3⟩, hle⟩ := hle
      obtain ⟨st1, hrun, hend, hW, hsame⟩ := X'.leaveThrown ax (g := F0 m pc ls rest) rfl rfl rfl (by rw [hhd]; intro x hx; cases hx) hlk
      refine ⟨_, hthr ax rfl _ st1, hQ _ ⟨.threw ax, hrun, hend, hW, ⟨locs ++ Ls, hsame.weaken (fun y hy _ => hy) hc hs, hlo2⟩, ρ, G2, N'.take Km.2.2.1.length, (z3.dr hT3).leT hle, ((z5 hwr hcz h5).dr (by omega)).leT hle, h7, ?_⟩⟩
      rw [hKm]
      exact ⟨ax, cell, rfl, q1, q2, by rw [← hWV.alike.findClass]; exact q3⟩
    · have hcx : s.vm.findClass (ck_xn x) = some cell.cls := by rw [← hWV.alike.findClass]; exact q3
      have hpl : e.platform.magicAccessors = ({} : Platform).magicAccessors := by rw [Xs.admits.platform]
      obtain ⟨c3, c4, hc3, hc4, hasg⟩ := Cond.castable_spec (hKf.ts (args := args) _ hcast)
      cases hcx.symm.trans hc3
      cases hcx.symm.trans hc4
      obtain ⟨pre, y, rst, d1, d2, d3, d4, d5⟩ := ck_fh_ok hpl hown hKf hxl hx3 hcx hasg _ hfh
      obtain ⟨kx, hkx, -⟩ := Vm.findClass_spec hcx
      obtain ⟨vm', XV, stp⟩ := X'.caughtThrough ax (g := F0 m pc ls rest) rfl q1 q2 ⟨kx, hkx⟩ pre y rst d1 d2 d3 d4
      obtain ⟨t, a, b⟩ := hk U'.heap ls [.ref ax] (locs ++ Ls) ⟨ρ, G2, N', lv, h1, hL2, ck_all.cons ⟨ax, rfl⟩ ck_all.nil, z3, z5 hwr hcz h5, hlo2, h7⟩ (U'.setVm vm') rfl XV
      refine ⟨t, hthr ax rfl t ?_, b⟩
      rw [X'.pushThrowing_eq]
      refine stp t ?_
      rw [d5]
      exact a
theorem gcw_tagL {B : ck_A} (hA : B.1.all (fun q => !ck_lowg q.2 && decide (q.1 < 100)) = true) (hS : B.2.1.all (fun v => !ck_lowg v) = true) (hT : B.2.2.all (fun d => d.2.all (fun v => !ck_lowg v)) = true)
    (kk : gck_W p l e R s m args below meth c Q D AC S tab L nL ρ0 wr G0 N0 H0 pc (ck_tagL B.1, B.2.1, B.2.2) cells slots) : gck_W p l e R s m args below meth c Q D AC S tab L nL ρ0 wr G0 N0 H0 pc B cells slots := by
  intro H ls vs locs h
  obtain ⟨ρ, G, N, lv, h1, h2, h3, h4, h5, h6, h7⟩ := h
  have hg : ∀ {k : ck_V} {v : Value}, ck_lowg k = false → ck_R S ρ G N k v → ck_R S (fun g => if g < 100 then ck_iv (match ls[g]? with | some (.val w) => some w | _ => none) else ρ g) G N k v := by
    intro k v hk h
    match k, hk, h with
    | .inl (a, b, none), _, h =>
      obtain ⟨x, e, x1, x2, -⟩ := h
      exact ⟨x, e, x1, x2, fun g c q => by cases q⟩
    | .inl (a, b, some (t, n)), hk, h =>
      obtain ⟨x, e, x1, x2, x3⟩ := h
      refine ⟨x, e, x1, x2, fun g' c' q => ?_⟩
      cases q
      have hne : ¬ t < 100 := by simpa [ck_lowg] using hk
      show x.toInt = (if t < 100 then _ else ρ t) + n
      rw [if_neg hne]
      exact x3 t n rfl
    | .inr (.inl q), _, h => exact h
    | .inr (.inr (0, _)), _, h => exact h
    | .inr (.inr (1, i)), _, h => exact h
    | .inr (.inr (2, τ)), _, h => exact h
    | .inr (.inr (3, j)), _, h => exact h
    | .inr (.inr (4, _)), _, h => exact h
    | .inr (.inr (n + 5, _)), _, h => exact h
  refine kk H ls vs locs ⟨fun g => if g < 100 then ck_iv (match ls[g]? with | some (.val w) => some w | _ => none) else ρ g, G, N, lv, h1, ?_, h3.mono (fun k v hk h => hg (by simpa using List.all_eq_true.mp hS k hk) h), ⟨h4.1, h4.2.1, fun i d a hi ha => ?_, h4.2.2.2⟩, h5, h6, fun g g1 g2 => ?_⟩
  · refine ⟨by simp [ck_tagL, h2.1], fun i q w hq hw => ?_⟩
    simp only [ck_tagL, List.getElem?_map] at hq
    obtain ⟨q0, hq0, rfl⟩ := Option.map_eq_some_iff.mp hq
    obtain ⟨r1, r2⟩ := h2.2 i q0 w hq0 hw
    have hm := List.all_eq_true.mp hA q0 (List.mem_of_getElem? hq0)
    simp only [Bool.and_eq_true, Bool.not_eq_true', decide_eq_true_eq] at hm
    refine ⟨r1, ?_⟩
    have hslot : ls[q0.1]? = some (.val w.2) := by rw [r1]; exact h1.2.2 w (List.mem_of_getElem? hw)
    obtain ⟨i0, k0⟩ := q0
    dsimp only at hm r2 hslot ⊢
    match k0, r2, hm with
    | .inl (lo, hi, none), r2, hm =>
      obtain ⟨x, ex, x1, x2, -⟩ := r2
      refine ⟨x, ex, x1, x2, fun g c hgc => ?_⟩
      cases hgc
      show x.toInt = (if i0 < 100 then ck_iv (match ls[i0]? with | some (.val w) => some w | _ => none) else ρ i0) + 0
      rw [if_pos hm.2, hslot]
      show x.toInt = ck_iv (some w.2) + 0
      rw [ex]
      show x.toInt = x.toInt + 0
      omega
    | .inl (lo, hi, some t), r2, hm => exact hg hm.1 r2
    | .inr z, r2, hm => exact hg hm.1 r2
  · have hd := List.all_eq_true.mp hT d (List.mem_of_getElem? hi)
    have := (h4.2.2.1 i d a hi ha).mapV (ρ' := fun g => if g < 100 then ck_iv (match ls[g]? with | some (.val w) => some w | _ => none) else ρ g) (G' := G) (N' := N) id (fun _ => rfl) (fun _ => rfl) (fun k v hk hv => hg (by simpa using List.all_eq_true.mp hd k hk) hv)
    simpa using this
  · show (if g < 100 then _ else ρ g) = ρ0 g
    rw [if_neg (by omega)]
    exact h7 g g1 g2
/-- a method is checked from its beginning -/
theorem gcw_entry (hml : c.maxLocals = M.2.2.1) {vs : List Value} (hargs : args = vs.toArray) (hv : ck_all (ck_R S ρ0 G0 N0) K.1 vs) (hH : ck_H D AC S tab L ρ0 G0 N0 (ck_etag K.2.1) s.heap) (hkn : K.1.all ck_kn = true) (hlen : ck_words K.1 ≤ M.2.2.1)
    (kk : gck_W p l e R s m args below meth c Q D AC S tab L M.2.2.1 ρ0 wr G0 N0 s.heap 0 (ck_largs 0 K.1, [], ck_etag K.2.1) 0 0) : W p l e R s m args below meth c s.heap [] 0 0 Q (entryFrame m args M.2.2.1) := by
  subst hargs
  have hw : (lg_sl vs).length = (vs.map fun v => v.category).sum := by
    clear hv hH kk
    induction vs with
    | nil => rfl
    | cons v t ih =>
      have h12 := lv_cat v
      simp only [lg_sl, List.flatMap_cons, List.length_append, List.map_cons, List.sum_cons] at ih ⊢
      rw [ih]
      congr 1
      rcases h12 with z | z <;> simp [z]
  have hl := lv_entry vs (n := M.2.2.1) (by rw [hw, ck_words_ok hv hkn]; exact hlen)
  rw [lg_entry_eq]
  refine kk s.heap _ [] [] ⟨ρ0, G0, N0, _, hl, ck_largs_ok 0 hv hkn, ck_all.nil, hH, ⟨⟨Nat.le_refl _, fun _ _ => rfl, fun _ _ _ => rfl, Nat.le_refl _, fun _ _ => rfl, fun i d a hi ha ho hn => ?_⟩, fun _ _ _ _ _ _ => rfl, fun q hq hr => absurd (hH.zero hq) hr⟩, fun q hq => (by cases hq), fun _ _ _ => rfl⟩
  have h9 := (List.getElem?_eq_some_iff.mp ha).1
  omega
end CKCA
