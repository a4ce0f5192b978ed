/-! the second checker: 18 -/
/-! ===== throwing and catching ===== -/
section CKTH
variable {p : Program} {l : Launch} {e : Env} {R : Room} {s : State} {m : MethodId} {args : Array Value} {below : List Frame} {meth : Method} {c : Code} {T : State} {locs : List Loc} {cells slots : Nat}
end CKTH

section CKTN
variable {p : Program} {l : Launch} {e : Env} {R : Room} {s : State} {m : MethodId} {args : Array Value} {below : List Frame} {meth : Method} {c : Code} {cells slots : Nat} {Q : State → Prop}
variable {cc : ByteArray} {pc pc2 nL nS : Nat} {D : va_G} {AC : Nat → ClassId} {S : Nat → Nat} {tab : List ck_D} {L : Heap} {ρ0 : Nat → Int} {wr : List Nat} {G0 : Nat → Nat} {N0 : List Nat} {H0 : Heap}
variable {A : List (Nat × ck_V)} {st ks : List ck_V} {T : List ck_C} {K Km : ck_Ct} {M : ck_M} {μ : List Nat} {own : String}
/-- throw new X(".."), which nobody here catches -/
theorem gcw_throw {x idx ic si ll : Nat} {tx : String} (hexec : p.tables.exec = Jvm.exec) (hb : c.code = cc) (hml : c.maxLocals = nL) (hlk : meth.locks = false) (hown : s.vm.findClass own = some m.cls) (hKf : ck_Kf D AC S L s nS) (htr : e.platform.stackTraces = false)
    (hfit : Jvm.Bundle.fit (ck_xn x) = true) (hclk : Cond.classLink own idx (ck_xn x) ∈ ck_tb) (hini : Cond.initialized (ck_xn x) ∈ ck_tb) (hins : Cond.instantiable (ck_xn x) 6 ∈ ck_tb) (hstr : (own, si, tx) ∈ ck_strs) (hat : ∀ w ∈ Jvm.Bundle.ownAtoms own ic (ck_xn x) ck_up2, w ∈ ck_tb ∨ w ∈ ck_4)
    (hd0 : decode cc pc = .ok (.new idx, 3)) (hd1 : decode cc (pc + 3) = .ok (.dup, 1)) (hd2 : (decode cc (pc + 4) = .ok (.ldc si, 2) ∧ ll = 2) ∨ (decode cc (pc + 4) = .ok (.ldc_w si, 3) ∧ ll = 3)) (hd3 : decode cc (pc + 4 + ll) = .ok (.invokespecial ic, 3)) (hd4 : decode cc (pc + 4 + ll + 3) = .ok (.athrow, 1))
    (hhd : c.exceptionTable.toList = []) (hKm : Km.2.2.2.1 = .inr x) (hnp : N0.length = Km.2.1.length) (hle : ck_leD Km.2.1.length T Km.2.2.1 = true) (hc : cells + 1 ≤ Km.2.2.2.2.2.2.1) (hs : slots + 6 ≤ Km.2.2.2.2.2.2.2) (hRc : Km.2.2.2.2.2.2.1 ≤ R.cells) (hRs : Km.2.2.2.2.2.2.2 ≤ R.slots) (hRf : 6 ≤ R.frames) (hst : st.all ck_kn = true) (hRl : ck_words st + 82 ≤ R.locals) :
    gck_W p l e R s m args below meth c (gck_Fin D AC S tab L ρ0 wr G0 N0 Km below s) D AC S tab L nL ρ0 wr G0 N0 s.heap pc (A, st, T) cells slots := by
  unfold ck_leD at hle
  simp only [Bool.and_eq_true, decide_eq_true_eq] at hle
  obtain ⟨⟨⟨hT1, hT2⟩, hT3⟩, hle⟩ := hle
  intro H ls vs locs h U hU X
  obtain ⟨ρ, G, N, lv, h1, h2, h3, h4, h5, h6, h7⟩ := h
  have Y := ck_rebase X (by omega) (by omega)
  have hWs : s.WarmedH (U.setFrames (.invoking m args :: below)).vm := X.warmed
  have hK' := hKf.moved hWs
  have hown' : (U.setFrames (.invoking m args :: below)).vm.findClass own = some m.cls := by
    show U.vm.findClass own = some m.cls
    rw [X.warmed.alike.findClass]; exact hown
  have hts' : ∀ w ∈ ck_tb, w.before args (U.setFrames (.invoking m args :: below)) = true := hK'.ts
  have hlow : ∀ q, q < L.size → (U.setFrames (.invoking m args :: below)).heap[q]? = L[q]? := fun q hq => by
    show U.heap[q]? = L[q]?
    rw [hU]; exact h4.1.2.1 q hq
  obtain ⟨sa, hsa⟩ := hK'.2.2.2.2.2.2.2.2.2.1 _ hstr
  have hatoms : ∀ w ∈ Jvm.Bundle.ownAtoms own ic (ck_xn x) ck_up2, w.before args (U.setFrames (.invoking m args :: below)) = true := by
    intro w hw
    rcases hat w hw with z | z
    · exact hts' w z
    · have l1 := hK'.2.2.2.2.2.2.2.1
      have l2 := hK'.2.2.2.2.2.2.2.2.1
      simp only [ck_4, List.mem_cons, List.not_mem_nil, or_false] at z
      rcases z with rfl | rfl | rfl | rfl
      · exact l1.lays hlow
      · exact l2.lays hlow
      · exact l1.isref hlow
      · exact l2.isref hlow
  have w : W p l e { R with cells := R.cells - cells, slots := R.slots - slots } (U.setFrames (.invoking m args :: below)) m args below meth c H [] 0 0 (fun t => t.status = .running ∧ Ended t below (.threw H.size) ∧ (U.setFrames (.invoking m args :: below)).WarmedH t.vm ∧ (U.setFrames (.invoking m args :: below)).sameButNew ({ t with vm := (U.setFrames (.invoking m args :: below)).vm } : State) [] 1 6 ∧ ∃ ce, t.heap[H.size]? = some ce ∧ ce.vm.isStatics = false ∧ (U.setFrames (.invoking m args :: below)).vm.findClass (ck_xn x) = some ce.cls) (F0 m pc ls vs) := by
    refine W.newc hexec hb hown' (hts' _ hclk) (hts' _ hins) (hts' _ hini) rfl hd0 (by show 0 + 1 ≤ R.cells - cells; omega) (by show 0 + 6 ≤ R.slots - slots; omega) fun cC kC f1 f2 f3 f4 => ?_
    refine lv_dup hexec hb hd1 rfl ?_
    refine ck_ldcs hexec hb hown' hsa hd2 ?_
    intro V hV XV
    obtain ⟨p1, p2, p3⟩ := ck_push_other H { cls := cC, slots := kC.instanceTypes.map defaultValue, vm := .none }
    obtain ⟨t, t1, t2, t3, t4, t5, ce, t6, t7⟩ := XV.ctorThrowS hexec htr (own := own) (cls := ck_xn x) (names := ck_up2) (ic := ic) hown' hfit (by decide +kernel) hatoms (fun y hy => by cases hy) f1 f2 (a := H.size) (by rw [hV]; exact p1) (by show U.heap.size ≤ H.size; rw [hU]; exact Nat.le_refl _) (msg := .ref sa) rfl
      (g := F0 m (pc + 3 + 1 + ll) ls (.ref sa :: .ref H.size :: .ref H.size :: vs)) rfl (by rw [hml]; exact h1.1) rfl rfl (rest := vs) rfl (by rw [hb]; exact hd3) (by rw [hb]; exact hd4) (by rw [hhd]; intro y hy; cases hy) (by show 2 + 3 < R.frames; omega) (by
        show 2 * 0 + (1 + (vs.map fun v => v.category).sum) + (13 * (2 + 1) + 42) ≤ R.locals
        rw [ck_words_ok (st := st) h3 hst]
        omega) hlk
    exact ⟨t, t1, t2, t3, t4, t5, ce, t6, by rw [t7.vm]; rfl, t7.cls⟩
  obtain ⟨t, t1, t2, t3, t4, t5, ce, t6, t7, t8⟩ := w U hU Y
  have hUt : U.sameButNew ({ t with vm := U.vm } : State) [] 1 6 := by
    obtain ⟨e1, e2⟩ := t5
    refine ⟨?_, e2⟩
    rw [State.setFrames_setFrames] at e1
    exact e1
  have hsm : s.sameButNew ({ t with vm := s.vm } : State) (locs ++ []) (cells + 1) (slots + 6) := X.same.trans (hUt.setVm s.vm)
  have hold : ∀ q, q < H.size → t.heap[q]? = H[q]? := by
    intro q hq
    have hcq : (U.setFrames (.invoking m args :: below)).heap[q]? = some H[q] := by
      show U.heap[q]? = _
      rw [hU]; exact Array.getElem?_eq_getElem hq
    obtain ⟨c', d1, d2, d3, d4⟩ := t5.2.2.2.2.2 q H[q] hcq
    have d1 : t.heap[q]? = some c' := d1
    have : c'.slots = H[q].slots := by
      apply Array.ext_getElem? fun i => ?_
      exact d4 i (by simp)
    rw [d1, d2, this, Array.getElem?_eq_getElem hq]
  have hsz : H.size ≤ t.heap.size := by
    have := (Array.getElem?_eq_some_iff.mp t6).1
    omega
  refine ⟨t, t1, .threw H.size, t2, t3, State.WarmedH.trans X.warmed t4, ⟨locs, (by rw [List.append_nil] at hsm; exact hsm.weaken (fun y hy _ => hy) hc hs), h6⟩, ρ, G, N.take Km.2.2.1.length, ((h4.newMany hsz hold (fun _ _ => rfl) (fun q hq hne => absurd (h4.zero hq) hne)).dr hT3).leT hle, ((h5.new hsz hold (fun _ _ => rfl) ⟨[], by simp⟩ (fun i c a hc ha ho => Or.inl ⟨c, hc, ha, ho⟩) (fun q hq hr => absurd (h4.zero hq) hr)).dr (by omega)).leT hle, h7, ?_⟩
  rw [hKm]
  exact ⟨H.size, ce, rfl, t6, t7, by rw [← hWs.alike.findClass]; exact t8⟩
end CKTN
