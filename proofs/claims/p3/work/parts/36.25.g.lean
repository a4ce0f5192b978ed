/-! the second checker: 25 -/
section CKFL
variable {p : Program} {l : Launch} {e : Env} {R : Room} {s : State} {m : MethodId} {args : Array Value} {below : List Frame} {meth : Method} {c : Code} {ce sl : Nat} {Q : State → Prop}
variable {pc nL : Nat} {nb : Nat × Nat} {al : List (List ck_C × (Option ck_V ⊕ Nat))} {D : va_G} {AC : Nat → ClassId} {S : Nat → Nat} {tab : List ck_D} {L : Heap} {ρ0 : Nat → Int} {wr : List Nat} {G0 : Nat → Nat} {N0 : List Nat} {H0 : Heap}
variable {B : ck_A} {M : ck_M} {K : ck_Ct} {E : ck_E} {ms : List ck_MM} {cts : List (Nat × ck_Kt)} {cod : List (List (Nat × Instr × Nat))}
theorem gcw_br (hy : gck_Hy p l e R s m meth c M K E ms cts tab nb D AC S L cod) {i : Instr} {n : Nat} {X : List ck_N} (hd : decode M.2.1 pc = .ok (i, n)) (h : ck_br nL i n pc B ce sl = some X)
    (k : ∀ x ∈ X, gck_W p l e R s m args below meth c Q D AC S tab L nL ρ0 wr G0 N0 H0 x.1 x.2.1 x.2.2.1 x.2.2.2) : gck_W p l e R s m args below meth c Q D AC S tab L nL ρ0 wr G0 N0 H0 pc B ce sl := by
  obtain ⟨⟨hexec, hb, hml, hret, hlk, hown, hhd, hnm⟩, -⟩ := hy
  have oin : ∀ {α β : Type} {o : Option α} {f : α → β} {a : α}, o = some a → f a ∈ ck_opt o f := by
    intro α β o f a ho
    rw [ho]
    exact List.mem_singleton.mpr rfl
  unfold ck_br at h
  split at h
  · split at h
    · rename_i hn
      subst hn
      split at h
      · rename_i t ht
        cases h
        exact gcw_goto hexec hb hd (ck_tgt_ok ht) (k _ (List.mem_singleton.mpr rfl))
      · cases h
    · cases h
  · split at h
    · rename_i hn
      subst hn
      split at h
      · rename_i t ht
        cases h
        exact gcw_ifc hexec hb hd (ck_tgt_ok ht) (fun r hr => k _ (List.mem_append_left _ (oin hr))) (fun r hr => k _ (List.mem_append_right _ (oin hr)))
      · cases h
    · cases h
  · split at h
    · rename_i hn
      subst hn
      split at h
      · rename_i t ht
        cases h
        exact gcw_icmp hexec hb hd (ck_tgt_ok ht) (fun r hr => k _ (List.mem_append_left _ (oin hr))) (fun r hr => k _ (List.mem_append_right _ (oin hr)))
      · cases h
    · cases h
  · split at h
    · rename_i q hq
      split at h
      · rename_i hc
        obtain ⟨rfl, c1, c2, c3, c4⟩ := hc
        cases h
        exact gcw_iinc hexec hb hd hq c1 c2 (ck_ofInt c3 c4) (k _ (List.mem_singleton.mpr rfl))
      · cases h
    · cases h
  · rename_i d lo hi offs A a st T
    split at h
    · rename_i td htd
      split at h
      · rename_i hall
        cases h
        refine gcw_table hexec hb hd (ck_tgt_ok htd) (ck_swT pc offs) (fun i hi' => ?_) (fun i hi' h1 h2 => k _ (List.mem_append_left _ (List.mem_map.mpr ⟨i, List.mem_filter.mpr ⟨List.mem_range.mpr hi', by simp [h1, h2]⟩, rfl⟩))) (fun ho => k _ (List.mem_append_right _ (by rw [if_pos ho]; exact List.mem_singleton.mpr rfl)))
        have := List.all_eq_true.mp hall i (List.mem_range.mpr hi')
        unfold ck_sw at this
        unfold ck_swT
        split at this
        · rename_i off ho
          have := of_decide_eq_true this
          exact ⟨off, ho, by omega⟩
        · cases this
      · cases h
    · cases h
  · cases h
theorem gck_W.mono {Q' : State → Prop} (hQ : ∀ t, Q t → Q' t) (h : gck_W p l e R s m args below meth c Q D AC S tab L nL ρ0 wr G0 N0 H0 pc B ce sl) : gck_W p l e R s m args below meth c Q' D AC S tab L nL ρ0 wr G0 N0 H0 pc B ce sl :=
  fun H ls st locs hs => ck_mono hQ (h H ls st locs hs)
theorem gcw_rt1 (hy : gck_Hy p l e R s m meth c M K E ms cts tab nb D AC S L cod) {K' : ck_Ct} (hnp : N0.length = K'.2.1.length) {i : Instr} {n : Nat} (hd : decode M.2.1 pc = .ok (i, n)) (h : ck_rt1 M K' i n B ce sl = true) (hQ : ∀ t, gck_Fin D AC S tab L ρ0 wr G0 N0 K' below s t → Q t) : gck_W p l e R s m args below meth c Q D AC S tab L nL ρ0 wr G0 N0 s.heap pc B ce sl := by
  obtain ⟨⟨hexec, hb, hml, hret, hlk, hown, hhd, hnm⟩, -⟩ := hy
  unfold ck_rt1 at h
  simp only [Bool.and_eq_true, decide_eq_true_eq] at h
  obtain ⟨⟨⟨⟨rfl, hT⟩, hc⟩, hs⟩, hm⟩ := h
  obtain ⟨A, st, T⟩ := B
  refine gck_W.mono hQ ?_
  dsimp only at hm hT
  split at hm
  · rename_i hr ht
    exact gcw_vret hexec hb hlk (hret.trans ht) hr hnp hT hc hs hd
  · rename_i q r ty hr ht
    simp only [Bool.and_eq_true] at hm
    exact gcw_iret hexec hb hlk (hret.trans ht) hm.1.1 hr hm.1.2 hm.2 hnp hT hc hs hd
  · rename_i q r hr ht
    simp only [Bool.and_eq_true] at hm
    exact gcw_lret hexec hb hlk (hret.trans ht) hr hm.1 hm.2 hnp hT hc hs hd
  · rename_i v r o hr ht
    simp only [Bool.and_eq_true] at hm
    exact gcw_aret hexec hb hlk (hret.trans ht) (Or.inl ⟨_, rfl⟩) hm.1.1 hr hm.1.2 hm.2 hnp hT hc hs hd
  · rename_i v r o hr ht
    simp only [Bool.and_eq_true] at hm
    exact gcw_aret hexec hb hlk (hret.trans ht) (Or.inr ⟨_, rfl⟩) hm.1.1 hr hm.1.2 hm.2 hnp hT hc hs hd
  · cases hm
theorem gcw_rt (hy : gck_Hy p l e R s m meth c M K E ms cts tab nb D AC S L cod) (hnp : N0.length = K.2.1.length) {i : Instr} {n : Nat} (hd : decode M.2.1 pc = .ok (i, n)) (h : ck_rt M K al i n B ce sl = true) (hQ : ∀ a ∈ al, ∀ t, gck_Fin D AC S tab L ρ0 wr G0 N0 (ck_alt K a) below s t → Q t) : gck_W p l e R s m args below meth c Q D AC S tab L nL ρ0 wr G0 N0 s.heap pc B ce sl := by
  unfold ck_rt at h
  obtain ⟨a, ha, h⟩ := List.any_eq_true.mp h
  exact gcw_rt1 hy (K' := ck_alt K a) hnp hd h (hQ a ha)
theorem gcw_cpy (hy : gck_Hy p l e R s m meth c M K E ms cts tab nb D AC S L cod) (hnl : nL = M.2.2.1) {i : Instr} {n : Nat} {X : List ck_N} (hd : decode M.2.1 pc = .ok (i, n)) (h : ck_cpy E tab wr K i n pc B ce sl = some X)
    (k : ∀ x ∈ X, gck_W p l e R s m args below meth c Q D AC S tab L nL ρ0 wr G0 N0 H0 x.1 x.2.1 x.2.2.1 x.2.2.2) : gck_W p l e R s m args below meth c Q D AC S tab L nL ρ0 wr G0 N0 H0 pc B ce sl := by
  obtain ⟨⟨hexec, hb, hml, hret, hlk, hown, hhd, hnm⟩, htr, ⟨r1, r2, r3, r4⟩, ⟨nS, hn1, hn2, hKf⟩, hE, hEM, hms, hcts, hgl, hcod⟩ := hy
  have hts : ∀ w ∈ ck_tb, w.before args s = true := hKf.ts
  obtain ⟨e1, e2, e3, e4, e5, e6, e7, e8, e9, e10, e11, e12⟩ := hE
  rw [← hEM] at hown
  unfold ck_cpy at h
  split at h
  · rename_i idx A qn qd τ qs v st T
    split at h
    · rename_i ac n1 sg kk dp sp hτ h1 h2 h3
      split at h
      · rename_i n0 sg0 hsrc
        split at h
        · rename_i hc
          obtain ⟨rfl, c1, c2, c3, c4, c5, c8, c9, c10, c11, c12⟩ := hc
          cases h
          have hty : ∃ ty, ck_tyK ac = some ty := by
            rcases c2 with rfl | rfl
            · exact ⟨_, rfl⟩
            · exact ⟨_, rfl⟩
          obtain ⟨ty, hty⟩ := hty
          have hw : nativeFrameWords "java/lang/System" "arraycopy" 5 = 7 := by decide +kernel
          have hcp : ∀ j, j < kk → ck_plain (ck_kat sg0 (sp + j)) = true ∧ ck_prim ac (ck_kat sg0 (sp + j)) = true ∧ ck_le (ck_kat sg0 (sp + j)) (ck_kat sg (dp + j)) = true := fun j hj => by
            have := List.all_eq_true.mp c3 j (List.mem_range.mpr hj)
            unfold ck_cpj at this
            simp only [Bool.and_eq_true] at this
            exact ⟨this.1.1, this.1.2, this.2⟩
          have main : gck_W p l e R s m args below meth c Q D AC S tab L nL ρ0 wr G0 N0 H0 pc (A, .inl qn :: .inl qd :: .inr (.inr (2, τ)) :: .inl qs :: ck_unf T v :: st, T) ce sl := by
            refine gcw_copy hexec hb hown hKf.1 (hts _ (e10 _ (by simpa using c1))) (hts _ hgl.2.2.2.1) (hts _ hgl.2.2.2.2.1) (hts _ hgl.2.2.2.2.2.1) (hml.trans hnl.symm) hty c2 hτ hcp (by simpa using c4) (ck_nof_ok c5) ?_ c8 c9 (ck_one_ok h3) (ck_one_ok h2) (ck_one_ok h1) c10 (by omega) (by rw [hw]; omega) hd (k _ (List.mem_singleton.mpr rfl))
            unfold ck_csrc at hsrc
            split at hsrc
            · rename_i σ hv
              split at hsrc
              · rename_i ac' n0' sg0' hσ
                split at hsrc
                · rename_i e
                  subst e
                  cases hsrc
                  exact Or.inl ⟨_, hv, hσ⟩
                · cases hsrc
              · cases hsrc
            · rename_i j hv
              split at hsrc
              · rename_i hj
                cases hsrc
                have hs := hKf.sta (show j < 3 by omega)
                have e : ck_slen nS j = ck_sl2 j := by
                  unfold ck_slen ck_sl2
                  split
                  · rfl
                  · rw [if_pos (by omega)]
                rw [e] at hs
                exact Or.inr ⟨j, hv, hj.1, hs, rfl⟩
              · cases hsrc
            · cases hsrc
          intro H ls vs locs hh
          obtain ⟨ρ, G, N, lv, h1, h2, h3, h4, h5, h6, h7⟩ := hh
          obtain ⟨v1, _, rfl, w1, g1⟩ := h3.uncons
          obtain ⟨v2, _, rfl, w2, g2⟩ := g1.uncons
          obtain ⟨v3, _, rfl, w3, g3⟩ := g2.uncons
          obtain ⟨v4, _, rfl, w4, g4⟩ := g3.uncons
          obtain ⟨v5, _, rfl, w5, g5⟩ := g4.uncons
          exact main H ls _ locs ⟨ρ, G, N, lv, h1, h2, ck_all.cons w1 (ck_all.cons w2 (ck_all.cons w3 (ck_all.cons w4 (ck_all.cons (ck_unf_ok h4 w5) g5)))), h4, h5, h6, h7⟩
        · cases h
      · cases h
    · cases h
  · cases h
theorem gcw_obi (hy : gck_Hy p l e R s m meth c M K E ms cts tab nb D AC S L cod) (hnl : nL = M.2.2.1) {i : Instr} {n : Nat} {X : List ck_N} (hd : decode M.2.1 pc = .ok (i, n)) (h : ck_obi E K i n pc B ce sl = some X)
    (k : ∀ x ∈ X, gck_W p l e R s m args below meth c Q D AC S tab L nL ρ0 wr G0 N0 H0 x.1 x.2.1 x.2.2.1 x.2.2.2) : gck_W p l e R s m args below meth c Q D AC S tab L nL ρ0 wr G0 N0 H0 pc B ce sl := by
  obtain ⟨⟨hexec, hb, hml, hret, hlk, hown, hhd, hnm⟩, htr, ⟨r1, r2, r3, r4⟩, ⟨nS, hn1, hn2, hKf⟩, hE, hEM, hms, hcts, hgl, hcod⟩ := hy
  have hts : ∀ w ∈ ck_tb, w.before args s = true := hKf.ts
  obtain ⟨e1, e2, e3, e4, e5, e6, e7, e8, e9, e10, e11, e12⟩ := hE
  rw [← hEM] at hown
  unfold ck_obi at h
  split at h
  · rename_i idx A z y st T
    split at h
    · rename_i hc
      obtain ⟨rfl, c1, c2, c3, c4, c5⟩ := hc
      cases h
      intro H ls vs locs hh
      obtain ⟨ρ, G, N, lv, h1, h2, h3, h4, h5, h6, h7⟩ := hh
      obtain ⟨v0, vs', rfl, w1, w2⟩ := h3.uncons
      have hor : ∃ b, v0 = .ref b := by
        rcases c2 with rfl | rfl
        · obtain ⟨a, -, rfl⟩ := w1
          exact ⟨a, rfl⟩
        · obtain ⟨a, rfl, -⟩ := w1
          exact ⟨a, rfl⟩
      obtain ⟨b, rfl⟩ := hor
      refine W.objInit hexec hb hown (hts _ (e12 _ (by simpa using c1))) (hts _ hgl.2.2.2.2.2.2.1) (hts _ hgl.2.2.2.2.2.2.2) rfl ?_ rfl hd (by omega) ?_ (k _ (List.mem_singleton.mpr rfl) H ls vs' locs ⟨ρ, G, N, lv, h1, h2, w2, h4, h5, h6, h7⟩)
      · show ls.size = c.maxLocals
        rw [h1.1, hml]
        exact hnl
      · have hw := ck_words_ok w2 c3
        have hmr : (F0 m pc ls (Value.ref b :: vs')).monitorRoom = 0 := rfl
        rw [hmr, hw]
        omega
    · cases h
  · cases h
end CKFL
