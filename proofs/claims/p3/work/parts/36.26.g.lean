/-! the second checker: 26 -/
/-- one ending of a call: where it goes on; nothing, where the method's own ending takes it; none, where it can't be taken -/
def gck_res1 (tab : List ck_D) (E : ck_E) (M : ck_M) (Km : ck_Ct) (al : List (List ck_C × (Option ck_V ⊕ Nat))) (pc : Nat) (A : List (Nat × ck_V)) (rest : List ck_V) (T : List ck_C) (ce sl : Nat) (X : ck_Kt) (μ : List Nat) (a : List ck_C × (Option ck_V ⊕ Nat)) : Option (List ck_N) := match a.2 with
  | .inl r => some [(pc + 3, (A, ck_push (ck_f0 T μ) (ck_mu T μ a.1) r rest, ck_cpost tab (gk_w X.2.2) T μ a.1), ce + X.1.2.2.2.2.2.2.1, sl + X.1.2.2.2.2.2.2.2)]
  | .inr x => if M.2.2.2.2 = [] then (if al.any (fun b => ck_isx b.2 x && ck_leD Km.2.1.length (ck_cpost tab (gk_w X.2.2) T μ a.1) b.1) = true then some [] else none) else (match ck_fh (ck_xl E) pc x M.2.2.2.2 with
    | some h => if x < 3 then some [(h, (A, [.inr (.inr (4, 0))], ck_cpost tab (gk_w X.2.2) T μ a.1), ce + X.1.2.2.2.2.2.2.1, sl + X.1.2.2.2.2.2.2.2)] else none
    | none => none)
def gck_cal (E : ck_E) (tab : List ck_D) (ms : List ck_MM) (cts : List (Nat × ck_Kt)) (M : ck_M) (Km : ck_Ct) (al : List (List ck_C × (Option ck_V ⊕ Nat))) (wr : List Nat) (i : Instr) (n pc : Nat) (B : ck_A) (ce sl : Nat) : Option (List ck_N) := match ck_ivk i with
  | some (kd, idx) => (match ck_lk (ck_ml E) idx with
    | some mi => (match ms[mi]? with
      | some (M', kd', np, ci) => if n = 3 ∧ kd' = kd ∧ (ck_na kd np) ≤ B.2.1.length ∧ ck_rcv tab B.2.2 kd ci ((B.2.1.take (ck_na kd np)).reverse) = true then (match ck_cand Km wr B.2.2 ((B.2.1.take (ck_na kd np)).reverse) (B.2.1.drop (ck_na kd np)) M'.2.2.1 ce sl mi cts with
        | some (X, μ) => if ce = 0 ∨ X.2.2.all (fun c => decide (c < 2000)) = true then ck_resL (gck_res1 tab E M Km al pc B.1 (B.2.1.drop (ck_na kd np)) B.2.2 ce sl X μ) X.2.1 else none
        | none => none) else none
      | none => none)
    | none => none)
  | none => none
section CKCI
variable {p : Program} {l : Launch} {e : Env} {R : Room} {s : State} {m : MethodId} {args : Array Value} {below : List Frame} {meth : Method} {c : Code} {ce sl : Nat} {Q : State → Prop}
variable {pc nL : Nat} {nb : Nat × Nat} {al : List (List ck_C × (Option ck_V ⊕ Nat))} {D : va_G} {AC : Nat → ClassId} {S : Nat → Nat} {tab : List ck_D} {L : Heap} {ρ0 : Nat → Int} {wr : List Nat} {G0 : Nat → Nat} {N0 : List Nat} {H0 : Heap}
variable {B : ck_A} {M : ck_M} {K : ck_Ct} {E : ck_E} {ms : List ck_MM} {cts : List (Nat × ck_Kt)} {cod : List (List (Nat × Instr × Nat))}
theorem gcw_thr1 (hy : gck_Hy p l e R s m meth c M K E ms cts tab nb D AC S L cod) (hnl : nL = M.2.2.1) (hnp : N0.length = K.2.1.length) (hQ : ∀ t, gck_Fin D AC S tab L ρ0 wr G0 N0 K below s t → Q t) {i : Instr} {n : Nat} {X : List ck_N} (hd : decode M.2.1 pc = .ok (i, n)) (h : ck_thr1 E cod M K i n pc B ce sl = some X) :
    gck_W p l e R s m args below meth c Q D AC S tab L nL ρ0 wr G0 N0 s.heap pc B ce sl := by
  obtain ⟨⟨hexec, hb, hml, hret, hlk, hown, hhd, hnm⟩, htr, ⟨r1, r2, r3, r4⟩, ⟨nS, hn1, hn2, hKf⟩, hE, hEM, hms, hcts, hgl, hcod⟩ := hy
  obtain ⟨e1, e2, e3, e4, e5, e6, e7, e8, e9, e10, e11, e12⟩ := hE
  rw [← hEM] at hown
  refine gck_W.mono hQ ?_
  have hnil : M.2.2.2.2 = [] → c.exceptionTable.toList = [] := fun hz => by
    rw [hz] at hhd
    exact List.map_eq_nil_iff.mp hhd
  obtain ⟨A, st, T⟩ := B
  unfold ck_thr1 at h
  split at h
  · rename_i idx
    split at h
    · rename_i x hx
      obtain ⟨x1, x2, x3⟩ := e7 _ (ck_lk_mem hx)
      obtain ⟨g1, g2, g3, g4⟩ := hgl.1 x x2
      split at h
      · rename_i si hdup hldc
        split at h
        · rename_i ic hinv hath
          split at h
          · rename_i hc
            obtain ⟨rfl, c1, c2, c3, c4, c5, c6, c7, c8, c9, c10⟩ := hc
            obtain ⟨⟨o, si', tx⟩, s1, s2⟩ := List.any_eq_true.mp c2
            simp only [Bool.and_eq_true, beq_iff_eq] at s2
            obtain ⟨rfl, rfl⟩ := s2
            exact gcw_throw (ll := 2) hexec hb (hml.trans hnl.symm) hlk hown hKf htr g1 x1 g2 g3 s1 (e8 _ (ck_lk_mem c1)) hd (hcod _ _ _ hdup) (Or.inl ⟨hcod _ _ _ hldc, rfl⟩) (hcod _ _ _ hinv) (hcod _ _ _ hath) (hnil c3) (ck_isx_ok c4) hnp c5 c6 c7 r3 r4 (by omega) c9 (by dsimp only at c10; omega)
          · cases h
        · cases h
      · rename_i si hdup hldc
        split at h
        · rename_i ic hinv hath
          split at h
          · rename_i hc
            obtain ⟨rfl, c1, c2, c3, c4, c5, c6, c7, c8, c9, c10⟩ := hc
            obtain ⟨⟨o, si', tx⟩, s1, s2⟩ := List.any_eq_true.mp c2
            simp only [Bool.and_eq_true, beq_iff_eq] at s2
            obtain ⟨rfl, rfl⟩ := s2
            exact gcw_throw (ll := 3) hexec hb (hml.trans hnl.symm) hlk hown hKf htr g1 x1 g2 g3 s1 (e8 _ (ck_lk_mem c1)) hd (hcod _ _ _ hdup) (Or.inr ⟨hcod _ _ _ hldc, rfl⟩) (hcod _ _ _ hinv) (hcod _ _ _ hath) (hnil c3) (ck_isx_ok c4) hnp c5 c6 c7 r3 r4 (by omega) c9 (by dsimp only at c10; omega)
          · cases h
        · cases h
      · cases h
    · cases h
  · cases h
theorem gcw_thr (hy : gck_Hy p l e R s m meth c M K E ms cts tab nb D AC S L cod) (hnl : nL = M.2.2.1) (hnp : N0.length = K.2.1.length) {i : Instr} {n : Nat} {X : List ck_N} (hd : decode M.2.1 pc = .ok (i, n)) : ∀ {al : List (List ck_C × (Option ck_V ⊕ Nat))}, (∀ a ∈ al, ∀ t, gck_Fin D AC S tab L ρ0 wr G0 N0 (ck_alt K a) below s t → Q t) → ck_thr E cod M K i n pc B ce sl al = some X →
    gck_W p l e R s m args below meth c Q D AC S tab L nL ρ0 wr G0 N0 s.heap pc B ce sl
  | [], _, h => by cases h
  | a :: t, hQ, h => by
    unfold ck_thr at h
    split at h
    · rename_i Y hY
      exact gcw_thr1 (K := ck_alt K a) (cod := cod) hy hnl hnp (hQ a List.mem_cons_self) hd hY
    · exact gcw_thr hy hnl hnp hd (fun b hb => hQ b (List.mem_cons_of_mem _ hb)) h
theorem gcw_cal (hy : gck_Hy p l e R s m meth c M K E ms cts tab nb D AC S L cod) (hnl : nL = M.2.2.1) (hnp0 : N0.length = K.2.1.length) (hQ : ∀ a ∈ al, ∀ t, gck_Fin D AC S tab L ρ0 wr G0 N0 (ck_alt K a) below s t → Q t) {i : Instr} {n : Nat} {X : List ck_N} (hd : decode M.2.1 pc = .ok (i, n)) (h : gck_cal E tab ms cts M K al wr i n pc B ce sl = some X)
    (k : ∀ x ∈ X, gck_W p l e R s m args below meth c Q D AC S tab L nL ρ0 wr G0 N0 s.heap x.1 x.2.1 x.2.2.1 x.2.2.2) : gck_W p l e R s m args below meth c Q D AC S tab L nL ρ0 wr G0 N0 s.heap pc B ce sl := by
  obtain ⟨⟨hexec, hb, hml, hret, hlk, hown, hhd, hnm⟩, htr, ⟨r1, r2, r3, r4⟩, ⟨nS, hn1, hn2, hKf⟩, hE, hEM, hms, hcts, hgl, hcod⟩ := hy
  have hts : ∀ w ∈ ck_tb, w.before args s = true := hKf.ts
  obtain ⟨e1, e2, e3, e4, e5, e6, e7, e8, e9, e10, e11, e12⟩ := hE
  rw [← hEM] at hown
  have hnil : M.2.2.2.2 = [] → c.exceptionTable.toList = [] := fun hz => by
    rw [hz] at hhd
    exact List.map_eq_nil_iff.mp hhd
  obtain ⟨A, st, T⟩ := B
  unfold gck_cal at h
  split at h
  · rename_i kd idx hivk
    split at h
    · rename_i mi hmi
      split at h
      · rename_i M' kd' np ci hM
        split at h
        · rename_i hc
          obtain ⟨rfl, rfl, hna, hrcv⟩ := hc
          generalize hna' : ck_na kd' np = na at h hna hrcv
          dsimp only at h hna hrcv
          generalize hks : (st.take na).reverse = ks at h hrcv
          split at h
          · rename_i X' μ hcand
            split at h
            rotate_left
            · cases h
            rename_i hc0
            obtain ⟨hin, hchk⟩ := ck_cand_ok hcand
            obtain ⟨M2, hM2, hO⟩ := hcts _ hin
            cases hM.symm.trans hM2
            replace hO : gck_Ok l tab nb M' X' := hO
            obtain ⟨hcc, hpl, hnp, hnh, hkd⟩ := hms _ (List.mem_of_getElem? hM)
            obtain ⟨M3, hM3, hlink⟩ := e9 _ (ck_lk_mem hmi)
            cases hM.symm.trans hM3
            dsimp only at hcc hpl hnp hnh hkd hlink
            have hcode : (Cond.codeWith M'.1 M'.2.1 M'.2.2.1 M'.2.2.2.1 M'.2.2.2.2).before args s = true := by
              rcases hcc with ⟨z1, z2⟩ | z
              · rw [z1]; exact ck_codeW (hts _ z2)
              · exact hts _ z
            have hlk' : (Cond.methodLink E.1 idx M'.1).before args s = true ∨ ∃ host, (Cond.methodLinkNest E.1 idx M'.1 host).before args s = true := by
              rcases hlink with z | ⟨host, z⟩
              · exact Or.inl (hts _ z)
              · exact Or.inr ⟨host, hts _ z⟩
            unfold ck_chk at hchk
            simp only [Bool.and_eq_true, decide_eq_true_eq] at hchk
            obtain ⟨⟨⟨⟨⟨⟨⟨q6, q7⟩, q1⟩, q2⟩, q3⟩, q4⟩, q5⟩, q8⟩ := hchk
            have hst : st = ks.reverse ++ st.drop na := by
              rw [← hks, List.reverse_reverse, List.take_append_drop]
            have hkl : ks.length = na := by rw [← hks]; simp; omega
            have hinv : ∀ {U : State} {H : Heap} {ls : Array Slot} {vs rest : List Value} {locs : List Loc} {ρ : Nat → Int} {G : Nat → Nat} {N : List Nat}, U.heap = H → Stand p l e R s m args below meth c U locs ce sl → ck_H D AC S tab L ρ G N T H → ck_all (ck_R S ρ G N) ks vs → ck_Inv p l e R s m args below meth c locs ce sl U M'.1 (F0 m pc ls (vs.reverse ++ rest)) rest vs.toArray := by
              intro U H ls vs rest locs ρ G N hU X0 h4 hv
              match kd', hkd, hivk, hna', hrcv with
              | 0, hkd, hivk, hna', hrcv =>
                have hi : i = .invokestatic idx := by
                  unfold ck_ivk at hivk
                  split at hivk <;> cases hivk
                  rfl
                rw [hi] at hd
                exact ck_invS X0 hexec hown hcode hlk' (hts _ hkd.1) (hts _ hkd.2) hnh rfl hnp (by rw [← hv.1, hkl, ← hna']; rfl) rfl (by rw [hb]; exact hd)
              | 1, hkd, hivk, hna', hrcv =>
                have hi : i = .invokevirtual idx := by
                  unfold ck_ivk at hivk
                  split at hivk <;> cases hivk
                  rfl
                rw [hi] at hd
                match ks, hv, hkl, hrcv with
                | k0 :: ks', hv, hkl, hrcv =>
                  obtain ⟨v0, vs', rfl, w1, w2⟩ := hv.uncons
                  have hoc : ck_oc tab T k0 = some ci := by simpa [ck_rcv] using hrcv
                  obtain ⟨b, us, rfl, C, TT, hcl, cell, o1, o2⟩ := ck_obj h4 w1 (ck_oc_ok hoc)
                  obtain ⟨hk1, hk2, TT', n', hk3⟩ := hkd
                  cases hcl.symm.trans hk3
                  obtain ⟨hS, hfc, -⟩ := hKf.1.1 ci _ hcl
                  refine ck_invV (b := b) (cellB := cell) X0 hexec hown hcode hlk' (hts _ hk1) (hts _ hk2) hnh (by rw [hU]; exact o1) ?_ ?_ rfl hnp (argsL := vs') (by
                    have := w2.1
                    simp [ck_na] at hkl hna'
                    omega) (by simp [F0]) (by rw [hb]; exact hd)
                  · rw [o2.2.1]; rfl
                  · rw [o2.1]; exact hfc
              | kq + 2, hkd, hivk, hna', hrcv =>
                have hi : i = .invokespecial idx := by
                  unfold ck_ivk at hivk
                  split at hivk <;> cases hivk
                  rfl
                rw [hi] at hd
                match ks, hv, hkl, hrcv with
                | k0 :: ks', hv, hkl, hrcv =>
                  obtain ⟨v0, vs', rfl, w1, w2⟩ := hv.uncons
                  have hor : ∃ b, v0 = .ref b := by
                    refine ck_oref w1 ?_
                    unfold ck_rcv at hrcv
                    split at hrcv
                    · rename_i z; cases z
                    · omega
                    · rename_i z _ _; cases z; exact Or.inl ⟨_, rfl⟩
                    · rename_i z _ _; cases z; exact Or.inr ⟨_, rfl⟩
                    · cases hrcv
                  obtain ⟨b, rfl⟩ := hor
                  obtain ⟨hk1, hk2, hk3⟩ := hkd
                  exact ck_invI X0 hexec hown (hts _ hk3) hlk' (hts _ hk1) hk2 hnh rfl hnp (argsL := vs') (by
                    have := w2.1
                    simp [ck_na] at hkl hna'
                    omega) (by simp [F0]) (by rw [hb]; exact hd)
            rw [hst]
            refine gcw_callA (xl := ck_xl E) hO hn1 hn2 hexec hb (hml.trans hnl.symm) hlk hown hd hKf htr hcode hpl hinv (by omega) q2 (by omega) (by omega) (by omega) q7 q6 (fun τ hτ => by simpa using List.all_eq_true.mp q8 τ hτ) (hc0.imp id (fun z τ hτ => of_decide_eq_true (List.all_eq_true.mp z τ hτ))) e7 (fun a ha => ?_)
            obtain ⟨Y, hY, hsub⟩ := ck_resL_ok h a ha
            unfold gck_ends
            unfold gck_res1 at hY
            obtain ⟨post, res⟩ := a
            dsimp only at hY ⊢
            match res, hY with
            | .inl r, hY =>
              cases hY
              exact k _ (hsub _ (List.mem_singleton.mpr rfl))
            | .inr x, hY =>
              dsimp only at hY ⊢
              split at hY
              · rename_i hz
                split at hY
                · rename_i hx
                  obtain ⟨b, hb', hx⟩ := List.any_eq_true.mp hx
                  simp only [Bool.and_eq_true] at hx
                  exact Or.inl ⟨hnil hz, ck_alt K b, hQ b hb', hnp0, ck_isx_ok hx.1, hx.2, q4, q5⟩
                · cases hY
              · split at hY
                · rename_i hpc hfh
                  split at hY
                  · rename_i hx3
                    cases hY
                    exact Or.inr ⟨hpc, by rw [hhd]; exact hfh, hx3, (hgl.1 x hx3).2.2.2, k _ (hsub _ (List.mem_singleton.mpr rfl))⟩
                  · cases hY
                · cases hY
          · cases h
        · cases h
      · cases h
    · cases h
  · cases h
end CKCI
