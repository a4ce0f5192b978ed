/-! ===== exact runs: a step, a run, a method ===== -/
def xk_rcv (T : List xk_C) (kd ci : Nat) (ks : List xk_V) : Bool := match kd, ks with
  | 0, _ => true
  | 1, (2, (a, _)) :: _ => (match T[a]? with
    | some ((0, cj), _) => cj == ci
    | _ => false)
  | _, _ => false
theorem xk_rcv1 {T : List xk_C} {ci : Nat} {ks : List xk_V} (h : xk_rcv T 1 ci ks = true) : ∃ (a : Nat) (z : Int) (ks' fs : List xk_V), ks = (2, a, z) :: ks' ∧ T[a]? = some ((0, ci), fs) := by
  match ks, h with
  | [], h => simp [xk_rcv] at h
  | (0, _, _) :: _, h => simp [xk_rcv] at h
  | (1, _, _) :: _, h => simp [xk_rcv] at h
  | (2, a, z) :: t, h =>
    have h : (match T[a]? with | some ((0, cj), _) => cj == ci | _ => false) = true := h
    split at h
    · rename_i cj fs hT
      have e := beq_iff_eq.mp h
      subst e
      exact ⟨a, z, t, fs, rfl, hT⟩
    · cases h
  | (n + 3, _, _) :: _, h => simp [xk_rcv] at h
theorem xk_rcv2 {T : List xk_C} {k ci : Nat} {ks : List xk_V} (h : xk_rcv T (k + 2) ci ks = true) : False := by
  simp [xk_rcv] at h
/-- a number in the receiver's cell tells at once whether a contract may fit -/
def xk_kc (T : List xk_C) (ks : List xk_V) (ky : Nat × Int) : Bool := if ky.1 = 99 then true else (match ks with
  | (2, (a, _)) :: _ => (match T[a]? with
    | some (_, fs) => (match fs[ky.1]? with
      | some (0, 0, v) => decide (v = ky.2)
      | _ => false)
    | none => false)
  | _ => false)
abbrev xk_Q : Type := Nat × (Nat × Int) × xk_K
def xk_wo (st : List xk_V) : Nat := (st.map fun v => if v.1 == 1 then 2 else 1).sum
def xk_cand (fr lo : Nat) (T : List xk_C) (ks rest : List xk_V) (mx mi : Nat) : List xk_Q → Option (xk_K × List Nat × List xk_O)
  | [] => none
  | (mj, ky, K) :: t => if mj == mi && xk_kc T ks ky then (match xk_ms T ks K (xk_mu T ks K) with
    | some σ => if σ.length = K.2.2.2.2.1.2.1 ∧ (xk_mu T ks K).Nodup ∧ K.2.2.2.2.2.1 + 1 ≤ fr ∧ xk_wo rest + (mx + 11) + K.2.2.2.2.2.2 ≤ lo then some (K, xk_mu T ks K, σ) else xk_cand fr lo T ks rest mx mi t
    | none => xk_cand fr lo T ks rest mx mi t) else xk_cand fr lo T ks rest mx mi t
theorem xk_cand_ok {fr lo : Nat} {T : List xk_C} {ks rest : List xk_V} {mx mi : Nat} {K : xk_K} {μ : List Nat} {σ : List xk_O} : ∀ {cts : List xk_Q}, xk_cand fr lo T ks rest mx mi cts = some (K, μ, σ) → (∃ ky, (mi, ky, K) ∈ cts) ∧ xk_ch T ks K μ σ ∧ K.2.2.2.2.2.1 + 1 ≤ fr ∧ xk_wo rest + (mx + 11) + K.2.2.2.2.2.2 ≤ lo
  | [], h => by cases h
  | (mj, ky, K') :: t, h => by
    have go : xk_cand fr lo T ks rest mx mi t = some (K, μ, σ) → (∃ ky', (mi, ky', K) ∈ (mj, ky, K') :: t) ∧ xk_ch T ks K μ σ ∧ K.2.2.2.2.2.1 + 1 ≤ fr ∧ xk_wo rest + (mx + 11) + K.2.2.2.2.2.2 ≤ lo := fun h => by
      obtain ⟨⟨ky', a⟩, b⟩ := xk_cand_ok h
      exact ⟨⟨ky', List.mem_cons_of_mem _ a⟩, b⟩
    unfold xk_cand at h
    split at h
    · rename_i hc
      simp only [Bool.and_eq_true, beq_iff_eq] at hc
      split at h
      · rename_i σ' hσ
        split at h
        · rename_i hd
          cases h
          exact ⟨⟨ky, by rw [hc.1]; exact List.mem_cons_self⟩, ⟨hσ, hd.1, hd.2.1⟩, hd.2.2.1, hd.2.2.2⟩
        · exact go h
      · exact go h
    · exact go h
def xk_grp (i : Instr) : Nat := match i with
  | .iconst _ => 0
  | .bipush _ => 0
  | .sipush _ => 0
  | .ldc _ => 0
  | .ldc2_w _ => 0
  | .lconst _ => 0
  | .iload _ => 0
  | .iload_n _ => 0
  | .lload _ => 0
  | .lload_n _ => 0
  | .aload _ => 0
  | .aload_n _ => 0
  | .istore _ => 1
  | .istore_n _ => 1
  | .lstore _ => 1
  | .lstore_n _ => 1
  | .astore _ => 1
  | .astore_n _ => 1
  | .dup => 2
  | .dup2 => 2
  | .pop => 2
  | .i2l => 2
  | .iaload => 4
  | .laload => 4
  | .aaload => 4
  | .iastore => 5
  | .lastore => 5
  | .goto _ => 6
  | .ifCond _ _ => 6
  | .if_icmp _ _ => 6
  | .iinc _ _ => 6
  | .getfield _ => 7
  | .putfield _ => 8
  | .getstatic _ => 9
  | .invokestatic _ => 10
  | .invokevirtual _ => 10
  | _ => 3
section XKST
variable (E : ck_E) (ms : List ck_MM) (cts : List xk_Q) (cod : List (List (Nat × Instr × Nat))) (nL fr lo : Nat) (nm : String) (wd : Nat → Nat)
def xk_cal (i : Instr) (n : Nat) (x : xk_X) : Option xk_X := match ck_ivk i with
  | some (kd, idx) => (match ck_lk (ck_ml E) idx with
    | some mi => (match ms[mi]? with
      | some (M', kd', np, ci) => if n = 3 ∧ kd' = kd ∧ (ck_na kd np) ≤ x.2.2.1.length ∧ xk_rcv x.2.2.2.1 kd ci ((x.2.2.1.take (ck_na kd np)).reverse) = true ∧ (x.2.2.1.drop (ck_na kd np)).all xk_kn = true then (match xk_cand fr lo x.2.2.2.1 ((x.2.2.1.take (ck_na kd np)).reverse) (x.2.2.1.drop (ck_na kd np)) M'.2.2.1 mi cts with
        | some (K, μ, σ) => some (x.1 + 3, x.2.1, (K.2.2.1.map (xk_po x.2.2.2.1 μ σ K.2.2.2.2.1.2.1 x.2.2.2.2.2)).toList ++ x.2.2.1.drop (ck_na kd np), xk_T2 x.2.2.2.1 μ K.2.1 K.2.2.2.1 (xk_po x.2.2.2.1 μ σ K.2.2.2.2.1.2.1 x.2.2.2.2.2), if wd K.2.2.2.2.1.1 = 0 then x.2.2.2.2.1 else (x.2.2.2.2.2, 1000 + K.2.2.2.2.1.1, xk_ag σ K.2.2.2.2.1.2.2) :: x.2.2.2.2.1, x.2.2.2.2.2 + wd K.2.2.2.2.1.1)
        | none => none) else none
      | none => none)
    | none => none)
  | none => none
def xk_stp (x : xk_X) : Option xk_X := match ck_cdAt cod x.1 with
  | none => none
  | some (i, n) => (match xk_grp i with
    | 0 => (match xk_psh (ck_kl E) (ck_jl E) x.2.1 i n with
      | some v => some (x.1 + n, x.2.1, v :: x.2.2.1, x.2.2.2)
      | none => none)
    | 1 => (match x.2.2.1 with
      | v :: r => (match xk_sto nL i n x.2.1 v with
        | some A' => some (x.1 + n, A', r, x.2.2.2)
        | none => none)
      | [] => none)
    | 2 => if n = 1 then (match xk_stk i x.2.2.1 with
      | some st' => some (x.1 + 1, x.2.1, st', x.2.2.2)
      | none => none) else none
    | 3 => if n = 1 then (match xk_ari i x.2.2.1 x.2.2.2.2.1 x.2.2.2.2.2 with
      | some y => some (x.1 + 1, x.2.1, y.1, x.2.2.2.1, y.2)
      | none => none) else none
    | 4 => if n = 1 then (match xk_ld i x.2.2.1 x.2.2.2.1 with
      | some st' => some (x.1 + 1, x.2.1, st', x.2.2.2)
      | none => none) else none
    | 5 => if n = 1 then (match xk_as i x.2.2.1 x.2.2.2.1 with
      | some y => some (x.1 + 1, x.2.1, y.1, y.2, x.2.2.2.2)
      | none => none) else none
    | 6 => xk_br cod nL i n x
    | 7 => (match i with
      | .getfield idx => if n = 3 then (match xk_gf (ck_fl E) idx x.2.2.1 x.2.2.2.1 with
        | some st' => some (x.1 + 3, x.2.1, st', x.2.2.2)
        | none => none) else none
      | _ => none)
    | 8 => (match i with
      | .putfield idx => if n = 3 then (match xk_pf (ck_fl E) E.1 nm idx x.2.2.1 x.2.2.2.1 with
        | some y => some (x.1 + 3, x.2.1, y.1, y.2, x.2.2.2.2)
        | none => none) else none
      | _ => none)
    | 9 => (match i with
      | .getstatic idx => if n = 3 then (match ck_lk (ck_gl E) idx with
        | some j => some (x.1 + 3, x.2.1, (3, j, 0) :: x.2.2.1, x.2.2.2)
        | none => none) else none
      | _ => none)
    | _ => (match xk_cpy (ck_cy E) fr lo i n x.2.2.1 x.2.2.2.1 with
      | some y => some (x.1 + 3, x.2.1, y.1, y.2, x.2.2.2.2)
      | none => xk_cal E ms cts fr lo wd i n x))
def xk_run (stops : List Nat) : Nat → xk_X → Option xk_X
  | 0, _ => none
  | f + 1, x => if stops.contains x.1 then some x else (match xk_stp E ms cts cod nL fr lo nm wd x with
    | some y => xk_run stops f y
    | none => none)
end XKST
def xk_Hy (p : Program) (l : Launch) (e : Env) (R : Room) (s : State) (m : MethodId) (meth : Method) (c : Code) (M : ck_M) (fr lo : Nat) (E : ck_E) (ms : List ck_MM) (cts : List xk_Q) (Φ : Nat → Nat → List Int → Int) (wd : Nat → Nat) (nb : Nat × Nat) (D : va_G) (AC : Nat → ClassId) (S : Nat → Nat) (L H0 : Heap) (cod : List (List (Nat × Instr × Nat))) : Prop :=
  ck_B p s m meth c M ∧ e.platform.stackTraces = false ∧ (fr ≤ R.frames ∧ lo ≤ R.locals) ∧ (∃ n, nb.1 ≤ n ∧ n ≤ nb.2 ∧ ck_Kf D AC S L s n) ∧ xk_St S L s ∧ xk_L L H0 ∧ ck_Eok ms E ∧ E.1 = M.1.cls ∧ (∀ q ∈ ms, ck_Mok q) ∧ (∀ q ∈ cts, ∃ M' : ck_MM, ms[q.1]? = some M' ∧ xk_Ok l Φ nb M'.1 q.2.2 ∧ xk_gd wd q.2.2 = true ∧ q.2.2.2.1.all (fun c => c.2.all (fun v => decide (v.1 < 2 → v.2.1 ≤ q.2.2.2.2.2.2.1.2.1))) = true) ∧ ck_Glob ∧ (∀ pc i n, ck_cdAt cod pc = some (i, n) → decode M.2.1 pc = .ok (i, n))
section XKS
variable {p : Program} {l : Launch} {e : Env} {R : Room} {s : State} {m : MethodId} {args : Array Value} {below : List Frame} {meth : Method} {c : Code} {Q : State → Prop}
variable {nb : Nat × Nat} {D : va_G} {AC : Nat → ClassId} {S : Nat → Nat} {θ : Nat → Value} {L : Heap} {ρ : Nat → Int} {N : List Nat} {H0 : Heap} {Φ : Nat → Nat → List Int → Int} {wd : Nat → Nat}
variable {M : ck_M} {fr lo : Nat} {E : ck_E} {ms : List ck_MM} {cts : List xk_Q} {cod : List (List (Nat × Instr × Nat))}
theorem xw_cal (hy : xk_Hy p l e R s m meth c M fr lo E ms cts Φ wd nb D AC S L H0 cod) {i : Instr} {n : Nat} {x X : xk_X} (hd : decode M.2.1 x.1 = .ok (i, n)) (h : xk_cal E ms cts fr lo wd i n x = some X) (hnx : 0 < x.2.2.2.2.2) (ht : xk_tok Φ wd ρ X.2.2.2.2.1)
    (k : xk_W p l e R s m args below meth c Q D AC S θ L M.2.2.1 ρ N H0 X.1 (X.2.1, X.2.2.1, X.2.2.2.1)) : xk_W p l e R s m args below meth c Q D AC S θ L M.2.2.1 ρ N H0 x.1 (x.2.1, x.2.2.1, x.2.2.2.1) := by
  obtain ⟨⟨hexec, hb, hml, hret, hlk, hown, hhd, hnm⟩, htr, ⟨r1, r2⟩, ⟨nS, hn1, hn2, hKf⟩, hSt, hL, hE, hEM, hms, hcts, hgl, hcod⟩ := hy
  have hts : ∀ w ∈ ck_tb, w.before args s = true := hKf.ts
  obtain ⟨e1, e2, e3, e4, e5, e6, e7, e8, e9, e10, e11, e12⟩ := hE
  rw [← hEM] at hown
  obtain ⟨pc, A, st, T, tb, nx⟩ := x
  dsimp only at hd hnx ⊢
  unfold xk_cal at h
  dsimp only at h
  split at h
  · rename_i kd idx hivk
    split at h
    · rename_i mi hmi
      split at h
      · rename_i M' kd' np ci hM
        split at h
        · rename_i hc
          obtain ⟨rfl, rfl, hna, hrcv, hkn⟩ := hc
          generalize hna' : ck_na kd' np = na at h hna hrcv hkn
          generalize hks : (st.take na).reverse = ks at h hrcv
          split at h
          · rename_i K μ σ hcand
            cases h
            obtain ⟨⟨ky, hin⟩, hch, hf1, hf2⟩ := xk_cand_ok hcand
            obtain ⟨M2, hM2, hO, hgd, hpl'⟩ := hcts _ hin
            cases hM.symm.trans hM2
            replace hO : xk_Ok l Φ nb M' K := hO
            replace hgd : xk_gd wd K = true := hgd
            obtain ⟨hcc, hpl, hnp, hnh, hkd⟩ := hms _ (List.mem_of_getElem? hM)
            obtain ⟨M3, hM3, hlink⟩ := e9 _ (ck_lk_mem hmi)
            cases hM.symm.trans hM3
            dsimp only at hcc hpl hnp hnh hkd hlink
            have hcode : (Cond.codeWith M'.1 M'.2.1 M'.2.2.1 M'.2.2.2.1 M'.2.2.2.2).before args s = true := by
              rcases hcc with ⟨z1, z2⟩ | z
              · rw [z1]; exact ck_codeW (hts _ z2)
              · exact hts _ z
            have hlk' : (Cond.methodLink E.1 idx M'.1).before args s = true ∨ ∃ host, (Cond.methodLinkNest E.1 idx M'.1 host).before args s = true := by
              rcases hlink with z | ⟨host, z⟩
              · exact Or.inl (hts _ z)
              · exact Or.inr ⟨host, hts _ z⟩
            have hst : st = ks.reverse ++ st.drop na := by
              rw [← hks, List.reverse_reverse, List.take_append_drop]
            have hkl : ks.length = na := by rw [← hks]; simp; omega
            have hinv : ∀ {U : State} {H : Heap} {ls : Array Slot} {vs rest : List Value} {locs : List Loc}, U.heap = H → Stand p l e R s m args below meth c U locs 0 0 → xk_H D AC S θ L ρ N T H → ck_all (xk_R S θ ρ N) ks vs → ck_Inv p l e R s m args below meth c locs 0 0 U M'.1 (F0 m pc ls (vs.reverse ++ rest)) rest vs.toArray := by
              intro U H ls vs rest locs hU X0 h4 hv
              match kd', hkd, hivk, hna', hrcv with
              | 0, hkd, hivk, hna', hrcv =>
                have hi : i = .invokestatic idx := by
                  unfold ck_ivk at hivk
                  split at hivk <;> cases hivk
                  rfl
                rw [hi] at hd
                exact ck_invS X0 hexec hown hcode hlk' (hts _ hkd.1) (hts _ hkd.2) hnh rfl hnp (by rw [← hv.1, hkl, ← hna']; rfl) rfl (by rw [hb]; exact hd)
              | 1, hkd, hivk, hna', hrcv =>
                have hi : i = .invokevirtual idx := by
                  unfold ck_ivk at hivk
                  split at hivk <;> cases hivk
                  rfl
                rw [hi] at hd
                obtain ⟨a, z, ks', fs, rfl, hT⟩ := xk_rcv1 hrcv
                obtain ⟨v0, vs', rfl, ⟨b, hbn, rfl⟩, w2⟩ := hv.uncons
                obtain ⟨-, us, ⟨C, TT, hcl, cell, o1, o2⟩, -⟩ := h4.2.2 a _ b hT hbn
                obtain ⟨hk1, hk2, TT', n', hk3⟩ := hkd
                dsimp only at hcl hk3
                cases hcl.symm.trans hk3
                obtain ⟨hS, hfc, -⟩ := hKf.1.1 ci _ hcl
                refine ck_invV (b := b) (cellB := cell) X0 hexec hown hcode hlk' (hts _ hk1) (hts _ hk2) hnh (by rw [hU]; exact o1) ?_ ?_ rfl hnp (argsL := vs') (by
                  have := w2.1
                  simp [ck_na] at hkl hna'
                  omega) (by simp [F0]) (by rw [hb]; exact hd)
                · rw [o2.2.1]; rfl
                · rw [o2.1]; exact hfc
              | kq + 2, hkd, hivk, hna', hrcv => exact (xk_rcv2 hrcv).elim
            rw [hst]
            refine xw_call hO hgd hn1 hn2 hexec hb hml hd hKf hSt hL htr hcode hpl hinv (by omega) hkn (by unfold xk_wo at hf2; omega) hch hpl' hnx (fun r hr => ?_) k
            have h0 : ¬ wd K.2.2.2.2.1.1 = 0 := by omega
            dsimp only at ht
            rw [if_neg h0] at ht
            have := ht _ List.mem_cons_self
            unfold xk_eok at this
            dsimp only at this
            rw [if_neg (by omega), show 1000 + K.2.2.2.2.1.1 - 1000 = K.2.2.2.2.1.1 by omega] at this
            exact this r hr
          · cases h
        · cases h
      · cases h
    · cases h
  · cases h
theorem xw_stp (hy : xk_Hy p l e R s m meth c M fr lo E ms cts Φ wd nb D AC S L H0 cod) {x X : xk_X} (h : xk_stp E ms cts cod M.2.2.1 fr lo M.1.name wd x = some X) (hnx : 0 < x.2.2.2.2.2) (ht : xk_tok Φ wd ρ X.2.2.2.2.1)
    (k : xk_W p l e R s m args below meth c Q D AC S θ L M.2.2.1 ρ N H0 X.1 (X.2.1, X.2.2.1, X.2.2.2.1)) : xk_W p l e R s m args below meth c Q D AC S θ L M.2.2.1 ρ N H0 x.1 (x.2.1, x.2.2.1, x.2.2.2.1) := by
  have hy' := hy
  obtain ⟨⟨hexec, hb, hml, hret, hlk, hown, hhd, hnm⟩, htr, ⟨r1, r2⟩, ⟨nS, hn1, hn2, hKf⟩, hSt, hL, hE, hEM, hms, hcts, hgl, hcod⟩ := hy
  have hts : ∀ w ∈ ck_tb, w.before args s = true := hKf.ts
  rw [← hEM] at hown
  obtain ⟨pc, A, st, T, tb, nx⟩ := x
  dsimp only at hnx ⊢
  unfold xk_stp at h
  dsimp only at h
  split at h
  · cases h
  · rename_i i n hi
    have hd := hcod _ _ _ hi
    split at h
    · split at h
      · rename_i v hv
        cases h
        exact xw_psh hexec hb hown (fun q hq => by obtain ⟨v, v1, v2⟩ := hE.2.1 q hq; exact ⟨v, v1, hts _ v2⟩) (fun q hq => by obtain ⟨v, v1, v2⟩ := hE.2.2.1 q hq; exact ⟨v, v1, hts _ v2⟩) hd hv k
      · cases h
    · split at h
      · split at h
        · rename_i A' hA
          cases h
          exact xw_sto hexec hb hd hA k
        · cases h
      · cases h
    · split at h
      · rename_i hn
        subst hn
        split at h
        · rename_i st' hs
          cases h
          exact xw_stk hexec hb hd hs k
        · cases h
      · cases h
    · split at h
      · rename_i hn
        subst hn
        split at h
        · rename_i y hs
          cases h
          exact xw_ari hexec hb hd hs hnx ht k
        · cases h
      · cases h
    · split at h
      · rename_i hn
        subst hn
        split at h
        · rename_i st' hs
          cases h
          exact xw_ld hexec hb hKf.1 hSt hL hd hs k
        · cases h
      · cases h
    · split at h
      · rename_i hn
        subst hn
        split at h
        · rename_i y hs
          cases h
          exact xw_as hexec hb hKf.1 hd hs k
        · cases h
      · cases h
    · exact xw_br hexec hb hcod (x := (pc, A, st, T, tb, nx)) hd h hnx ht k
    · split at h
      · split at h
        · rename_i hn
          subst hn
          split at h
          · rename_i st' hs
            cases h
            exact xw_gf hexec hb hown hKf.1 hts hE.1 hd hs k
          · cases h
        · cases h
      · cases h
    · split at h
      · split at h
        · rename_i hn
          subst hn
          split at h
          · rename_i y hs
            cases h
            exact xw_pf hexec hb hown hKf.1 hts hnm hE.1 hd hs k
          · cases h
        · cases h
      · cases h
    · split at h
      · split at h
        · rename_i hn
          subst hn
          split at h
          · rename_i j hj
            cases h
            obtain ⟨f1, f2⟩ := hE.2.2.2.2.2.1 _ (ck_lk_mem hj)
            have hZ : va_Z "RatchetDesk$Hash" (ck_roots j) "[I" (.ref (S j)) (fun q => L.size ≤ q) s L := by
              match j, f1 with
              | 0, _ => exact hKf.2.2.1
              | 1, _ => exact hKf.2.2.2.2.1
            exact xw_gets hexec hb hown hL hZ (hts _ f2) hd k
          · cases h
        · cases h
      · cases h
    · split at h
      · rename_i y hs
        cases h
        exact xw_cpy hexec hb hown hKf.1 hSt hL hml (fun q hq => hts _ (hE.2.2.2.2.2.2.2.2.2.1 q hq)) (hts _ hgl.2.2.2.1) (hts _ hgl.2.2.2.2.1) (hts _ hgl.2.2.2.2.2.1) r1 r2 hd hs k
      · exact xw_cal hy' (x := (pc, A, st, T, tb, nx)) hd h hnx ht k
theorem xk_stp_sub {nL : Nat} {nm : String} {x X : xk_X} (h : xk_stp E ms cts cod nL fr lo nm wd x = some X) : (∀ e ∈ x.2.2.2.2.1, e ∈ X.2.2.2.2.1) ∧ x.2.2.2.2.2 ≤ X.2.2.2.2.2 := by
  obtain ⟨pc, A, st, T, tb, nx⟩ := x
  have rf : (∀ e ∈ tb, e ∈ tb) ∧ nx ≤ nx := ⟨fun e he => he, Nat.le_refl _⟩
  unfold xk_stp at h
  dsimp only at h ⊢
  split at h
  · cases h
  · split at h
    · split at h
      · cases h; exact rf
      · cases h
    · split at h
      · split at h
        · cases h; exact rf
        · cases h
      · cases h
    · split at h
      · split at h
        · cases h; exact rf
        · cases h
      · cases h
    · split at h
      · split at h
        · rename_i y hs
          cases h; exact xk_ari_sub hs
        · cases h
      · cases h
    · split at h
      · split at h
        · cases h; exact rf
        · cases h
      · cases h
    · split at h
      · split at h
        · cases h; exact rf
        · cases h
      · cases h
    · exact xk_br_sub h
    · split at h
      · split at h
        · split at h
          · cases h; exact rf
          · cases h
        · cases h
      · cases h
    · split at h
      · split at h
        · split at h
          · cases h; exact rf
          · cases h
        · cases h
      · cases h
    · split at h
      · split at h
        · split at h
          · cases h; exact rf
          · cases h
        · cases h
      · cases h
    · split at h
      · cases h; exact rf
      · unfold xk_cal at h
        dsimp only at h
        split at h
        · split at h
          · split at h
            · split at h
              · split at h
                · rename_i K μ σ _
                  cases h
                  refine ⟨fun e he => ?_, Nat.le_add_right _ _⟩
                  dsimp only
                  split
                  · exact he
                  · exact List.mem_cons_of_mem _ he
                · cases h
              · cases h
            · cases h
          · cases h
        · cases h
theorem xk_run_sub {nL : Nat} {nm : String} {stops : List Nat} : ∀ {f : Nat} {x y : xk_X}, xk_run E ms cts cod nL fr lo nm wd stops f x = some y → (∀ e ∈ x.2.2.2.2.1, e ∈ y.2.2.2.2.1) ∧ x.2.2.2.2.2 ≤ y.2.2.2.2.2
  | 0, x, y, h => by cases h
  | f + 1, x, y, h => by
    unfold xk_run at h
    split at h
    · cases h; exact ⟨fun e he => he, Nat.le_refl _⟩
    · split at h
      · rename_i z hz
        obtain ⟨a1, a2⟩ := xk_stp_sub hz
        obtain ⟨b1, b2⟩ := xk_run_sub h
        exact ⟨fun e he => b1 e (a1 e he), Nat.le_trans a2 b2⟩
      · cases h
theorem xw_run (hy : xk_Hy p l e R s m meth c M fr lo E ms cts Φ wd nb D AC S L H0 cod) {stops : List Nat} : ∀ {f : Nat} {x y : xk_X}, xk_run E ms cts cod M.2.2.1 fr lo M.1.name wd stops f x = some y → 0 < x.2.2.2.2.2 → xk_tok Φ wd ρ y.2.2.2.2.1 →
    xk_W p l e R s m args below meth c Q D AC S θ L M.2.2.1 ρ N H0 y.1 (y.2.1, y.2.2.1, y.2.2.2.1) → xk_W p l e R s m args below meth c Q D AC S θ L M.2.2.1 ρ N H0 x.1 (x.2.1, x.2.2.1, x.2.2.2.1)
  | 0, x, y, h, _, _, _ => by cases h
  | f + 1, x, y, h, hnx, ht, k => by
    unfold xk_run at h
    split at h
    · cases h; exact k
    · split at h
      · rename_i z hz
        obtain ⟨a1, a2⟩ := xk_stp_sub hz
        obtain ⟨b1, b2⟩ := xk_run_sub h
        exact xw_stp hy hz hnx (fun e he => ht e (b1 e he)) (xw_run hy h (by omega) ht k)
      · cases h
/-! the method's end -/
def xk_bl (tb : List xk_E) (o : xk_O) : Bool := (o.1 == 0 && (decide (o.2 = 0) || decide (o.2 = 1))) || (match tb with
  | (g, op, [_, _, (0, u), (0, w)]) :: _ => o.1 == g && decide (0 < g) && decide (40 ≤ op) && decide (op < 1000) && (decide (u = 0) || decide (u = 1)) && (decide (w = 0) || decide (w = 1))
  | _ => false)
def xk_ret (M : ck_M) (i : Instr) (n : Nat) (st : List xk_V) (tb : List xk_E) : Option (Option xk_V) := match i, st, M.2.2.2.1 with
  | .return_, [], none => if n = 1 then some none else none
  | .ireturn, [(0, o)], some .int => if n = 1 then some (some (0, o)) else none
  | .ireturn, [(0, o)], some .boolean => if n = 1 ∧ xk_bl tb o = true then some (some (0, o)) else none
  | .lreturn, [(1, o)], some .long => if n = 1 then some (some (1, o)) else none
  | _, _, _ => none
theorem xk_MQ {ret : Option xk_V} {post : List xk_C} {t : State} (h : MQ below (fun _ s o t => xk_rs S θ ρ N ret o ∧ xk_H D AC S θ L ρ N post t.heap ∧ xk_F N s.heap t.heap) args s 0 0 (fun q => L.size ≤ q) t) : xk_Fin D AC S θ L ρ N ret post below s t := by
  obtain ⟨o, h1, h2, ⟨h3, h3', h3''⟩, Ls, ⟨h4, h5, h6⟩, h7⟩ := h
  exact ⟨o, h1, h2, h5, ⟨Ls, h6, h7⟩, h3, h3', h3''⟩
theorem xw_ret (hy : xk_Hy p l e R s m meth c M fr lo E ms cts Φ wd nb D AC S L s.heap cod) {x : xk_X} {i : Instr} {n : Nat} {ret : Option xk_V} (hi : ck_cdAt cod x.1 = some (i, n)) (h : xk_ret M i n x.2.2.1 x.2.2.2.2.1 = some ret) (ht : xk_tok Φ wd ρ x.2.2.2.2.1) :
    xk_W p l e R s m args below meth c (xk_Fin D AC S θ L ρ N ret x.2.2.2.1 below s) D AC S θ L M.2.2.1 ρ N s.heap x.1 (x.2.1, x.2.2.1, x.2.2.2.1) := by
  obtain ⟨⟨hexec, hb, hml, hret, hlk, hown, hhd, hnm⟩, htr, ⟨r1, r2⟩, ⟨nS, hn1, hn2, hKf⟩, hSt, hL, hE, hEM, hms, hcts, hgl, hcod⟩ := hy
  have hd := hcod _ _ _ hi
  obtain ⟨pc, A, st, T, tb, nx⟩ := x
  intro H ls vs locs hh
  obtain ⟨lv, h1, h2, h3, h4, h5, h6⟩ := hh
  dsimp only at h h3 h4 hd ht ⊢
  have nil : ∀ {vs : List Value}, ck_all (xk_R S θ ρ N) [] vs → vs = [] := by
    intro vs h
    have := h.1
    cases vs with
    | nil => rfl
    | cons a b => simp at this
  unfold xk_ret at h
  split at h
  · rename_i hr
    split at h
    · rename_i hn
      subst hn
      cases h
      have := nil h3
      subst this
      refine ck_mono (fun t => xk_MQ (args := args)) (W.vret hexec hb (hret.trans hr) (fun t ht hW => ?_) h6 hd hlk)
      exact ⟨rfl, by rw [ht]; exact h4, by rw [ht]; exact h5⟩
    · cases h
  · rename_i o hr
    split at h
    · rename_i hn
      subst hn
      cases h
      obtain ⟨_, vs', rfl, hx, g2⟩ := h3.uncons
      obtain ⟨y, rfl, y1⟩ := id hx
      have := nil g2
      subst this
      refine ck_mono (fun t => xk_MQ (args := args)) (W.zret hexec hb (hret.trans hr) rfl (fun t ht hW => ?_) h6 hd hlk)
      exact ⟨⟨_, rfl, hx⟩, by rw [ht]; exact h4, by rw [ht]; exact h5⟩
    · cases h
  · rename_i o hr
    split at h
    · rename_i hc
      obtain ⟨rfl, hbl⟩ := hc
      cases h
      obtain ⟨_, vs', rfl, hx, g2⟩ := h3.uncons
      obtain ⟨y, rfl, y1⟩ := id hx
      have := nil g2
      subst this
      have hy01 : y = 0 ∨ y = 1 := by
        have e01 : xk_ov ρ o = 0 ∨ xk_ov ρ o = 1 := by
          unfold xk_bl at hbl
          simp only [Bool.or_eq_true] at hbl
          rcases hbl with z | z
          · simp only [Bool.and_eq_true, beq_iff_eq, Bool.or_eq_true, decide_eq_true_eq] at z
            unfold xk_ov
            rw [if_pos z.1]
            exact z.2
          · split at z
            · rename_i g op a b u w tl
              simp only [Bool.and_eq_true, beq_iff_eq, Bool.or_eq_true, decide_eq_true_eq] at z
              obtain ⟨⟨⟨⟨⟨z1, z2⟩, z3⟩, z4⟩, z5⟩, z6⟩ := z
              have e9 := ht _ List.mem_cons_self
              unfold xk_eok at e9
              dsimp only at e9
              rw [if_pos z4] at e9
              have : xk_ov ρ o = ρ g := by
                unfold xk_ov
                rw [if_neg (by omega), z1]
              rw [this, e9]
              unfold xk_sem
              rw [if_neg (by omega), if_neg (by omega), if_neg (by omega), if_neg (by omega), if_neg (by omega)]
              show (if _ then w else u) = 0 ∨ (if _ then w else u) = 1
              split
              · exact z6
              · exact z5
            · cases z
        dsimp only at y1
        rcases e01 with z | z
        · exact Or.inl (Int32.toInt_inj.mp (by rw [y1, z]; rfl))
        · exact Or.inr (Int32.toInt_inj.mp (by rw [y1, z]; rfl))
      refine ck_mono (fun t => xk_MQ (args := args)) (W.zret hexec hb (hret.trans hr) (by rcases hy01 with rfl | rfl <;> rfl) (fun t ht hW => ?_) h6 hd hlk)
      exact ⟨⟨_, rfl, hx⟩, by rw [ht]; exact h4, by rw [ht]; exact h5⟩
    · cases h
  · rename_i o hr
    split at h
    · rename_i hn
      subst hn
      cases h
      obtain ⟨_, vs', rfl, hx, g2⟩ := h3.uncons
      obtain ⟨y, rfl, y1⟩ := id hx
      have := nil g2
      subst this
      refine ck_mono (fun t => xk_MQ (args := args)) (W.lret hexec hb (hret.trans hr) (fun t ht hW => ?_) h6 hd hlk)
      exact ⟨⟨_, rfl, hx⟩, by rw [ht]; exact h4, by rw [ht]; exact h5⟩
    · cases h
  · cases h
end XKS
