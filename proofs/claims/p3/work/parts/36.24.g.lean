/-! the second checker: 24 -/
def gck_Hy (p : Program) (l : Launch) (e : Env) (R : Room) (s : State) (m : MethodId) (meth : Method) (c : Code) (M : ck_M) (K : ck_Ct) (E : ck_E) (ms : List ck_MM) (cts : List (Nat × ck_Kt)) (tab : List ck_D) (nb : Nat × Nat) (D : va_G) (AC : Nat → ClassId) (S : Nat → Nat) (L : Heap) (cod : List (List (Nat × Instr × Nat))) : Prop :=
  ck_B p s m meth c M ∧ e.platform.stackTraces = false ∧ (K.2.2.2.2.1 ≤ R.frames ∧ K.2.2.2.2.2.1 ≤ R.locals ∧ K.2.2.2.2.2.2.1 ≤ R.cells ∧ K.2.2.2.2.2.2.2 ≤ R.slots) ∧ (∃ n, nb.1 ≤ n ∧ n ≤ nb.2 ∧ ck_Kf D AC S L s n) ∧ ck_Eok ms E ∧ E.1 = M.1.cls ∧ (∀ q ∈ ms, ck_Mok q) ∧ (∀ q ∈ cts, ∃ M' : ck_MM, ms[q.1]? = some M' ∧ gck_Ok l tab nb M'.1 q.2) ∧ ck_Glob ∧ (∀ pc i n, ck_cdAt cod pc = some (i, n) → decode M.2.1 pc = .ok (i, n))
/-- new cells: what comes, by what the plan says of this place -/
def gck_alc (E : ck_E) (tab : List ck_D) (wr : List Nat) (nt : List (Nat × Nat × Nat)) (K : ck_Ct) (i : Instr) (n pc : Nat) (B : ck_A) (ce sl : Nat) : Option (List ck_N) := match i, B with
  | .newarray t, (A, .inl q :: st, T) => (match ck_atac t, ck_one q with
    | some ac, some k => if n = 2 ∧ k ≤ 60000 ∧ ce + 1 ≤ K.2.2.2.2.2.2.1 ∧ sl + k ≤ K.2.2.2.2.2.2.2 then (match ck_lk nt pc with
      | some (τ, _) => (match tab[τ]? with
        | some (.inl (ac', k', sg)) => if ac' = ac ∧ k' = k ∧ τ ≠ 0 ∧ ck_dk ac sg = true ∧ gk_mk wr ce τ = true ∧ gk_mk1 τ ac = true then some [(pc + 2, (A, .inr (.inr (2, τ)) :: st, T), ce + 1, sl + k)] else none
        | _ => none)
      | none => some [(pc + 2, (A, .inr (.inr (1, T.length)) :: st, T ++ [((1, ac), List.replicate k (ck_d0 ac))]), ce + 1, sl + k)]) else none
    | _, _ => none)
  | .anewarray idx, (A, .inl q :: st, T) => (match ck_lk (ck_al E) idx, ck_one q with
    | some ac, some k => if n = 3 ∧ k ≤ 60000 ∧ ce + 1 ≤ K.2.2.2.2.2.2.1 ∧ sl + k ≤ K.2.2.2.2.2.2.2 then some [(pc + 3, (A, .inr (.inr (1, T.length)) :: st, T ++ [((1, ac), List.replicate k (.inr (.inr (0, 0))))]), ce + 1, sl + k)] else none
    | _, _ => none)
  | .new idx, (A, st, T) => (match ck_lk (ck_nl E) idx with
    | some ci => (match ck_cl[ci]? with
      | some (_, _, k) => if n = 3 ∧ ce + 1 ≤ K.2.2.2.2.2.2.1 ∧ sl + k ≤ K.2.2.2.2.2.2.2 then some [(pc + 3, (A, .inr (.inr (1, T.length)) :: st, T ++ [((0, ci), (List.range k).map (fun k => ck_dt (ck_yy ci k)))]), ce + 1, sl + k)] else none
      | none => none)
    | none => none)
  | .multianewarray idx 2, (A, .inl qk :: .inl qn :: st, T) => (match ck_lk nt pc, ck_one qn, ck_one qk with
    | some (τo, τi), some a, some b => (match tab[τo]?, tab[τi]? with
      | some (.inl (7, a', sgo)), some (.inl (0, b', sgi)) => if n = 4 ∧ (ck_m2 E).contains idx = true ∧ a' = a ∧ b' = b ∧ gk_mk wr ce τo = true ∧ gk_mk2 τo τi = true ∧ τo ≠ 0 ∧ τi ≠ 0 ∧ sgo.all (fun q => ck_le (.inr (.inr (2, τi))) q.2) = true ∧ ck_dk 0 sgi = true ∧ a ≤ 60000 ∧ b ≤ 60000 ∧ ce + (1 + a) ≤ K.2.2.2.2.2.2.1 ∧ sl + (a + a * b) ≤ K.2.2.2.2.2.2.2 then some [(pc + 4, (A, .inr (.inr (2, τo)) :: st, T), ce + 1 + a, sl + a + a * b)] else none
      | _, _ => none)
    | _, _, _ => none)
  | .getstatic idx, (A, st, T) => (match ck_lk (ck_gl E) idx with
    | some j => if n = 3 then some [(pc + 3, (A, .inr (.inr (3, j)) :: st, T), ce, sl)] else none
    | none => none)
  | _, _ => none
section CKEN
variable {p : Program} {l : Launch} {e : Env} {R : Room} {s : State} {m : MethodId} {args : Array Value} {below : List Frame} {meth : Method} {c : Code} {ce sl : Nat} {Q : State → Prop}
variable {pc nL : Nat} {nb : Nat × Nat} {D : va_G} {AC : Nat → ClassId} {S : Nat → Nat} {tab : List ck_D} {L : Heap} {ρ0 : Nat → Int} {wr : List Nat} {G0 : Nat → Nat} {N0 : List Nat} {H0 : Heap}
variable {B : ck_A} {M : ck_M} {K : ck_Ct} {E : ck_E} {ms : List ck_MM} {cts : List (Nat × ck_Kt)} {cod : List (List (Nat × Instr × Nat))}
theorem gcw_alc (hy : gck_Hy p l e R s m meth c M K E ms cts tab nb D AC S L cod) {nt : List (Nat × Nat × Nat)} {i : Instr} {n : Nat} {X : List ck_N} (hd : decode M.2.1 pc = .ok (i, n)) (h : gck_alc E tab wr nt K i n pc B ce sl = some X)
    (k : ∀ x ∈ X, gck_W p l e R s m args below meth c Q D AC S tab L nL ρ0 wr G0 N0 s.heap x.1 x.2.1 x.2.2.1 x.2.2.2) : gck_W p l e R s m args below meth c Q D AC S tab L nL ρ0 wr G0 N0 s.heap pc B ce sl := by
  obtain ⟨⟨hexec, hb, hml, hret, hlk, hown, hhd, hnm⟩, htr, ⟨r1, r2, r3, r4⟩, ⟨nS, hn1, hn2, hKf⟩, hE, hEM, hms, hcts, hgl, hcod⟩ := hy
  have hts : ∀ w ∈ ck_tb, w.before args s = true := hKf.ts
  obtain ⟨e1, e2, e3, e4, e5, e6, e7, e8, e9, e10, e11, e12⟩ := hE
  rw [← hEM] at hown
  unfold gck_alc at h
  split at h
  · rename_i t A q st T
    split at h
    · rename_i ac kk hac hq
      split at h
      · rename_i hc
        obtain ⟨rfl, c1, c2, c3⟩ := hc
        split at h
        · rename_i τ z hτ0
          split at h
          · rename_i ac' k' sg hτ
            split at h
            · rename_i hc2
              obtain ⟨rfl, rfl, c4, c5, c9, c10⟩ := hc2
              cases h
              exact gcw_newaTy hexec hb hKf.1 (hts _ (hgl.2.1 _ _ (ck_atac_ok hac))) hτ c4 (gk_mk_ok c9) (gk_mk1_ok c10) (ck_atac_ok hac) (ck_one_ok hq).1 (ck_one_ok hq).2 c1 c5 (by omega) (by omega) hd (k _ (List.mem_singleton.mpr rfl))
            · cases h
          · cases h
        · cases h
          exact gcw_newaOwn hexec hb hKf.1 (hts _ (hgl.2.1 _ _ (ck_atac_ok hac))) (ck_atac_ok hac) (ck_one_ok hq).1 (ck_one_ok hq).2 c1 (by omega) (by omega) hd (k _ (List.mem_singleton.mpr rfl))
      · cases h
    · cases h
  · rename_i idx A q st T
    split at h
    · rename_i ac kk hac hq
      split at h
      · rename_i hc
        obtain ⟨rfl, c1, c2, c3⟩ := hc
        cases h
        obtain ⟨C, f1, f2, f3⟩ := e5 _ (ck_lk_mem hac)
        exact gcw_anew hexec hb hown hKf.1 f1 (hts _ f2) (hts _ f3) (ck_one_ok hq).1 (ck_one_ok hq).2 c1 (by omega) (by omega) hd (k _ (List.mem_singleton.mpr rfl))
      · cases h
    · cases h
  · rename_i idx A st T
    split at h
    · rename_i ci hci
      split at h
      · rename_i C0 T0 kk hcl
        split at h
        · rename_i hc
          obtain ⟨rfl, c2, c3⟩ := hc
          cases h
          obtain ⟨C, TT, n', f1, f2⟩ := e4 _ (ck_lk_mem hci)
          cases hcl.symm.trans f1
          exact gcw_new hexec hb hown hKf.1 hts hcl f2 (by omega) (by omega) hd (k _ (List.mem_singleton.mpr rfl))
        · cases h
      · cases h
    · cases h
  · rename_i idx A qk qn st T
    split at h
    · rename_i τo τi a b hnt hqn hqk
      split at h
      · rename_i a' sgo b' sgi ho hi
        split at h
        · rename_i hc
          obtain ⟨rfl, c1, rfl, rfl, cr1, cr2, c2, c3, c4, c5, c6, c7, c8, c9⟩ := hc
          cases h
          exact gcw_multi hexec hb hown hKf.1 (hts _ (e11 _ (by simpa using c1))) (hts _ hgl.2.2.1) (hts _ (hgl.2.1 0 .int rfl)) ho hi c2 (gk_mk_ok cr1) (gk_mk2_ok cr2).1 (gk_mk2_ok cr2).2.1 (gk_mk2_ok cr2).2.2 c3 c4 c5 (ck_one_ok hqn) (ck_one_ok hqk) c6 c7 (by omega) (by omega) hd (k _ (List.mem_singleton.mpr rfl))
        · cases h
      · cases h
    · cases h
  · rename_i idx A st T
    split at h
    · rename_i j hj
      split at h
      · rename_i hn
        subst hn
        cases h
        obtain ⟨f1, f2⟩ := e6 _ (ck_lk_mem hj)
        have hZ : va_Z "RatchetDesk$Hash" (ck_roots j) "[I" (.ref (S j)) (fun q => L.size ≤ q) s L := by
          match j, f1 with
          | 0, _ => exact hKf.2.2.1
          | 1, _ => exact hKf.2.2.2.2.1
        exact gcw_gets hexec hb hown hZ (hts _ f2) hd (k _ (List.mem_singleton.mpr rfl))
      · cases h
    · cases h
  · cases h
end CKEN
