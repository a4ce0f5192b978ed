/-! the second checker: 27 -/
/-! ===== the checker: one instruction ===== -/
section CKSTD
variable (E : ck_E) (tab : List ck_D) (nb : Nat × Nat) (lw : Bool) (ms : List ck_MM) (cts : List (Nat × ck_Kt)) (nt : List (Nat × Nat × Nat)) (cod : List (List (Nat × Instr × Nat))) (M : ck_M) (K : ck_Ct) (al : List (List ck_C × (Option ck_V ⊕ Nat))) (wr : List Nat)
def gck_s4 (i : Instr) (pc : Nat) (A : List (Nat × ck_V)) (st : List ck_V) (T : List ck_C) (ce sl : Nat) : Option (List ck_N) := match st with
  | v :: .inl q :: rf :: r => (match gck_as tab wr T i v q rf with
    | some T' => some [(pc + 1, (A, r, T'), ce, sl)]
    | none => ck_s5 tab lw i pc A (v :: .inl q :: rf :: r) T ce sl)
  | st => ck_s5 tab lw i pc A st T ce sl
def gck_s3 (i : Instr) (pc : Nat) (A : List (Nat × ck_V)) (st : List ck_V) (T : List ck_C) (ce sl : Nat) : Option (List ck_N) := match st with
  | .inl b :: .inl a :: r => (match ck_bin i a b with
    | some w => some [(pc + 1, (A, w :: r, T), ce, sl)]
    | none => gck_s4 tab lw wr i pc A (.inl b :: .inl a :: r) T ce sl)
  | .inr (.inl b) :: .inr (.inl a) :: r => (match ck_jb i a b with
    | some w => some [(pc + 1, (A, .inr (.inl w) :: r, T), ce, sl)]
    | none => gck_s4 tab lw wr i pc A (.inr (.inl b) :: .inr (.inl a) :: r) T ce sl)
  | .inl b :: .inr (.inl a) :: r => (match ck_js i a with
    | some w => some [(pc + 1, (A, .inr (.inl w) :: r, T), ce, sl)]
    | none => gck_s4 tab lw wr i pc A (.inl b :: .inr (.inl a) :: r) T ce sl)
  | st => gck_s4 tab lw wr i pc A st T ce sl
def gck_s2x (i : Instr) (n pc : Nat) (A : List (Nat × ck_V)) (st : List ck_V) (T : List ck_C) (ce sl : Nat) : Option (List ck_N) := match ck_psh (ck_kl E) (ck_jl E) A i n with
  | some v => some [(pc + n, (A, v :: st, T), ce, sl)]
  | none => (match st with
    | [] => none
    | v :: r => (match ck_sto M.2.2.1 i n A v with
      | some A' => some [(pc + n, ck_tgS (A', r, T), ce, sl)]
      | none => if n = 1 then (match ck_stk i (v :: r) with
        | some st' => some [(pc + 1, (A, st', T), ce, sl)]
        | none => gck_s3 tab lw wr i pc A (v :: r) T ce sl) else none))
def gck_step (x : ck_N) : Option (List ck_N) := match ck_cdAt cod x.1 with
  | none => none
  | some (i, n) => (match ck_grp i with
    | 0 => gck_s2x E tab lw M wr i n x.1 x.2.1.1 x.2.1.2.1 x.2.1.2.2 x.2.2.1 x.2.2.2
    | 1 => ck_br M.2.2.1 i n x.1 x.2.1 x.2.2.1 x.2.2.2
    | 2 => if ck_rt M K al i n x.2.1 x.2.2.1 x.2.2.2 = true then some [] else none
    | 3 => gck_alc E tab wr nt K i n x.1 x.2.1 x.2.2.1 x.2.2.2
    | 4 => ck_or (gck_alc E tab wr nt K i n x.1 x.2.1 x.2.2.1 x.2.2.2) (ck_thr E cod M K i n x.1 x.2.1 x.2.2.1 x.2.2.2 al)
    | 5 => ck_or (ck_cpy E tab wr K i n x.1 x.2.1 x.2.2.1 x.2.2.2) (ck_or (ck_obi E K i n x.1 x.2.1 x.2.2.1 x.2.2.2) (gck_cal E tab ms cts M K al wr i n x.1 x.2.1 x.2.2.1 x.2.2.2))
    | _ => ck_gp E tab nb M wr i n x.1 x.2.1 x.2.2.1 x.2.2.2)
end CKSTD
section CKSTP
variable {p : Program} {l : Launch} {e : Env} {R : Room} {s : State} {m : MethodId} {args : Array Value} {below : List Frame} {meth : Method} {c : Code} {ce sl : Nat} {Q : State → Prop}
variable {pc : Nat} {nb : Nat × Nat} {al : List (List ck_C × (Option ck_V ⊕ Nat))} {D : va_G} {AC : Nat → ClassId} {S : Nat → Nat} {tab : List ck_D} {L : Heap} {ρ0 : Nat → Int} {wr : List Nat} {G0 : Nat → Nat} {N0 : List Nat} {H0 : Heap}
variable {A : List (Nat × ck_V)} {st : List ck_V} {T : List ck_C} {M : ck_M} {K : ck_Ct} {E : ck_E} {ms : List ck_MM} {cts : List (Nat × ck_Kt)} {cod : List (List (Nat × Instr × Nat))} {nt : List (Nat × Nat × Nat)}
theorem gcw_s5 (hy : gck_Hy p l e R s m meth c M K E ms cts tab nb D AC S L cod) {lw : Bool} (hlw : lw = true → ρ0 149 = (S 3 : Int)) {i : Instr} {X : List ck_N} (hd : decode M.2.1 pc = .ok (i, 1)) (h : ck_s5 tab lw i pc A st T ce sl = some X)
    (k : ∀ x ∈ X, gck_W p l e R s m args below meth c Q D AC S tab L M.2.2.1 ρ0 wr G0 N0 H0 x.1 x.2.1 x.2.2.1 x.2.2.2) : gck_W p l e R s m args below meth c Q D AC S tab L M.2.2.1 ρ0 wr G0 N0 H0 pc (A, st, T) ce sl := by
  obtain ⟨⟨hexec, hb, hml, hret, hlk, hown, hhd, hnm⟩, htr, -, ⟨nS, hn1, hn2, hKf⟩, -⟩ := hy
  unfold ck_s5 at h
  split at h
  · split at h
    · rename_i v hv
      cases h
      exact gcw_ld hexec hb hKf hlw hd hv (k _ (List.mem_singleton.mpr rfl))
    · cases h
  · cases h
theorem gcw_s4 (hy : gck_Hy p l e R s m meth c M K E ms cts tab nb D AC S L cod) {lw : Bool} (hlw : lw = true → ρ0 149 = (S 3 : Int)) {i : Instr} {X : List ck_N} (hd : decode M.2.1 pc = .ok (i, 1)) (h : gck_s4 tab lw wr i pc A st T ce sl = some X)
    (k : ∀ x ∈ X, gck_W p l e R s m args below meth c Q D AC S tab L M.2.2.1 ρ0 wr G0 N0 H0 x.1 x.2.1 x.2.2.1 x.2.2.2) : gck_W p l e R s m args below meth c Q D AC S tab L M.2.2.1 ρ0 wr G0 N0 H0 pc (A, st, T) ce sl := by
  have hy' := hy
  obtain ⟨⟨hexec, hb, hml, hret, hlk, hown, hhd, hnm⟩, htr, -, ⟨nS, hn1, hn2, hKf⟩, -⟩ := hy
  unfold gck_s4 at h
  split at h
  · split at h
    · rename_i v hv
      cases h
      exact gcw_as hexec hb hKf hd hv (k _ (List.mem_singleton.mpr rfl))
    · exact gcw_s5 hy' hlw hd h k
  · exact gcw_s5 hy' hlw hd h k
theorem gcw_s3 (hy : gck_Hy p l e R s m meth c M K E ms cts tab nb D AC S L cod) {lw : Bool} (hlw : lw = true → ρ0 149 = (S 3 : Int)) {i : Instr} {X : List ck_N} (hd : decode M.2.1 pc = .ok (i, 1)) (h : gck_s3 tab lw wr i pc A st T ce sl = some X)
    (k : ∀ x ∈ X, gck_W p l e R s m args below meth c Q D AC S tab L M.2.2.1 ρ0 wr G0 N0 H0 x.1 x.2.1 x.2.2.1 x.2.2.2) : gck_W p l e R s m args below meth c Q D AC S tab L M.2.2.1 ρ0 wr G0 N0 H0 pc (A, st, T) ce sl := by
  have hy' := hy
  obtain ⟨⟨hexec, hb, hml, hret, hlk, hown, hhd, hnm⟩, htr, -, ⟨nS, hn1, hn2, hKf⟩, -⟩ := hy
  unfold gck_s3 at h
  split at h
  · split at h
    · rename_i v hv
      cases h
      exact gcw_bin hexec hb hd hv (k _ (List.mem_singleton.mpr rfl))
    · exact gcw_s4 hy' hlw hd h k
  · split at h
    · rename_i v hv
      cases h
      exact gcw_jb hexec hb hd hv (k _ (List.mem_singleton.mpr rfl))
    · exact gcw_s4 hy' hlw hd h k
  · split at h
    · rename_i v hv
      cases h
      exact gcw_js hexec hb hd hv (k _ (List.mem_singleton.mpr rfl))
    · exact gcw_s4 hy' hlw hd h k
  · exact gcw_s4 hy' hlw hd h k
theorem gcw_s2x (hy : gck_Hy p l e R s m meth c M K E ms cts tab nb D AC S L cod) {lw : Bool} (hlw : lw = true → ρ0 149 = (S 3 : Int)) {i : Instr} {n : Nat} {X : List ck_N} (hd : decode M.2.1 pc = .ok (i, n)) (h : gck_s2x E tab lw M wr i n pc A st T ce sl = some X)
    (k : ∀ x ∈ X, gck_W p l e R s m args below meth c Q D AC S tab L M.2.2.1 ρ0 wr G0 N0 H0 x.1 x.2.1 x.2.2.1 x.2.2.2) : gck_W p l e R s m args below meth c Q D AC S tab L M.2.2.1 ρ0 wr G0 N0 H0 pc (A, st, T) ce sl := by
  have hy' := hy
  obtain ⟨⟨hexec, hb, hml, hret, hlk, hown, hhd, hnm⟩, htr, -, ⟨nS, hn1, hn2, hKf⟩, hE, hEM, -⟩ := hy
  have hts : ∀ w ∈ ck_tb, w.before args s = true := hKf.ts
  rw [← hEM] at hown
  unfold gck_s2x at h
  split at h
  · rename_i v hv
    cases h
    exact gcw_psh hexec hb hown (fun q hq => by obtain ⟨v, v1, v2⟩ := hE.2.1 q hq; exact ⟨v, v1, hts _ v2⟩) (fun q hq => by obtain ⟨v, v1, v2⟩ := hE.2.2.1 q hq; exact ⟨v, v1, hts _ v2⟩) hd hv (k _ (List.mem_singleton.mpr rfl))
  · split at h
    · cases h
    · split at h
      · rename_i A' hA
        cases h
        exact gcw_sto hexec hb hd hA (gcw_tgS (k _ (List.mem_singleton.mpr rfl)))
      · split at h
        · rename_i hn
          subst hn
          split at h
          · rename_i st' hst
            cases h
            exact gcw_stks hexec hb hd hst (k _ (List.mem_singleton.mpr rfl))
          · exact gcw_s3 hy' hlw hd h k
        · cases h
theorem gcw_gp (hy : gck_Hy p l e R s m meth c M K E ms cts tab nb D AC S L cod) {i : Instr} {n : Nat} {B : ck_A} {X : List ck_N} (hd : decode M.2.1 pc = .ok (i, n)) (h : ck_gp E tab nb M wr i n pc B ce sl = some X)
    (k : ∀ x ∈ X, gck_W p l e R s m args below meth c Q D AC S tab L M.2.2.1 ρ0 wr G0 N0 H0 x.1 x.2.1 x.2.2.1 x.2.2.2) : gck_W p l e R s m args below meth c Q D AC S tab L M.2.2.1 ρ0 wr G0 N0 H0 pc B ce sl := by
  obtain ⟨⟨hexec, hb, hml, hret, hlk, hown, hhd, hnm⟩, htr, -, ⟨nS, hn1, hn2, hKf⟩, hE, hEM, -⟩ := hy
  have hts : ∀ w ∈ ck_tb, w.before args s = true := hKf.ts
  rw [← hEM] at hown
  unfold ck_gp at h
  split at h
  · split at h
    · rename_i hn
      subst hn
      split at h
      · rename_i v hv
        cases h
        exact gcw_gf hexec hb hown hKf.1 hts hE.1 hd hv (k _ (List.mem_singleton.mpr rfl))
      · cases h
    · cases h
  · split at h
    · rename_i hn
      subst hn
      split at h
      · rename_i v hv
        cases h
        exact gcw_pf hexec hb hown hKf.1 hts hnm hE.1 hd hv (k _ (List.mem_singleton.mpr rfl))
      · cases h
    · cases h
  · split at h
    · rename_i hn
      subst hn
      split at h
      · rename_i v hv
        cases h
        exact gcw_len hexec hb hKf hn1 hn2 hd hv (k _ (List.mem_singleton.mpr rfl))
      · cases h
    · cases h
  · split at h
    · rename_i hn
      subst hn
      cases h
      exact gcw_lcmp hexec hb hd (k _ (List.mem_singleton.mpr rfl))
    · cases h
  · cases h
theorem gcw_step (hy : gck_Hy p l e R s m meth c M K E ms cts tab nb D AC S L cod) (hnp : N0.length = K.2.1.length) {lw : Bool} (hlw : lw = true → ρ0 149 = (S 3 : Int)) (hQ : ∀ a ∈ al, ∀ t, gck_Fin D AC S tab L ρ0 wr G0 N0 (ck_alt K a) below s t → Q t) {x : ck_N} {X : List ck_N} (h : gck_step E tab nb lw ms cts nt cod M K al wr x = some X)
    (k : ∀ x ∈ X, gck_W p l e R s m args below meth c Q D AC S tab L M.2.2.1 ρ0 wr G0 N0 s.heap x.1 x.2.1 x.2.2.1 x.2.2.2) : gck_W p l e R s m args below meth c Q D AC S tab L M.2.2.1 ρ0 wr G0 N0 s.heap x.1 x.2.1 x.2.2.1 x.2.2.2 := by
  have hcod := hy.2.2.2.2.2.2.2.2.2
  unfold gck_step at h
  split at h
  · cases h
  · rename_i i n hi
    have hd := hcod _ _ _ hi
    split at h
    · exact gcw_s2x hy hlw hd h k
    · exact gcw_br hy hd h k
    · split at h
      · rename_i hr
        exact gcw_rt hy hnp hd hr hQ
      · cases h
    · exact gcw_alc hy hd h k
    · unfold ck_or at h
      split at h
      · rename_i z hz
        cases h
        exact gcw_alc hy hd hz k
      · exact gcw_thr hy rfl hnp hd hQ h
    · unfold ck_or at h
      split at h
      · rename_i z hz
        cases h
        exact gcw_cpy hy rfl hd hz k
      · split at h
        · rename_i z hz
          cases h
          exact gcw_obi hy rfl hd hz k
        · exact gcw_cal hy rfl hnp hQ hd h k
    · exact gcw_gp hy hd h k
end CKSTP
