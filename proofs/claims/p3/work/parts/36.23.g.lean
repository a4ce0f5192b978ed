/-! the second checker: 23 -/
def gck_as (tab : List ck_D) (wr : List Nat) (T : List ck_C) (i : Instr) (v : ck_V) (q : ck_Q) (r : ck_V) : Option (List ck_C) := match r with
  | .inr (.inr (2, τ)) => (match tab[τ]? with
    | some (.inl (ac, n, sg)) => if ck_isst i ac = true ∧ 0 ≤ q.1 ∧ q.2.1 < (n : Int) then (match ck_rd sg q.1.toNat q.2.1.toNat with
      | some k => if ck_le v k = true ∧ ck_plain k = true ∧ ck_nof T τ = true ∧ gk_sw wr τ q = true then (if ck_prim ac v = true then some T else (match ck_comp ac with
        | some ci => if ck_oc tab T v = some ci ∧ wr.contains τ = true then some T else none
        | none => none)) else none
      | none => none) else none
    | _ => none)
  | .inr (.inr (1, a)) => (match T[a]?, ck_one q with
    | some ((1, ac), es), some j => if ck_isst i ac = true ∧ j < es.length then (if ck_prim ac v = true then some (T.set a ((1, ac), es.set j v)) else (match ck_comp ac with
      | some ci => if ck_oc tab T v = some ci then some (T.set a ((1, ac), es.set j v)) else none
      | none => none)) else none
    | some ((b + 7, τ), es), some j => (match tab[τ]? with
      | some (.inl (ac, n, sg)) => if ck_isst i ac = true ∧ j < n ∧ b ≤ j then (match ck_rd sg j j with
        | some k => if ck_le v k = true ∧ ck_plain k = true ∧ ck_prim ac v = true ∧ ck_nofX a T τ = true ∧ wr.contains τ = true then some (T.set a ((b + 7, τ), es.set (j - b) v)) else none
        | none => none) else none
      | _ => none)
    | _, _ => none)
  | _ => none
section CKAI
variable {p : Program} {l : Launch} {e : Env} {R : Room} {s : State} {m : MethodId} {args : Array Value} {below : List Frame} {meth : Method} {c : Code} {cells slots : Nat} {Q : State → Prop}
variable {cc : ByteArray} {pc pc2 nL nS : Nat} {D : va_G} {AC : Nat → ClassId} {S : Nat → Nat} {tab : List ck_D} {L : Heap} {ρ0 : Nat → Int} {wr : List Nat} {G0 : Nat → Nat} {N0 : List Nat} {H0 : Heap}
variable {A : List (Nat × ck_V)} {st : List ck_V} {T : List ck_C} {own : String}
theorem gcw_ld (hexec : p.tables.exec = Jvm.exec) (hb : c.code = cc) (hKf : ck_Kf D AC S L s nS) {lw : Bool} (hlw : lw = true → ρ0 149 = (S 3 : Int)) {i : Instr} {q : ck_Q} {v r : ck_V} (hd : decode cc pc = .ok (i, 1)) (h : ck_ld tab lw T i q r = some v)
    (kk : gck_W p l e R s m args below meth c Q D AC S tab L nL ρ0 wr G0 N0 H0 (pc + 1) (A, v :: st, T) cells slots) : gck_W p l e R s m args below meth c Q D AC S tab L nL ρ0 wr G0 N0 H0 pc (A, .inl q :: r :: st, T) cells slots := by
  unfold ck_ld at h
  split at h
  · split at h
    · rename_i τ ac n sg hτ
      split at h
      · rename_i hc
        obtain ⟨c1, c2, c3, c4⟩ := hc
        obtain ⟨ty, hty⟩ := Option.isSome_iff_exists.mp c2
        rw [ck_isld_ok c1] at hd
        split at h
        · rename_i k hk
          split at h
          · rename_i hp
            cases h
            exact gcw_ldTy hexec hb hKf.1 hτ hty c3 c4 hk hp hd kk
          · cases h
        · cases h
      · cases h
    · cases h
  · split at h
    · rename_i a ac es hi
      split at h
      · rename_i j hj
        split at h
        · rename_i hc
          obtain ⟨c1, c2⟩ := hc
          obtain ⟨ty, hty⟩ := Option.isSome_iff_exists.mp c2
          rw [ck_isld_ok c1] at hd
          exact gcw_ldOwn hexec hb hKf.1 hi hty (ck_one_ok hj).1 (ck_one_ok hj).2 h hd kk
        · cases h
      · split at h
        · rename_i ha hb' hh
          split at h
          · rename_i hc
            obtain ⟨c1, c2, c3, c4, c5⟩ := hc
            obtain ⟨ty, hty⟩ := Option.isSome_iff_exists.mp c2
            rw [ck_isld_ok c1] at hd
            cases h
            refine gcw_ldOwnW hexec hb hKf.1 hi hty c3 c4 (fun j v h1 h2 hj => ?_) hd kk
            refine List.all_eq_true.mp c5 v (List.mem_of_getElem? (i := j - q.1.toNat) ?_)
            rw [List.getElem?_take, if_pos (by omega), List.getElem?_drop, show q.1.toNat + (j - q.1.toNat) = j by omega]
            exact hj
          · cases h
        · cases h
    · rename_i a t es hi
      split at h
      · rename_i j hj
        split at h
        · rename_i hc
          obtain ⟨c1, rfl⟩ := hc
          rw [ck_isld_ok c1] at hd
          exact gcw_ldSn hexec hb (hKf.sta (show 2 < 3 by omega)) hi (ck_one_ok hj).1 (ck_one_ok hj).2 h hd kk
        · cases h
      · cases h
    · rename_i a t es hi
      split at h
      · rename_i k hk
        split at h
        · rename_i hc
          obtain ⟨c1, c2, rfl, c3⟩ := hc
          rw [ck_isld_ok c2] at hd
          exact gcw_ldWin (k := k.toNat) hexec hb (hKf.sta (show 2 < 3 by omega)) hi (by rw [hk, Int.toNat_of_nonneg c3]) h (hlw c1) hd kk
        · cases h
      · cases h
    · rename_i a b τ es hi
      split at h
      · rename_i ac n sg hτ
        split at h
        · rename_i hc
          obtain ⟨c1, c2⟩ := hc
          obtain ⟨ty, hty⟩ := Option.isSome_iff_exists.mp c2
          rw [ck_isld_ok c1] at hd
          split at h
          · rename_i w hw
            cases h
            unfold ck_win at hw
            split at hw
            · rename_i j hj
              split at hw
              · rename_i hbj
                exact gcw_ldFoc hexec hb hKf.1 hi hτ hty (ck_one_ok hj).1 (ck_one_ok hj).2 hbj hw hd kk
              · cases hw
            · cases hw
          · split at h
            · rename_i hc
              split at h
              · rename_i k hk
                split at h
                · rename_i hp
                  cases h
                  exact gcw_ldFocT hexec hb hKf.1 hi hτ hty hc.1 hc.2 hk hp hd kk
                · cases h
              · cases h
            · cases h
        · cases h
      · cases h
    · cases h
  · split at h
    · rename_i t hc
      obtain ⟨c1, c2, c3, c4⟩ := hc
      cases h
      rw [ck_isld_ok c1] at hd
      have hs := hKf.sta (show t < 3 by omega)
      have e : ck_slen nS t = ck_sl2 t := by
        unfold ck_slen ck_sl2
        split
        · rfl
        · rw [if_pos (by omega)]
      rw [e] at hs
      exact gcw_ldSt hexec hb hs c3 c4 hd kk
    · cases h
  · cases h
theorem gcw_len (hexec : p.tables.exec = Jvm.exec) (hb : c.code = cc) (hKf : ck_Kf D AC S L s nS) {nb : Nat × Nat} (hn1 : nb.1 ≤ nS) (hn2 : nS ≤ nb.2) {v r : ck_V} (hd : decode cc pc = .ok (.arraylength, 1)) (h : ck_len tab nb T r = some v)
    (kk : gck_W p l e R s m args below meth c Q D AC S tab L nL ρ0 wr G0 N0 H0 (pc + 1) (A, v :: st, T) cells slots) : gck_W p l e R s m args below meth c Q D AC S tab L nL ρ0 wr G0 N0 H0 pc (A, r :: st, T) cells slots := by
  unfold ck_len at h
  split at h
  · split at h
    · rename_i τ ac n sg hτ
      split at h
      · rename_i hc
        obtain ⟨c2, c3⟩ := hc
        obtain ⟨ty, hty⟩ := Option.isSome_iff_exists.mp c2
        cases h
        exact gcw_lenTy hexec hb hKf.1 hτ hty c3 hd kk
      · cases h
    · cases h
  · split at h
    · rename_i a es hi
      split at h
      · rename_i hc
        cases h
        exact gcw_lenW hexec hb (n := nS) (hKf.sta (show 2 < 3 by omega)) hi (Or.inl rfl) (by omega) (by omega) (by omega) hd kk
      · cases h
    · rename_i a es hi
      split at h
      · rename_i hc
        cases h
        exact gcw_lenW hexec hb (n := nS) (hKf.sta (show 2 < 3 by omega)) hi (Or.inr rfl) (by omega) (by omega) (by omega) hd kk
      · cases h
    · cases h
  · cases h
theorem gcw_as (hexec : p.tables.exec = Jvm.exec) (hb : c.code = cc) (hKf : ck_Kf D AC S L s nS) {i : Instr} {q : ck_Q} {v r : ck_V} {T' : List ck_C} (hd : decode cc pc = .ok (i, 1)) (h : gck_as tab wr T i v q r = some T')
    (kk : gck_W p l e R s m args below meth c Q D AC S tab L nL ρ0 wr G0 N0 H0 (pc + 1) (A, st, T') cells slots) : gck_W p l e R s m args below meth c Q D AC S tab L nL ρ0 wr G0 N0 H0 pc (A, v :: .inl q :: r :: st, T) cells slots := by
  have hcomp : ∀ {ac ci : Nat}, ck_comp ac = some ci → ck_sti ac = .aastore := by
    intro ac ci h
    match ac, h with
    | 3, _ => rfl
    | 4, _ => rfl
    | 5, _ => rfl
    | 6, _ => rfl
  unfold gck_as at h
  split at h
  · split at h
    · rename_i τ ac n sg hτ
      split at h
      · rename_i hc
        obtain ⟨c1, c3, c4⟩ := hc
        rw [ck_isst_ok c1] at hd
        split at h
        · rename_i k hk
          split at h
          · rename_i hp
            split at h
            · rename_i hpr
              cases h
              exact gcw_spTy hexec hb hKf.1 hτ c3 c4 hk hp.1 hp.2.1 hpr (gk_sw_ok hp.2.2.2) (ck_nof_ok hp.2.2.1) hd kk
            · split at h
              · rename_i ci hci
                split at h
                · rename_i ho
                  cases h
                  rw [hcomp hci] at hd
                  exact gcw_srTy hexec hb hKf.1 hτ c3 c4 hk hp.1 hp.2.1 hci (ck_oc_ok ho.1) (by simpa using ho.2) (ck_nof_ok hp.2.2.1) hd kk
                · cases h
              · cases h
          · cases h
        · cases h
      · cases h
    · cases h
  · split at h
    · rename_i a ac es j hi hj
      split at h
      · rename_i hc
        obtain ⟨c1, c2⟩ := hc
        rw [ck_isst_ok c1] at hd
        split at h
        · rename_i hpr
          cases h
          exact gcw_spOwn hexec hb hKf.1 hi (ck_one_ok hj).1 (ck_one_ok hj).2 c2 hpr hd kk
        · split at h
          · rename_i ci hci
            split at h
            · rename_i ho
              cases h
              rw [hcomp hci] at hd
              exact gcw_srOwn hexec hb hKf.1 hi (ck_one_ok hj).1 (ck_one_ok hj).2 c2 hci (ck_oc_ok ho) hd kk
            · cases h
          · cases h
      · cases h
    · rename_i a b τ es j hi hj
      split at h
      · rename_i ac n sg hτ
        split at h
        · rename_i hc
          obtain ⟨c1, c2, c3⟩ := hc
          rw [ck_isst_ok c1] at hd
          split at h
          · rename_i k hk
            split at h
            · rename_i hp
              cases h
              exact gcw_spFoc hexec hb hKf.1 hi hτ (ck_one_ok hj).1 (ck_one_ok hj).2 c2 c3 hk hp.1 hp.2.1 hp.2.2.1 (by simpa using hp.2.2.2.2) (ck_nofX_ok hp.2.2.2.1) hd kk
            · cases h
          · cases h
        · cases h
      · cases h
    · cases h
  · cases h
end CKAI
