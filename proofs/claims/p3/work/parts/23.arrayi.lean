/-! ===== the checker: arrays, new cells ===== -/
def ck_isld (i : Instr) (ac : Nat) : Bool := match i with
  | .iaload => ac == 0
  | .laload => ac == 1
  | .baload => ac == 2
  | .aaload => decide (3 ≤ ac)
  | _ => false
theorem ck_isld_ok {i : Instr} {ac : Nat} (h : ck_isld i ac = true) : i = ck_ldi ac := by
  unfold ck_isld at h
  unfold ck_ldi
  split at h
  · simp at h; subst h; rfl
  · simp at h; subst h; rfl
  · simp at h; subst h; rfl
  · simp at h
    rw [if_neg (by simp; omega), if_neg (by simp; omega), if_neg (by simp; omega)]
  · cases h
def ck_isst (i : Instr) (ac : Nat) : Bool := match i with
  | .iastore => ac == 0
  | .lastore => ac == 1
  | .bastore => ac == 2
  | .aastore => decide (3 ≤ ac)
  | _ => false
theorem ck_isst_ok {i : Instr} {ac : Nat} (h : ck_isst i ac = true) : i = ck_sti ac := by
  unfold ck_isst at h
  unfold ck_sti
  split at h
  · simp at h; subst h; rfl
  · simp at h; subst h; rfl
  · simp at h; subst h; rfl
  · simp at h
    rw [if_neg (by simp; omega), if_neg (by simp; omega), if_neg (by simp; omega)]
  · cases h
def ck_slen (nS j : Nat) : Nat := if j = 0 then 8 else if j = 1 then 64 else nS
def ck_one (q : ck_Q) : Option Nat := if 0 ≤ q.1 ∧ q.1 = q.2.1 then some q.1.toNat else none
theorem ck_one_ok {q : ck_Q} {j : Nat} (h : ck_one q = some j) : q.1 = (j : Int) ∧ q.2.1 = (j : Int) := by
  unfold ck_one at h
  split at h
  · cases h; omega
  · cases h
def ck_win (b : Nat) (es : List ck_V) (q : ck_Q) : Option ck_V := match ck_one q with
  | some j => if b ≤ j then es[j - b]? else none
  | none => none
def ck_hul : List ck_V → Option (Int × Int)
  | [.inl q] => some (q.1, q.2.1)
  | .inl q :: t => (match ck_hul t with
    | some (a, b) => some (ck_min q.1 a, ck_max q.2.1 b)
    | none => none)
  | _ => none
def ck_sl2 (j : Nat) : Nat := if j = 0 then 8 else 64
def ck_ld (tab : List ck_D) (lw : Bool) (T : List ck_C) (i : Instr) (q : ck_Q) (r : ck_V) : Option ck_V := match r with
  | .inr (.inr (2, τ)) => (match tab[τ]? with
    | some (.inl (ac, n, sg)) => if ck_isld i ac = true ∧ (ck_tyK ac).isSome = true ∧ 0 ≤ q.1 ∧ q.2.1 < (n : Int) then (match ck_rd sg q.1.toNat q.2.1.toNat with
      | some k => if ck_plain k = true then some k else none
      | none => none) else none
    | _ => none)
  | .inr (.inr (1, a)) => (match T[a]? with
    | some ((1, ac), es) => (match ck_one q with
      | some j => if ck_isld i ac = true ∧ (ck_tyK ac).isSome = true then es[j]? else none
      | none => (match ck_hul ((es.drop q.1.toNat).take ((q.2.1 - q.1).toNat + 1)) with
        | some (a, b) => if ck_isld i ac = true ∧ (ck_tyK ac).isSome = true ∧ 0 ≤ q.1 ∧ q.2.1 < (es.length : Int) ∧ ((es.drop q.1.toNat).take ((q.2.1 - q.1).toNat + 1)).all (fun v => ck_le v (.inl (a, b, none))) = true then some (.inl (a, b, none)) else none
        | none => none))
    | some ((5, t), es) => (match ck_one q with
      | some j => if ck_isld i 0 = true ∧ t = 2 then es[j]? else none
      | none => none)
    | some ((6, t), es) => (match q.2.2 with
      | some (149, k) => if lw = true ∧ ck_isld i 0 = true ∧ t = 2 ∧ 0 ≤ k then es[k.toNat]? else none
      | _ => none)
    | some ((b + 7, τ), es) => (match tab[τ]? with
      | some (.inl (ac, n, sg)) => if ck_isld i ac = true ∧ (ck_tyK ac).isSome = true then (match ck_win b es q with
        | some v => some v
        | none => if 0 ≤ q.1 ∧ q.2.1 < (n : Int) then (match ck_rd sg q.1.toNat q.2.1.toNat with
          | some k => if ck_plain k = true then some k else none
          | none => none) else none) else none
      | _ => none)
    | _ => none)
  | .inr (.inr (3, t)) => if ck_isld i 0 = true ∧ t < 2 ∧ 0 ≤ q.1 ∧ q.2.1 < (ck_sl2 t : Int) then some ck_full else none
  | _ => none
def ck_len (tab : List ck_D) (nb : Nat × Nat) (T : List ck_C) (r : ck_V) : Option ck_V := match r with
  | .inr (.inr (2, τ)) => (match tab[τ]? with
    | some (.inl (ac, n, _)) => if (ck_tyK ac).isSome = true ∧ n < 2147483648 then some (.inl ((n : Int), (n : Int), none)) else none
    | _ => none)
  | .inr (.inr (1, a)) => (match T[a]? with
    | some ((5, 2), _) => if nb.2 < 2147483648 then some (.inl ((nb.1 : Int), (nb.2 : Int), none)) else none
    | some ((6, 2), _) => if nb.2 < 2147483648 then some (.inl ((nb.1 : Int), (nb.2 : Int), none)) else none
    | _ => none)
  | _ => none
/-- the class of the object that a reference leads to -/
def ck_oc (tab : List ck_D) (T : List ck_C) (v : ck_V) : Option Nat := match v with
  | .inr (.inr (2, τ)) => (match tab[τ]? with
    | some (.inr (ci, _)) => some ci
    | _ => none)
  | .inr (.inr (1, i)) => (match T[i]? with
    | some ((0, ci), _) => some ci
    | some ((3, τ), _) => (match tab[τ]? with
      | some (.inr (ci, _)) => some ci
      | _ => none)
    | _ => none)
  | _ => none
theorem ck_oc_ok {tab : List ck_D} {T : List ck_C} {v : ck_V} {ci : Nat} (h : ck_oc tab T v = some ci) : (∃ τ ks, v = .inr (.inr (2, τ)) ∧ tab[τ]? = some (.inr (ci, ks))) ∨ (∃ i fs, v = .inr (.inr (1, i)) ∧ T[i]? = some ((0, ci), fs)) ∨ (∃ i τ ks fs, v = .inr (.inr (1, i)) ∧ T[i]? = some ((3, τ), fs) ∧ tab[τ]? = some (.inr (ci, ks))) := by
  unfold ck_oc at h
  split at h
  · split at h
    · rename_i τ cj ks hτ
      cases h
      exact Or.inl ⟨_, ks, rfl, hτ⟩
    · cases h
  · split at h
    · rename_i i cj fs hi
      cases h
      exact Or.inr (Or.inl ⟨_, fs, rfl, hi⟩)
    · rename_i i τ fs hi
      split at h
      · rename_i cj ks hτ
        cases h
        exact Or.inr (Or.inr ⟨_, τ, ks, fs, rfl, hi, hτ⟩)
      · cases h
    · cases h
  · cases h
def ck_as (tab : List ck_D) (wr : List Nat) (T : List ck_C) (i : Instr) (v : ck_V) (q : ck_Q) (r : ck_V) : Option (List ck_C) := match r with
  | .inr (.inr (2, τ)) => (match tab[τ]? with
    | some (.inl (ac, n, sg)) => if ck_isst i ac = true ∧ 0 ≤ q.1 ∧ q.2.1 < (n : Int) then (match ck_rd sg q.1.toNat q.2.1.toNat with
      | some k => if ck_le v k = true ∧ ck_plain k = true ∧ ck_nof T τ = true ∧ wr.contains τ = true then (if ck_prim ac v = true then some T else (match ck_comp ac with
        | some ci => if ck_oc tab T v = some ci then some T else none
        | none => none)) else none
      | none => none) else none
    | _ => none)
  | .inr (.inr (1, a)) => (match T[a]?, ck_one q with
    | some ((1, ac), es), some j => if ck_isst i ac = true ∧ j < es.length then (if ck_prim ac v = true then some (T.set a ((1, ac), es.set j v)) else (match ck_comp ac with
      | some ci => if ck_oc tab T v = some ci then some (T.set a ((1, ac), es.set j v)) else none
      | none => none)) else none
    | some ((b + 7, τ), es), some j => (match tab[τ]? with
      | some (.inl (ac, n, sg)) => if ck_isst i ac = true ∧ j < n ∧ b ≤ j then (match ck_rd sg j j with
        | some k => if ck_le v k = true ∧ ck_plain k = true ∧ ck_prim ac v = true ∧ ck_nofX a T τ = true ∧ wr.contains τ = true then some (T.set a ((b + 7, τ), es.set (j - b) v)) else none
        | none => none) else none
      | _ => none)
    | _, _ => none)
  | _ => none
section CKAI
variable {p : Program} {l : Launch} {e : Env} {R : Room} {s : State} {m : MethodId} {args : Array Value} {below : List Frame} {meth : Method} {c : Code} {cells slots : Nat} {Q : State → Prop}
variable {cc : ByteArray} {pc pc2 nL nS : Nat} {D : va_G} {AC : Nat → ClassId} {S : Nat → Nat} {tab : List ck_D} {L : Heap} {ρ0 : Nat → Int} {wr : List Nat} {G0 : Nat → Nat} {N0 : List Nat} {H0 : Heap}
variable {A : List (Nat × ck_V)} {st : List ck_V} {T : List ck_C} {own : String}
theorem ck_Kf.sta (h : ck_Kf D AC S L s nS) {t : Nat} (ht : t < 3) : ck_sta S L s t (ck_slen nS t) := by
  match t, ht with
  | 0, _ => exact h.2.2.2.1
  | 1, _ => exact h.2.2.2.2.2.1
  | 2, _ => exact h.2.2.2.2.2.2.1
theorem cw_ld (hexec : p.tables.exec = Jvm.exec) (hb : c.code = cc) (hKf : ck_Kf D AC S L s nS) {lw : Bool} (hlw : lw = true → ρ0 149 = (S 3 : Int)) {i : Instr} {q : ck_Q} {v r : ck_V} (hd : decode cc pc = .ok (i, 1)) (h : ck_ld tab lw T i q r = some v)
    (kk : ck_W p l e R s m args below meth c Q D AC S tab L nL ρ0 wr G0 N0 H0 (pc + 1) (A, v :: st, T) cells slots) : ck_W p l e R s m args below meth c Q D AC S tab L nL ρ0 wr G0 N0 H0 pc (A, .inl q :: r :: st, T) cells slots := by
  unfold ck_ld at h
  split at h
  · split at h
    · rename_i τ ac n sg hτ
      split at h
      · rename_i hc
        obtain ⟨c1, c2, c3, c4⟩ := hc
        obtain ⟨ty, hty⟩ := Option.isSome_iff_exists.mp c2
        rw [ck_isld_ok c1] at hd
        split at h
        · rename_i k hk
          split at h
          · rename_i hp
            cases h
            exact cw_ldTy hexec hb hKf.1 hτ hty c3 c4 hk hp hd kk
          · cases h
        · cases h
      · cases h
    · cases h
  · split at h
    · rename_i a ac es hi
      split at h
      · rename_i j hj
        split at h
        · rename_i hc
          obtain ⟨c1, c2⟩ := hc
          obtain ⟨ty, hty⟩ := Option.isSome_iff_exists.mp c2
          rw [ck_isld_ok c1] at hd
          exact cw_ldOwn hexec hb hKf.1 hi hty (ck_one_ok hj).1 (ck_one_ok hj).2 h hd kk
        · cases h
      · split at h
        · rename_i ha hb' hh
          split at h
          · rename_i hc
            obtain ⟨c1, c2, c3, c4, c5⟩ := hc
            obtain ⟨ty, hty⟩ := Option.isSome_iff_exists.mp c2
            rw [ck_isld_ok c1] at hd
            cases h
            refine cw_ldOwnW hexec hb hKf.1 hi hty c3 c4 (fun j v h1 h2 hj => ?_) hd kk
            refine List.all_eq_true.mp c5 v (List.mem_of_getElem? (i := j - q.1.toNat) ?_)
            rw [List.getElem?_take, if_pos (by omega), List.getElem?_drop, show q.1.toNat + (j - q.1.toNat) = j by omega]
            exact hj
          · cases h
        · cases h
    · rename_i a t es hi
      split at h
      · rename_i j hj
        split at h
        · rename_i hc
          obtain ⟨c1, rfl⟩ := hc
          rw [ck_isld_ok c1] at hd
          exact cw_ldSn hexec hb (hKf.sta (show 2 < 3 by omega)) hi (ck_one_ok hj).1 (ck_one_ok hj).2 h hd kk
        · cases h
      · cases h
    · rename_i a t es hi
      split at h
      · rename_i k hk
        split at h
        · rename_i hc
          obtain ⟨c1, c2, rfl, c3⟩ := hc
          rw [ck_isld_ok c2] at hd
          exact cw_ldWin (k := k.toNat) hexec hb (hKf.sta (show 2 < 3 by omega)) hi (by rw [hk, Int.toNat_of_nonneg c3]) h (hlw c1) hd kk
        · cases h
      · cases h
    · rename_i a b τ es hi
      split at h
      · rename_i ac n sg hτ
        split at h
        · rename_i hc
          obtain ⟨c1, c2⟩ := hc
          obtain ⟨ty, hty⟩ := Option.isSome_iff_exists.mp c2
          rw [ck_isld_ok c1] at hd
          split at h
          · rename_i w hw
            cases h
            unfold ck_win at hw
            split at hw
            · rename_i j hj
              split at hw
              · rename_i hbj
                exact cw_ldFoc hexec hb hKf.1 hi hτ hty (ck_one_ok hj).1 (ck_one_ok hj).2 hbj hw hd kk
              · cases hw
            · cases hw
          · split at h
            · rename_i hc
              split at h
              · rename_i k hk
                split at h
                · rename_i hp
                  cases h
                  exact cw_ldFocT hexec hb hKf.1 hi hτ hty hc.1 hc.2 hk hp hd kk
                · cases h
              · cases h
            · cases h
        · cases h
      · cases h
    · cases h
  · split at h
    · rename_i t hc
      obtain ⟨c1, c2, c3, c4⟩ := hc
      cases h
      rw [ck_isld_ok c1] at hd
      have hs := hKf.sta (show t < 3 by omega)
      have e : ck_slen nS t = ck_sl2 t := by
        unfold ck_slen ck_sl2
        split
        · rfl
        · rw [if_pos (by omega)]
      rw [e] at hs
      exact cw_ldSt hexec hb hs c3 c4 hd kk
    · cases h
  · cases h
theorem cw_len (hexec : p.tables.exec = Jvm.exec) (hb : c.code = cc) (hKf : ck_Kf D AC S L s nS) {nb : Nat × Nat} (hn1 : nb.1 ≤ nS) (hn2 : nS ≤ nb.2) {v r : ck_V} (hd : decode cc pc = .ok (.arraylength, 1)) (h : ck_len tab nb T r = some v)
    (kk : ck_W p l e R s m args below meth c Q D AC S tab L nL ρ0 wr G0 N0 H0 (pc + 1) (A, v :: st, T) cells slots) : ck_W p l e R s m args below meth c Q D AC S tab L nL ρ0 wr G0 N0 H0 pc (A, r :: st, T) cells slots := by
  unfold ck_len at h
  split at h
  · split at h
    · rename_i τ ac n sg hτ
      split at h
      · rename_i hc
        obtain ⟨c2, c3⟩ := hc
        obtain ⟨ty, hty⟩ := Option.isSome_iff_exists.mp c2
        cases h
        exact cw_lenTy hexec hb hKf.1 hτ hty c3 hd kk
      · cases h
    · cases h
  · split at h
    · rename_i a es hi
      split at h
      · rename_i hc
        cases h
        exact cw_lenW hexec hb (n := nS) (hKf.sta (show 2 < 3 by omega)) hi (Or.inl rfl) (by omega) (by omega) (by omega) hd kk
      · cases h
    · rename_i a es hi
      split at h
      · rename_i hc
        cases h
        exact cw_lenW hexec hb (n := nS) (hKf.sta (show 2 < 3 by omega)) hi (Or.inr rfl) (by omega) (by omega) (by omega) hd kk
      · cases h
    · cases h
  · cases h
theorem cw_as (hexec : p.tables.exec = Jvm.exec) (hb : c.code = cc) (hKf : ck_Kf D AC S L s nS) {i : Instr} {q : ck_Q} {v r : ck_V} {T' : List ck_C} (hd : decode cc pc = .ok (i, 1)) (h : ck_as tab wr T i v q r = some T')
    (kk : ck_W p l e R s m args below meth c Q D AC S tab L nL ρ0 wr G0 N0 H0 (pc + 1) (A, st, T') cells slots) : ck_W p l e R s m args below meth c Q D AC S tab L nL ρ0 wr G0 N0 H0 pc (A, v :: .inl q :: r :: st, T) cells slots := by
  have hcomp : ∀ {ac ci : Nat}, ck_comp ac = some ci → ck_sti ac = .aastore := by
    intro ac ci h
    match ac, h with
    | 3, _ => rfl
    | 4, _ => rfl
    | 5, _ => rfl
    | 6, _ => rfl
  unfold ck_as at h
  split at h
  · split at h
    · rename_i τ ac n sg hτ
      split at h
      · rename_i hc
        obtain ⟨c1, c3, c4⟩ := hc
        rw [ck_isst_ok c1] at hd
        split at h
        · rename_i k hk
          split at h
          · rename_i hp
            split at h
            · rename_i hpr
              cases h
              exact cw_spTy hexec hb hKf.1 hτ c3 c4 hk hp.1 hp.2.1 hpr (by simpa using hp.2.2.2) (ck_nof_ok hp.2.2.1) hd kk
            · split at h
              · rename_i ci hci
                split at h
                · rename_i ho
                  cases h
                  rw [hcomp hci] at hd
                  exact cw_srTy hexec hb hKf.1 hτ c3 c4 hk hp.1 hp.2.1 hci (ck_oc_ok ho) (by simpa using hp.2.2.2) (ck_nof_ok hp.2.2.1) hd kk
                · cases h
              · cases h
          · cases h
        · cases h
      · cases h
    · cases h
  · split at h
    · rename_i a ac es j hi hj
      split at h
      · rename_i hc
        obtain ⟨c1, c2⟩ := hc
        rw [ck_isst_ok c1] at hd
        split at h
        · rename_i hpr
          cases h
          exact cw_spOwn hexec hb hKf.1 hi (ck_one_ok hj).1 (ck_one_ok hj).2 c2 hpr hd kk
        · split at h
          · rename_i ci hci
            split at h
            · rename_i ho
              cases h
              rw [hcomp hci] at hd
              exact cw_srOwn hexec hb hKf.1 hi (ck_one_ok hj).1 (ck_one_ok hj).2 c2 hci (ck_oc_ok ho) hd kk
            · cases h
          · cases h
      · cases h
    · rename_i a b τ es j hi hj
      split at h
      · rename_i ac n sg hτ
        split at h
        · rename_i hc
          obtain ⟨c1, c2, c3⟩ := hc
          rw [ck_isst_ok c1] at hd
          split at h
          · rename_i k hk
            split at h
            · rename_i hp
              cases h
              exact cw_spFoc hexec hb hKf.1 hi hτ (ck_one_ok hj).1 (ck_one_ok hj).2 c2 c3 hk hp.1 hp.2.1 hp.2.2.1 (by simpa using hp.2.2.2.2) (ck_nofX_ok hp.2.2.2.1) hd kk
            · cases h
          · cases h
        · cases h
      · cases h
    · cases h
  · cases h
end CKAI
