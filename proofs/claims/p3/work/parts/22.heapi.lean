/-! ===== the checker: locals written, fields, arrays ===== -/
def ck_sto (nL : Nat) (i : Instr) (n : Nat) (A : List (Nat × ck_V)) (v : ck_V) : Option (List (Nat × ck_V)) := if A.all (fun q => ck_kn q.2) then (match i, v with
  | .istore k, .inl q => if n = 2 ∧ k < nL then some (ck_s1 A k (.inl q)) else none
  | .istore_n k, .inl q => if n = 1 ∧ k.val < nL then some (ck_s1 A k.val (.inl q)) else none
  | .astore k, .inr (.inr q) => if n = 2 ∧ k < nL ∧ q.1 < 5 then some (ck_s1 A k (.inr (.inr q))) else none
  | .astore_n k, .inr (.inr q) => if n = 1 ∧ k.val < nL ∧ q.1 < 5 then some (ck_s1 A k.val (.inr (.inr q))) else none
  | .lstore k, .inr (.inl q) => if n = 2 ∧ k + 1 < nL then some (ck_s2 A k (.inr (.inl q))) else none
  | .lstore_n k, .inr (.inl q) => if n = 1 ∧ k.val + 1 < nL then some (ck_s2 A k.val (.inr (.inl q))) else none
  | _, _ => none) else none
def ck_tgS (B : ck_A) : ck_A := match B with
  | ((i, .inl (lo, hi, none)) :: A, st, T) => if lo < hi ∧ ck_ugA (300 + i) (A, st, T) = false then ((i, .inl (lo, hi, some (300 + i, 0))) :: A, st, T) else ((i, .inl (lo, hi, none)) :: A, st, T)
  | B => B
def ck_gf (tab : List ck_D) (fl : List (Nat × Nat × Nat)) (T : List ck_C) (idx : Nat) (v : ck_V) : Option ck_V := match ck_lk fl idx, v with
  | some (ci, k), .inr (.inr (1, i)) => (match T[i]? with
    | some ((0, cj), fs) => if cj = ci then fs[k]? else none
    | some ((3, τ), fs) => (match tab[τ]? with
      | some (.inr (cj, _)) => if cj = ci then fs[k]? else none
      | _ => none)
    | _ => none)
  | some (ci, k), .inr (.inr (2, τ)) => (match tab[τ]? with
    | some (.inr (cj, ks)) => if cj = ci then (match ks[k]? with
      | some w => if ck_plain w = true then some w else none
      | none => none) else none
    | _ => none)
  | _, _ => none
def ck_fin (own nm : String) (ci k : Nat) : Bool := match ck_cl[ci]? with
  | some (C, TT, _) => !(TT k).2.2.2 || (own == C && nm == "<init>")
  | none => false
def ck_isf (c : ck_C) : Bool := c.1.1 == 3 || decide (7 ≤ c.1.1)
theorem ck_isf_ok {c : ck_C} (h : ck_foc c) : ck_isf c = true := by
  unfold ck_isf
  rcases h with z | z
  · rw [z]; rfl
  · simp [z]
/-- no typed cell of this type has a name; but for the i-th -/
def ck_nof (T : List ck_C) (τ : Nat) : Bool := T.all (fun c => !(ck_isf c && c.1.2 == τ))
def ck_nofX (i : Nat) (T : List ck_C) (τ : Nat) : Bool := (T.zipIdx).all (fun q => q.2 == i || !(ck_isf q.1 && q.1.1.2 == τ))
theorem ck_nof_ok {T : List ck_C} {τ : Nat} (h : ck_nof T τ = true) : ∀ (j : Nat) (d : ck_C), T[j]? = some d → ck_foc d → d.1.2 ≠ τ := by
  intro j d hd hf e
  have := List.all_eq_true.mp h d (List.mem_of_getElem? hd)
  rw [ck_isf_ok hf, e] at this
  simp at this
theorem ck_nofX_ok {i : Nat} {T : List ck_C} {τ : Nat} (h : ck_nofX i T τ = true) : ∀ (j : Nat) (d : ck_C), j ≠ i → T[j]? = some d → ck_foc d → d.1.2 ≠ τ := by
  intro j d hj hd hf e
  have := List.all_eq_true.mp h (d, j) (List.mem_zipIdx_iff_getElem?.mpr hd)
  simp only [ck_isf_ok hf, e, Bool.or_eq_true, beq_iff_eq] at this
  rcases this with z | z
  · exact hj z
  · simp at z
def ck_pf (tab : List ck_D) (wr : List Nat) (fl : List (Nat × Nat × Nat)) (own nm : String) (T : List ck_C) (idx : Nat) (v r : ck_V) : Option (List ck_C) := match ck_lk fl idx, r with
  | some (ci, k), .inr (.inr (1, i)) => if ck_fin own nm ci k && ck_fit (ck_yy ci k) v then (match T[i]? with
    | some ((0, cj), fs) => if cj = ci then some (T.set i ((0, ci), fs.set k v)) else none
    | some ((3, τ), fs) => (match tab[τ]? with
      | some (.inr (cj, ks)) => (match ks[k]? with
        | some kd => if cj = ci ∧ ck_le v kd = true ∧ ck_plain kd = true ∧ ck_nofX i T τ = true ∧ wr.contains τ = true then some (T.set i ((3, τ), fs.set k v)) else none
        | none => none)
      | _ => none)
    | _ => none) else none
  | some (ci, k), .inr (.inr (2, τ)) => if ck_fin own nm ci k && ck_fit (ck_yy ci k) v then (match tab[τ]? with
    | some (.inr (cj, ks)) => (match ks[k]? with
      | some kd => if cj = ci ∧ ck_le v kd = true ∧ ck_plain kd = true ∧ ck_nof T τ = true ∧ wr.contains τ = true then some T else none
      | none => none)
    | _ => none) else none
  | _, _ => none
section CKHI
variable {p : Program} {l : Launch} {e : Env} {R : Room} {s : State} {m : MethodId} {args : Array Value} {below : List Frame} {meth : Method} {c : Code} {cells slots : Nat} {Q : State → Prop}
variable {cc : ByteArray} {pc pc2 nL nS : Nat} {D : va_G} {AC : Nat → ClassId} {S : Nat → Nat} {tab : List ck_D} {L : Heap} {ρ0 : Nat → Int} {wr : List Nat} {G0 : Nat → Nat} {N0 : List Nat} {H0 : Heap}
variable {A : List (Nat × ck_V)} {st : List ck_V} {T : List ck_C} {own : String}
theorem cw_tgS {B : ck_A} (kk : ck_W p l e R s m args below meth c Q D AC S tab L nL ρ0 wr G0 N0 H0 pc (ck_tgS B) cells slots) : ck_W p l e R s m args below meth c Q D AC S tab L nL ρ0 wr G0 N0 H0 pc B cells slots := by
  unfold ck_tgS at kk
  split at kk
  · split at kk
    · rename_i h
      exact cw_tag1 h.2 (Or.inr (by omega)) kk
    · exact kk
  · exact kk
theorem cw_sto (hexec : p.tables.exec = Jvm.exec) (hb : c.code = cc) {i : Instr} {n : Nat} {v : ck_V} {A' : List (Nat × ck_V)} (hd : decode cc pc = .ok (i, n)) (h : ck_sto nL i n A v = some A')
    (k : ck_W p l e R s m args below meth c Q D AC S tab L nL ρ0 wr G0 N0 H0 (pc + n) (A', st, T) cells slots) : ck_W p l e R s m args below meth c Q D AC S tab L nL ρ0 wr G0 N0 H0 pc (A, v :: st, T) cells slots := by
  unfold ck_sto at h
  split at h
  · rename_i hkn
    split at h
    · split at h
      · rename_i hc
        obtain ⟨rfl, c1⟩ := hc
        cases h
        refine cw_store1 rfl hkn c1 (fun hv hl w => ?_) k
        obtain ⟨x, rfl, -⟩ := hv
        exact lv_istore hexec hb hd hl c1 rfl w
      · cases h
    · split at h
      · rename_i hc
        obtain ⟨rfl, c1⟩ := hc
        cases h
        refine cw_store1 rfl hkn c1 (fun hv hl w => ?_) k
        obtain ⟨x, rfl, -⟩ := hv
        exact lv_istore_n hexec hb hd rfl hl c1 rfl w
      · cases h
    · split at h
      · rename_i q hc
        obtain ⟨rfl, c1, c2⟩ := hc
        cases h
        refine cw_store1 rfl hkn c1 (fun hv hl w => ?_) k
        obtain ⟨q1, q2⟩ := q
        rcases ck_isRef hv c2 with rfl | ⟨a, rfl⟩
        · exact lv_astoreN hexec hb hd hl c1 rfl w
        · exact lv_astore hexec hb hd hl c1 rfl w
      · cases h
    · split at h
      · rename_i q hc
        obtain ⟨rfl, c1, c2⟩ := hc
        cases h
        refine cw_store1 rfl hkn c1 (fun hv hl w => ?_) k
        obtain ⟨q1, q2⟩ := q
        rcases ck_isRef hv c2 with rfl | ⟨a, rfl⟩
        · exact lv_astore_nN hexec hb hd rfl hl c1 rfl w
        · exact lv_astore_n hexec hb hd rfl hl c1 rfl w
      · cases h
    · split at h
      · rename_i hc
        obtain ⟨rfl, c1⟩ := hc
        cases h
        refine cw_store2 hkn c1 (fun hv hl w => ?_) k
        obtain ⟨x, rfl, -⟩ := hv
        exact lv_lstore hexec hb hd hl c1 rfl w
      · cases h
    · split at h
      · rename_i hc
        obtain ⟨rfl, c1⟩ := hc
        cases h
        refine cw_store2 hkn c1 (fun hv hl w => ?_) k
        obtain ⟨x, rfl, -⟩ := hv
        exact lv_lstore_n hexec hb hd rfl hl c1 rfl w
      · cases h
    · cases h
  · cases h
theorem cw_gf (hexec : p.tables.exec = Jvm.exec) (hb : c.code = cc) (hown : s.vm.findClass own = some m.cls) (hK : va_K D ck_cl (ck_tys AC) s) (hts : ∀ w ∈ ck_tb, w.before args s = true) {fl : List (Nat × Nat × Nat)} (hfl : ∀ q ∈ fl, ck_lnk own q.1 q.2.1 q.2.2) {idx : Nat} {v r : ck_V} (hd : decode cc pc = .ok (.getfield idx, 3)) (h : ck_gf tab fl T idx r = some v)
    (kk : ck_W p l e R s m args below meth c Q D AC S tab L nL ρ0 wr G0 N0 H0 (pc + 3) (A, v :: st, T) cells slots) : ck_W p l e R s m args below meth c Q D AC S tab L nL ρ0 wr G0 N0 H0 pc (A, r :: st, T) cells slots := by
  unfold ck_gf at h
  split at h
  · rename_i ci k i hl
    have hlk := hfl _ (ck_lk_mem hl)
    split at h
    · rename_i cj fs hi
      split at h
      · rename_i e
        subst e
        exact cw_getNm hexec hb hown hK hts (Or.inl rfl) hlk hi h hd kk
      · cases h
    · rename_i τ fs hi
      split at h
      · rename_i cj ks hτ
        split at h
        · rename_i e
          subst e
          exact cw_getNm hexec hb hown hK hts (Or.inr ⟨τ, ks, rfl, hτ⟩) hlk hi h hd kk
        · cases h
      · cases h
    · cases h
  · rename_i ci k τ hl
    have hlk := hfl _ (ck_lk_mem hl)
    split at h
    · rename_i cj ks hτ
      split at h
      · rename_i e
        subst e
        split at h
        · rename_i w hw
          split at h
          · rename_i hp
            cases h
            exact cw_getTy hexec hb hown hK hts hτ hlk hw hp hd kk
          · cases h
        · cases h
      · cases h
    · cases h
  · cases h
theorem ck_fin_ok {nm : String} {ci k : Nat} (h : ck_fin own nm ci k = true) (hnm : meth.name = nm) : ∀ C T n, ck_cl[ci]? = some (C, T, n) → (T k).2.2.2 = false ∨ (own = C ∧ meth.name = "<init>") := by
  intro C TT n hc
  unfold ck_fin at h
  rw [hc] at h
  simp only [Bool.or_eq_true, Bool.not_eq_true', Bool.and_eq_true, beq_iff_eq] at h
  rcases h with h | ⟨h1, h2⟩
  · exact Or.inl h
  · exact Or.inr ⟨h1, hnm.trans h2⟩
theorem cw_pf (hexec : p.tables.exec = Jvm.exec) (hb : c.code = cc) (hown : s.vm.findClass own = some m.cls) (hK : va_K D ck_cl (ck_tys AC) s) (hts : ∀ w ∈ ck_tb, w.before args s = true) {nm : String} (hnm : meth.name = nm) {fl : List (Nat × Nat × Nat)} (hfl : ∀ q ∈ fl, ck_lnk own q.1 q.2.1 q.2.2) {idx : Nat} {v r : ck_V} {T' : List ck_C} (hd : decode cc pc = .ok (.putfield idx, 3)) (h : ck_pf tab wr fl own nm T idx v r = some T')
    (kk : ck_W p l e R s m args below meth c Q D AC S tab L nL ρ0 wr G0 N0 H0 (pc + 3) (A, st, T') cells slots) : ck_W p l e R s m args below meth c Q D AC S tab L nL ρ0 wr G0 N0 H0 pc (A, v :: r :: st, T) cells slots := by
  unfold ck_pf at h
  split at h
  · rename_i ci k i hl
    have hlk := hfl _ (ck_lk_mem hl)
    split at h
    · rename_i hff
      simp only [Bool.and_eq_true] at hff
      obtain ⟨hfin, hfit⟩ := hff
      split at h
      · rename_i cj fs hi
        split at h
        · rename_i e
          subst e
          cases h
          exact cw_putOwn hexec hb hown hK hts hlk hi (ck_fin_ok hfin hnm) hfit hd kk
        · cases h
      · rename_i τ fs hi
        split at h
        · rename_i cj ks hτ
          split at h
          · rename_i kd hkd
            split at h
            · rename_i hc
              obtain ⟨rfl, c1, c2, c3, c4⟩ := hc
              cases h
              exact cw_putFoc hexec hb hown hK hts hτ hlk hi hkd c1 c2 (ck_fin_ok hfin hnm) hfit (by simpa using c4) (ck_nofX_ok c3) hd kk
            · cases h
          · cases h
        · cases h
      · cases h
    · cases h
  · rename_i ci k τ hl
    have hlk := hfl _ (ck_lk_mem hl)
    split at h
    · rename_i hff
      simp only [Bool.and_eq_true] at hff
      obtain ⟨hfin, hfit⟩ := hff
      split at h
      · rename_i cj ks hτ
        split at h
        · rename_i kd hkd
          split at h
          · rename_i hc
            obtain ⟨rfl, c1, c2, c3, c4⟩ := hc
            cases h
            exact cw_putTy hexec hb hown hK hts hτ hlk hkd c1 c2 (ck_fin_ok hfin hnm) hfit (by simpa using c4) (ck_nof_ok c3) hd kk
          · cases h
        · cases h
      · cases h
    · cases h
  · cases h
end CKHI
