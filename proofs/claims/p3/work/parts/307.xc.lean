/-! ===== exact runs: branches, arrays, fields, copying ===== -/
abbrev xk_X : Type := Nat × List (Nat × xk_V) × List xk_V × List xk_C × List xk_E × Nat
def xk_rt (j : Nat) : List Int := if j = 0 then [1779033703, -1150833019, 1013904242, -1521486534, 1359893119, -1694144372, 528734635, 1541459225] else
  [1116352408, 1899447441, -1245643825, -373957723, 961987163, 1508970993, -1841331548, -1424204075, -670586216, 310598401, 607225278, 1426881987, 1925078388, -2132889090, -1680079193, -1046744716, -459576895, -272742522, 264347078, 604807628, 770255983, 1249150122, 1555081692, 1996064986, -1740746414, -1473132947, -1341970488, -1084653625, -958395405, -710438585, 113926993, 338241895, 666307205, 773529912, 1294757372, 1396182291, 1695183700, 1986661051, -2117940946, -1838011259, -1564481375, -1474664885, -1035236496, -949202525, -778901479, -694614492, -200395387, 275423344, 430227734, 506948616, 659060556, 883997877, 958139571, 1322822218, 1537002063, 1747873779, 1955562222, 2024104815, -2067236844, -1933114872, -1866530822, -1538233109, -1090935817, -965641998]
def xk_St (S : Nat → Nat) (L : Heap) (s : State) : Prop := ∀ j, j < 2 → ∃ cell : Cell, L[S j]? = some cell ∧ S j < L.size ∧ s.isArrayOf cell .int ∧ cell.vm ≠ .unknown ∧ cell.slots.size = (xk_rt j).length ∧ ∀ (k : Nat) (v : Int), (xk_rt j)[k]? = some v → ∃ x : Int32, cell.slots[k]? = some (.int x) ∧ x.toInt = v
theorem xk_St.moved {S : Nat → Nat} {L : Heap} {u U : State} (hvm : u.vm.Alike U.vm) (h : xk_St S L u) : xk_St S L U := by
  intro j hj
  obtain ⟨cell, h1, h2, h3, h4⟩ := h j hj
  exact ⟨cell, h1, h2, State.isArrayOf_alike hvm h3, h4⟩
def xk_L (L H0 : Heap) : Prop := L.size ≤ H0.size ∧ ∀ q, q < L.size → H0[q]? = L[q]?
theorem xk_base {D : va_G} {AC : Nat → ClassId} {S : Nat → Nat} {θ : Nat → Value} {L : Heap} {ρ : Nat → Int} {N : List Nat} {T : List xk_C} {H0 H : Heap} (hL : xk_L L H0) (h : xk_H D AC S θ L ρ N T H) (hF : xk_F N H0 H) {q : Nat} (hq : q < L.size) : H[q]? = L[q]? := by
  rw [hF.2 q (fun hm => ?_)]
  · exact hL.2 q hq
  · obtain ⟨i, hi⟩ := List.getElem?_of_mem hm
    have hil : i < T.length := by rw [← h.1]; exact (List.getElem?_eq_some_iff.mp hi).1
    have := (h.2.2 i _ q (List.getElem?_eq_getElem hil) hi).1
    omega
theorem xk_hb_iff (k : ClassFile.Cond) (x y : Int) : xk_hb (xk_cd k) x y = true ↔ ck_hold k x y := by
  cases k <;> simp [xk_hb, xk_cd, ck_hold]
def xk_c1 (x : Option (Instr × Nat)) : Option xk_V := match x with
  | some (.iconst v, 1) => if -1 ≤ v ∧ v ≤ 5 then some (0, 0, v) else none
  | some (.lconst v, 1) => some (1, 0, (v.val : Int))
  | _ => none
/-- one of two constants, by a condition -/
def xk_sel (cod : List (List (Nat × Instr × Nat))) (pc t : Nat) : Option (Nat × Int × Int) := match xk_c1 (ck_cdAt cod (pc + 3)), ck_cdAt cod (pc + 4), xk_c1 (ck_cdAt cod t) with
  | some (ka, _, a), some (.goto off, 3), some (kb, _, b) => if ka = kb ∧ ((pc + 4 : Nat) : Int) + off = ((t + 1 : Nat) : Int) then some (ka, a, b) else none
  | _, _, _ => none
def xk_br2 (cod : List (List (Nat × Instr × Nat))) (k : ClassFile.Cond) (off : Int) (pc : Nat) (a b : xk_O) (A : List (Nat × xk_V)) (r : List xk_V) (T : List xk_C) (tb : List xk_E) (nx : Nat) : Option xk_X := match ck_tgt pc off with
  | some t => if a.1 = 0 ∧ b.1 = 0 then some (if xk_hb (xk_cd k) a.2 b.2 then t else pc + 3, A, r, T, tb, nx) else (match xk_sel cod pc t with
    | some (kd, u, v) => some (t + 1, A, (kd, (xk_mk (40 + xk_cd k) [a, b, (0, u), (0, v)] tb nx).1) :: r, T, (xk_mk (40 + xk_cd k) [a, b, (0, u), (0, v)] tb nx).2.1, (xk_mk (40 + xk_cd k) [a, b, (0, u), (0, v)] tb nx).2.2)
    | none => none)
  | none => none
def xk_br (cod : List (List (Nat × Instr × Nat))) (nL : Nat) (i : Instr) (n : Nat) (x : xk_X) : Option xk_X := match i, x.2.2.1 with
  | .goto off, st => if n = 3 then (match ck_tgt x.1 off with
    | some t => some (t, x.2.1, st, x.2.2.2)
    | none => none) else none
  | .ifCond k off, (0, a) :: r => if n = 3 then xk_br2 cod k off x.1 a (0, 0) x.2.1 r x.2.2.2.1 x.2.2.2.2.1 x.2.2.2.2.2 else none
  | .if_icmp k off, (0, b) :: (0, a) :: r => if n = 3 then xk_br2 cod k off x.1 a b x.2.1 r x.2.2.2.1 x.2.2.2.2.1 x.2.2.2.2.2 else none
  | .iinc j v, st => (match xk_loc x.2.1 j with
    | some (0, o) => if n = 3 ∧ j < nL ∧ x.2.1.all (fun q => xk_kn q.2) = true then some (x.1 + 3, xk_s1 x.2.1 j (0, (xk_mk 0 [o, (0, v)] x.2.2.2.2.1 x.2.2.2.2.2).1), st, x.2.2.2.1, (xk_mk 0 [o, (0, v)] x.2.2.2.2.1 x.2.2.2.2.2).2) else none
    | _ => none)
  | _, _ => none
def xk_idx (v : xk_V) : Option Nat := if v.1 = 0 ∧ v.2.1 = 0 ∧ 0 ≤ v.2.2 then some v.2.2.toNat else none
def xk_ld (i : Instr) (st : List xk_V) (T : List xk_C) : Option (List xk_V) := match st with
  | ix :: (2, (a, _)) :: r => (match xk_idx ix, T[a]? with
    | some j, some ((_ + 1, ac), es) => if ck_isld i ac = true ∧ (ck_tyK ac).isSome = true then (match es[j]? with
      | some v => some (v :: r)
      | none => none) else none
    | _, _ => none)
  | ix :: (3, (j0, _)) :: r => (match xk_idx ix, i with
    | some j, .iaload => if j0 < 2 then (match (xk_rt j0)[j]? with
      | some v => some ((0, 0, v) :: r)
      | none => none) else none
    | _, _ => none)
  | _ => none
def xk_as (i : Instr) (st : List xk_V) (T : List xk_C) : Option (List xk_V × List xk_C) := match i, st with
  | .iastore, (0, o) :: ix :: (2, (a, _)) :: r => (match xk_idx ix, T[a]? with
    | some j, some ((k + 1, 0), es) => if j < es.length then some (r, T.set a ((k + 1, 0), es.set j (0, o))) else none
    | _, _ => none)
  | .lastore, (1, o) :: ix :: (2, (a, _)) :: r => (match xk_idx ix, T[a]? with
    | some j, some ((k + 1, 1), es) => if j < es.length then some (r, T.set a ((k + 1, 1), es.set j (1, o))) else none
    | _, _ => none)
  | _, _ => none
def xk_gf (fl : List (Nat × Nat × Nat)) (idx : Nat) (st : List xk_V) (T : List xk_C) : Option (List xk_V) := match st with
  | (2, (a, _)) :: r => (match ck_lk fl idx, T[a]? with
    | some (ci, k), some ((0, cj), fs) => if cj = ci then (match fs[k]? with
      | some v => some (v :: r)
      | none => none) else none
    | _, _ => none)
  | _ => none
def xk_pf (fl : List (Nat × Nat × Nat)) (own nm : String) (idx : Nat) (st : List xk_V) (T : List xk_C) : Option (List xk_V × List xk_C) := match st with
  | (0, o) :: (2, (a, _)) :: r => (match ck_lk fl idx, T[a]? with
    | some (ci, k), some ((0, cj), fs) => if cj = ci ∧ ck_fin own nm ci k = true ∧ ck_yy ci k = .int then some (r, T.set a ((0, ci), fs.set k (0, o))) else none
    | _, _ => none)
  | _ => none
/-- the numbers that are copied -/
def xk_src (T : List xk_C) (ac : Nat) (v : xk_V) : Option (List xk_V) := match v with
  | (2, (a, _)) => (match T[a]? with
    | some ((_ + 1, ac'), es) => if ac' = ac then some es else none
    | _ => none)
  | (3, (j, _)) => if ac = 0 ∧ j < 2 then some ((xk_rt j).map (fun v => (0, 0, v))) else none
  | _ => none
def xk_cpy (cy : List Nat) (fr lo : Nat) (i : Instr) (n : Nat) (st : List xk_V) (T : List xk_C) : Option (List xk_V × List xk_C) := match i, st with
  | .invokestatic idx, qn :: qd :: (2, (a, _)) :: qs :: v :: r => (match xk_idx qn, xk_idx qd, xk_idx qs, T[a]? with
    | some k, some dp, some sp, some ((kk + 1, ac), es) => (match xk_src T ac v with
      | some es0 => if n = 3 ∧ cy.contains idx = true ∧ (ac = 0 ∨ ac = 1) ∧ sp + k ≤ es0.length ∧ dp + k ≤ es.length ∧ es0.all (fun q => q.1 == ac) = true ∧ r.all xk_kn = true ∧ 1 ≤ fr ∧ (r.map fun v => if v.1 == 1 then 2 else 1).sum + 18 ≤ lo then some (r, T.set a ((kk + 1, ac), es.take dp ++ ((es0.drop sp).take k ++ es.drop (dp + k)))) else none
      | none => none)
    | _, _, _, _ => none)
  | _, _ => none
section XKC
variable {p : Program} {l : Launch} {e : Env} {R : Room} {s : State} {m : MethodId} {args : Array Value} {below : List Frame} {meth : Method} {c : Code} {Q : State → Prop}
variable {cc : ByteArray} {pc pc2 nL : Nat} {D : va_G} {AC : Nat → ClassId} {S : Nat → Nat} {θ : Nat → Value} {L : Heap} {ρ : Nat → Int} {N : List Nat} {H0 : Heap}
variable {A : List (Nat × xk_V)} {st : List xk_V} {T : List xk_C} {own : String} {cod : List (List (Nat × Instr × Nat))} {Φ : Nat → Nat → List Int → Int} {wd : Nat → Nat}
theorem xk_words {st : List xk_V} {vs : List Value} (h : ck_all (xk_R S θ ρ N) st vs) (hk : st.all xk_kn = true) : (vs.map fun v => v.category).sum = (st.map fun v => if v.1 == 1 then 2 else 1).sum := by
  induction st generalizing vs with
  | nil =>
    have : vs = [] := by
      have := h.1
      cases vs with
      | nil => rfl
      | cons a b => simp at this
    subst this
    rfl
  | cons k t ih =>
    obtain ⟨v, vs', rfl, h1, h2⟩ := h.uncons
    simp only [List.all_cons, Bool.and_eq_true] at hk
    simp only [List.map_cons, List.sum_cons]
    rw [ih h2 hk.2]
    congr 1
    have := xk_cat h1 hk.1
    rcases lv_cat v with e | e
    · rw [e] at this ⊢
      have e2 : (k.1 == 1) = false := this.symm
      rw [e2]
      rfl
    · rw [e] at this ⊢
      have e2 : (k.1 == 1) = true := this.symm
      rw [e2]
      rfl
theorem xk_icmp (hexec : p.tables.exec = Jvm.exec) (hb : c.code = cc) {H : Heap} {locs : List Loc} {ls : Array Slot} {rest : List Value} {k : ClassFile.Cond} {x y : Int32} {tgt : Nat} {off : Int} (hd : decode cc pc = .ok (.if_icmp k off, 3)) (ht : (pc : Int) + off = (tgt : Int))
    (w1 : ck_hold k x.toInt y.toInt → W p l e R s m args below meth c H locs 0 0 Q (F0 m tgt ls rest)) (w2 : ¬ ck_hold k x.toInt y.toInt → W p l e R s m args below meth c H locs 0 0 Q (F0 m (pc + 3) ls rest)) : W p l e R s m args below meth c H locs 0 0 Q (F0 m pc ls (.int y :: .int x :: rest)) := by
  cases k with
  | eq => exact lv_icmp_eq hexec hb hd ht (fun h => w1 (by rw [h]; rfl)) (fun h => w2 (fun q => h (Int32.toInt_inj.mp q)))
  | ne => exact lv_icmp_ne hexec hb hd ht (fun h => w1 (fun q => h (Int32.toInt_inj.mp q))) (fun h => w2 (fun q => q (by rw [h])))
  | lt => exact lv_icmp_lt hexec hb hd ht (fun h => w1 (Int32.lt_iff_toInt_lt.mp h)) (fun h => w2 (fun q => h (Int32.lt_iff_toInt_lt.mpr q)))
  | ge => exact lv_icmp_ge hexec hb hd ht (fun h => w1 (Int32.le_iff_toInt_le.mp h)) (fun h => w2 (fun q => h (Int32.le_iff_toInt_le.mpr q)))
  | gt => exact lv_icmp_gt hexec hb hd ht (fun h => w1 (Int32.lt_iff_toInt_lt.mp h)) (fun h => w2 (fun q => h (Int32.lt_iff_toInt_lt.mpr q)))
  | le => exact lv_icmp_le hexec hb hd ht (fun h => w1 (Int32.le_iff_toInt_le.mp h)) (fun h => w2 (fun q => h (Int32.le_iff_toInt_le.mpr q)))
theorem xk_ifc (hexec : p.tables.exec = Jvm.exec) (hb : c.code = cc) {H : Heap} {locs : List Loc} {ls : Array Slot} {rest : List Value} {k : ClassFile.Cond} {x : Int32} {tgt : Nat} {off : Int} (hd : decode cc pc = .ok (.ifCond k off, 3)) (ht : (pc : Int) + off = (tgt : Int))
    (w1 : ck_hold k x.toInt 0 → W p l e R s m args below meth c H locs 0 0 Q (F0 m tgt ls rest)) (w2 : ¬ ck_hold k x.toInt 0 → W p l e R s m args below meth c H locs 0 0 Q (F0 m (pc + 3) ls rest)) : W p l e R s m args below meth c H locs 0 0 Q (F0 m pc ls (.int x :: rest)) := by
  have z : (0 : Int32).toInt = 0 := rfl
  cases k with
  | eq => exact lv_if_eq hexec hb hd ht (fun h => w1 (by rw [h]; rfl)) (fun h => w2 (fun q => h (Int32.toInt_inj.mp q)))
  | ne => exact lv_if_ne hexec hb hd ht (fun h => w1 (fun q => h (Int32.toInt_inj.mp q))) (fun h => w2 (fun q => q (by rw [h]; rfl)))
  | lt => exact lv_if_lt hexec hb hd ht (fun h => w1 (Int32.lt_iff_toInt_lt.mp h)) (fun h => w2 (fun q => h (Int32.lt_iff_toInt_lt.mpr q)))
  | ge => exact lv_if_ge hexec hb hd ht (fun h => w1 (Int32.le_iff_toInt_le.mp h)) (fun h => w2 (fun q => h (Int32.le_iff_toInt_le.mpr q)))
  | gt => exact lv_if_gt hexec hb hd ht (fun h => w1 (Int32.lt_iff_toInt_lt.mp h)) (fun h => w2 (fun q => h (Int32.lt_iff_toInt_lt.mpr q)))
  | le => exact lv_if_le hexec hb hd ht (fun h => w1 (Int32.le_iff_toInt_le.mp h)) (fun h => w2 (fun q => h (Int32.le_iff_toInt_le.mpr q)))
theorem xw_c1 (hexec : p.tables.exec = Jvm.exec) (hb : c.code = cc) (hcod : ∀ pc i n, ck_cdAt cod pc = some (i, n) → decode cc pc = .ok (i, n)) {t kd z : Nat} {b : Int} (h : xk_c1 (ck_cdAt cod t) = some (kd, z, b)) {o : xk_O} (ho : xk_ov ρ o = b)
    (k : xk_W p l e R s m args below meth c Q D AC S θ L nL ρ N H0 (t + 1) (A, (kd, o) :: st, T)) : xk_W p l e R s m args below meth c Q D AC S θ L nL ρ N H0 t (A, st, T) := by
  unfold xk_c1 at h
  split at h
  · rename_i v hv
    split at h
    · rename_i hr
      cases h
      exact xw_push (k := (0, o)) (.int (Int32.ofInt b)) ⟨_, rfl, by dsimp only; rw [ho]; exact ck_ofInt (by omega) (by omega)⟩ (fun w => lv_iconst hexec hb (hcod _ _ _ hv) rfl w) k
    · cases h
  · rename_i v hv
    cases h
    refine xw_push (k := (1, o)) (.long (Int64.ofNat (v : Nat))) ⟨_, rfl, ?_⟩ (fun w => lv_lconst hexec hb (hcod _ _ _ hv) rfl w) k
    show _ = xk_ov ρ o
    rw [ho]
    match v with
    | 0 => rfl
    | 1 => rfl
  · cases h
theorem xk_two (hexec : p.tables.exec = Jvm.exec) (hb : c.code = cc) (hcod : ∀ pc i n, ck_cdAt cod pc = some (i, n) → decode cc pc = .ok (i, n)) {k : ClassFile.Cond} {off : Int} {a b : xk_O} {tb : List xk_E} {nx : Nat} {X : xk_X} (h : xk_br2 cod k off pc a b A st T tb nx = some X) (hnx : 0 < nx) (ht : xk_tok Φ wd ρ X.2.2.2.2.1)
    (kk : xk_W p l e R s m args below meth c Q D AC S θ L nL ρ N H0 X.1 (X.2.1, X.2.2.1, X.2.2.2.1)) : ∃ t : Nat, (pc : Int) + off = (t : Int) ∧ (ck_hold k (xk_ov ρ a) (xk_ov ρ b) → xk_W p l e R s m args below meth c Q D AC S θ L nL ρ N H0 t (A, st, T)) ∧ (¬ ck_hold k (xk_ov ρ a) (xk_ov ρ b) → xk_W p l e R s m args below meth c Q D AC S θ L nL ρ N H0 (pc + 3) (A, st, T)) := by
  unfold xk_br2 at h
  split at h
  · rename_i t htg
    refine ⟨t, ck_tgt_ok htg, ?_⟩
    split at h
    · rename_i hc
      cases h
      have e1 : xk_ov ρ a = a.2 := by unfold xk_ov; rw [if_pos hc.1]
      have e2 : xk_ov ρ b = b.2 := by unfold xk_ov; rw [if_pos hc.2]
      rw [e1, e2, ← xk_hb_iff]
      dsimp only at kk
      refine ⟨fun hh => ?_, fun hh => ?_⟩
      · rw [if_pos hh] at kk
        exact kk
      · rw [if_neg hh] at kk
        exact kk
    · split at h
      · rename_i kd u v hsel
        cases h
        unfold xk_sel at hsel
        split at hsel
        · rename_i ka z1 a1 off2 kb z2 b1 h1 h2 h3
          split at hsel
          · rename_i hc
            obtain ⟨rfl, hoff⟩ := hc
            cases hsel
            have hop : 40 + xk_cd k < 1000 := by cases k <;> decide
            have hm := xk_mk_ok hop hnx ht
            have hs : xk_ov ρ (xk_mk (40 + xk_cd k) [a, b, (0, u), (0, v)] tb nx).1 = if xk_hb (xk_cd k) (xk_ov ρ a) (xk_ov ρ b) then v else u := by
              rw [hm]
              unfold xk_sem
              rw [if_neg (by omega), if_neg (by omega), if_neg (by omega), if_neg (by omega), if_neg (by omega), show 40 + xk_cd k - 40 = xk_cd k by omega]
              rfl
            rw [← xk_hb_iff]
            refine ⟨fun hh => ?_, fun hh => ?_⟩
            · rw [if_pos hh] at hs
              exact xw_c1 hexec hb hcod h3 hs kk
            · rw [if_neg hh] at hs
              refine xw_c1 hexec hb hcod h1 hs ?_
              intro H ls vs locs hst
              exact lv_goto hexec hb (hcod _ _ _ h2) hoff (kk H ls vs locs hst)
          · cases hsel
        · cases hsel
      · cases h
  · cases h
theorem xw_br (hexec : p.tables.exec = Jvm.exec) (hb : c.code = cc) (hcod : ∀ pc i n, ck_cdAt cod pc = some (i, n) → decode cc pc = .ok (i, n)) {i : Instr} {n : Nat} {x X : xk_X} (hd : decode cc x.1 = .ok (i, n)) (h : xk_br cod nL i n x = some X) (hnx : 0 < x.2.2.2.2.2) (ht : xk_tok Φ wd ρ X.2.2.2.2.1)
    (kk : xk_W p l e R s m args below meth c Q D AC S θ L nL ρ N H0 X.1 (X.2.1, X.2.2.1, X.2.2.2.1)) : xk_W p l e R s m args below meth c Q D AC S θ L nL ρ N H0 x.1 (x.2.1, x.2.2.1, x.2.2.2.1) := by
  obtain ⟨pc, A, st, T, tb, nx⟩ := x
  dsimp only at hd hnx ⊢
  unfold xk_br at h
  dsimp only at h
  split at h
  · split at h
    · rename_i hn
      subst hn
      split at h
      · rename_i t htg
        cases h
        intro H ls vs locs hst
        exact lv_goto hexec hb hd (ck_tgt_ok htg) (kk H ls vs locs hst)
      · cases h
    · cases h
  · rename_i k off a r
    split at h
    · rename_i hn
      subst hn
      obtain ⟨t, t1, t2, t3⟩ := xk_two hexec hb hcod h hnx ht kk
      intro H ls vs locs hst
      obtain ⟨lv, h1, h2, h3, h4, h5, h6⟩ := hst
      obtain ⟨_, vs', rfl, ⟨y, rfl, y1⟩, g2⟩ := h3.uncons
      dsimp only at y1
      refine xk_ifc hexec hb hd t1 (fun hh => t2 ?_ H ls vs' locs ⟨lv, h1, h2, g2, h4, h5, h6⟩) (fun hh => t3 ?_ H ls vs' locs ⟨lv, h1, h2, g2, h4, h5, h6⟩)
      · rw [← y1]; exact hh
      · rw [← y1]; exact hh
    · cases h
  · rename_i k off b a r
    split at h
    · rename_i hn
      subst hn
      obtain ⟨t, t1, t2, t3⟩ := xk_two hexec hb hcod h hnx ht kk
      intro H ls vs locs hst
      obtain ⟨lv, h1, h2, h3, h4, h5, h6⟩ := hst
      obtain ⟨_, vs', rfl, ⟨y, rfl, y1⟩, g2⟩ := h3.uncons
      obtain ⟨_, vs'', rfl, ⟨z, rfl, z1⟩, g3⟩ := g2.uncons
      dsimp only at y1 z1
      refine xk_icmp hexec hb hd t1 (fun hh => t2 ?_ H ls vs'' locs ⟨lv, h1, h2, g3, h4, h5, h6⟩) (fun hh => t3 ?_ H ls vs'' locs ⟨lv, h1, h2, g3, h4, h5, h6⟩)
      · rw [← y1, ← z1]; exact hh
      · rw [← y1, ← z1]; exact hh
    · cases h
  · rename_i j v
    split at h
    · rename_i o ho
      split at h
      · rename_i hc
        obtain ⟨rfl, c1, c2⟩ := hc
        cases h
        intro H ls vs locs hst
        obtain ⟨lv, h1, h2, h3, h4, h5, h6⟩ := hst
        obtain ⟨j', w, g1, ⟨y, rfl, y1⟩⟩ := xk_loc_ok h2 ho
        have hm := xk_mk_ok (by omega) hnx ht
        dsimp only at y1
        refine lv_iinc hexec hb hd h1 g1 rfl c1 rfl fun ls' hl' => kk H ls' vs locs ⟨_, hl', ck_all.cons ⟨rfl, _, rfl, ?_⟩ (xk_filter _ _ (fun q w hq hkq => ?_) h2 c2), h3, h4, h5, h6⟩
        · show _ = xk_ov ρ (xk_mk 0 [o, (0, _)] tb nx).1
          rw [hm]
          simp only [List.map_cons, List.map_nil, ← y1]
          show (y + Int32.ofInt v).toInt = (Int32.ofInt y.toInt + Int32.ofInt v).toInt
          rw [xk_i32]
        · rw [← xk_cat hq.2 hkq, hq.1]
      · cases h
    · cases h
  · cases h
theorem xk_br_sub {i : Instr} {n : Nat} {x X : xk_X} (h : xk_br cod nL i n x = some X) : (∀ e ∈ x.2.2.2.2.1, e ∈ X.2.2.2.2.1) ∧ x.2.2.2.2.2 ≤ X.2.2.2.2.2 := by
  obtain ⟨pc, A, st, T, tb, nx⟩ := x
  have key : ∀ {k : ClassFile.Cond} {off : Int} {a b : xk_O} {r : List xk_V}, xk_br2 cod k off pc a b A r T tb nx = some X → (∀ e ∈ tb, e ∈ X.2.2.2.2.1) ∧ nx ≤ X.2.2.2.2.2 := by
    intro k off a b r h
    unfold xk_br2 at h
    split at h
    · split at h
      · cases h; exact ⟨fun e he => he, Nat.le_refl _⟩
      · split at h
        · cases h; exact xk_mk_sub
        · cases h
    · cases h
  unfold xk_br at h
  dsimp only at h ⊢
  split at h
  · split at h
    · split at h
      · cases h; exact ⟨fun e he => he, Nat.le_refl _⟩
      · cases h
    · cases h
  · split at h
    · exact key h
    · cases h
  · split at h
    · exact key h
    · cases h
  · split at h
    · split at h
      · cases h; exact xk_mk_sub
      · cases h
    · cases h
  · cases h
theorem xk_idx_ok {v : xk_V} {j : Nat} {w : Value} (h : xk_idx v = some j) (hw : xk_R S θ ρ N v w) : ∃ x : Int32, w = .int x ∧ x.toInt = (j : Int) ∧ x.toNatClampNeg = j := by
  unfold xk_idx at h
  split at h
  · rename_i hc
    cases h
    obtain ⟨k, g, n⟩ := v
    obtain ⟨rfl, rfl, hn⟩ := hc
    dsimp only at hn
    obtain ⟨x, rfl, hx⟩ := hw
    have e : x.toInt = n := hx
    refine ⟨x, rfl, by rw [e]; show n = (n.toNat : Int); omega, ?_⟩
    show x.toInt.toNat = n.toNat
    rw [e]
  · cases h
theorem xk_vpin {x : Int32} {j n : Nat} (h : x.toInt = (j : Int)) (hn : j < n) : vp_in x n := vp_in_iff.mpr (by omega)
theorem xw_ld (hexec : p.tables.exec = Jvm.exec) (hb : c.code = cc) (hK : va_K D ck_cl (ck_tys AC) s) (hSt : xk_St S L s) (hL : xk_L L H0) {i : Instr} {st' : List xk_V} (hd : decode cc pc = .ok (i, 1)) (h : xk_ld i st T = some st')
    (k : xk_W p l e R s m args below meth c Q D AC S θ L nL ρ N H0 (pc + 1) (A, st', T)) : xk_W p l e R s m args below meth c Q D AC S θ L nL ρ N H0 pc (A, st, T) := by
  intro H ls vs locs hh
  obtain ⟨lv, h1, h2, h3, h4, h5, h6⟩ := hh
  unfold xk_ld at h
  split at h
  · rename_i ix a z r
    split at h
    · rename_i j kk ac es hj hT
      split at h
      · rename_i hc
        split at h
        · rename_i v hv
          cases h
          obtain ⟨wi, vs', rfl, gi, g2⟩ := h3.uncons
          obtain ⟨_, vs'', rfl, ⟨b, hb', rfl⟩, g3⟩ := g2.uncons
          obtain ⟨x, rfl, x1, x2⟩ := xk_idx_ok hj gi
          obtain ⟨ty, hty⟩ := Option.isSome_iff_exists.mp hc.2
          obtain ⟨-, htc⟩ := h4.2.2 a _ b hT hb'
          obtain ⟨n, f, z1, z0, z2, -⟩ := xk_arr htc
          have hjl : j < es.length := (List.getElem?_eq_some_iff.mp hv).1
          rw [ck_isld_ok hc.1] at hd
          refine cw_ld0 hexec hb hK hty z1 (xk_vpin x1 (by omega)) hd (k H ls _ locs ⟨lv, h1, h2, ck_all.cons ?_ g3, h4, h5, h6⟩)
          rw [x2]
          exact z2 j v hv
        · cases h
      · cases h
    · cases h
  · rename_i ix j0 z r
    split at h
    · rename_i j hj
      split at h
      · rename_i hj0
        split at h
        · rename_i v hv
          cases h
          obtain ⟨wi, vs', rfl, gi, g2⟩ := h3.uncons
          obtain ⟨_, vs'', rfl, rfl, g3⟩ := g2.uncons
          obtain ⟨x, rfl, x1, x2⟩ := xk_idx_ok hj gi
          obtain ⟨cell, c1, c2, c3, c4, c5, c6⟩ := hSt j0 hj0
          obtain ⟨y, y1, y2⟩ := c6 j v hv
          have hjl : j < (xk_rt j0).length := (List.getElem?_eq_some_iff.mp hv).1
          exact W.iald hexec hb (v := .int y) (by rw [xk_base hL h4 h5 c2]; exact c1) c3 c4 (by rw [c5]; exact xk_vpin x1 hjl) (by rw [x2]; exact y1) rfl rfl hd (k H ls _ locs ⟨lv, h1, h2, ck_all.cons ⟨y, rfl, y2⟩ g3, h4, h5, h6⟩)
        · cases h
      · cases h
    · cases h
  · cases h
theorem xw_as (hexec : p.tables.exec = Jvm.exec) (hb : c.code = cc) (hK : va_K D ck_cl (ck_tys AC) s) {i : Instr} {y : List xk_V × List xk_C} (hd : decode cc pc = .ok (i, 1)) (h : xk_as i st T = some y)
    (k : xk_W p l e R s m args below meth c Q D AC S θ L nL ρ N H0 (pc + 1) (A, y.1, y.2)) : xk_W p l e R s m args below meth c Q D AC S θ L nL ρ N H0 pc (A, st, T) := by
  intro H ls vs locs hh
  obtain ⟨lv, h1, h2, h3, h4, h5, h6⟩ := hh
  have upd : ∀ {kk n ac j a b : Nat} {es : List xk_V} {f : Nat → Value} {H' : Heap} {v : xk_V} {w : Value}, T[a]? = some ((kk + 1, ac), es) → N[a]? = some b → j < es.length → (∀ (j : Nat) (v : xk_V), es[j]? = some v → xk_R S θ ρ N v (f j)) → (∀ (H' : Heap) (es' : List xk_V) (f' : Nat → Value), H'[b]? = some (arrV (AC ac) n f') → es'.length = es.length → (∀ (j : Nat) (v : xk_V), es'[j]? = some v → xk_R S θ ρ N v (f' j)) → (∀ j, es.length ≤ j → f' j = f j) → xk_tc D AC S θ ρ N H' a ((kk + 1, ac), es') b) → xk_R S θ ρ N v w → H'[b]? = some (arrV (AC ac) n (updV f j w)) → (∀ q, q ≠ b → H'[q]? = H[q]?) → xk_H D AC S θ L ρ N (T.set a ((kk + 1, ac), es.set j v)) H' := by
    intro kk n ac j a b es f H' v w hT hb' hj hf htc hw e1 e3
    refine h4.put (List.getElem?_eq_some_iff.mp hT).1 hb' e3 (htc H' _ (updV f j w) e1 (List.length_set ..) (fun j0 v0 hv0 => ?_) (fun j0 hj0 => ?_))
    · unfold updV
      by_cases e0 : j = j0
      · subst e0
        rw [List.getElem?_set_self hj] at hv0
        cases hv0
        rw [if_pos rfl]
        exact hw
      · rw [List.getElem?_set_ne e0] at hv0
        rw [if_neg (Ne.symm e0)]
        exact hf j0 v0 hv0
    · unfold updV
      rw [if_neg (by omega)]
  unfold xk_as at h
  split at h
  · rename_i o ix a z r
    split at h
    · rename_i j kk es hj hT
      split at h
      · rename_i hjl
        cases h
        obtain ⟨_, vs', rfl, ⟨w, rfl, w1⟩, g1⟩ := h3.uncons
        obtain ⟨wi, vs'', rfl, gi, g2⟩ := g1.uncons
        obtain ⟨_, vs3, rfl, ⟨b, hb', rfl⟩, g3⟩ := g2.uncons
        obtain ⟨x, rfl, x1, x2⟩ := xk_idx_ok hj gi
        obtain ⟨l1, htc⟩ := h4.2.2 a _ b hT hb'
        obtain ⟨nn, f, z1, z0, z2, z3⟩ := xk_arr htc
        have hin : vp_in x nn := xk_vpin x1 (by omega)
        refine W.iast hexec hb z1 (ck_arrK hK (ac := 0) rfl _ f) (fun q => by cases q) (by rw [arrV_size]; exact hin) rfl rfl hd fun H' e1 e2 e3 => k H' ls vs3 _ ⟨lv, h1, h2, g3, upd hT hb' hjl z2 z3 ⟨w, rfl, w1⟩ (by rw [e1, arrV_store, x2]) e3, h5.put hb' e2 e3, fun q hq => ?_⟩
        rcases List.mem_append.mp hq with z | z
        · exact h6 q z
        · rw [List.mem_singleton.mp z]; exact l1
      · cases h
    · cases h
  · rename_i o ix a z r
    split at h
    · rename_i j kk es hj hT
      split at h
      · rename_i hjl
        cases h
        obtain ⟨_, vs', rfl, ⟨w, rfl, w1⟩, g1⟩ := h3.uncons
        obtain ⟨wi, vs'', rfl, gi, g2⟩ := g1.uncons
        obtain ⟨_, vs3, rfl, ⟨b, hb', rfl⟩, g3⟩ := g2.uncons
        obtain ⟨x, rfl, x1, x2⟩ := xk_idx_ok hj gi
        obtain ⟨l1, htc⟩ := h4.2.2 a _ b hT hb'
        obtain ⟨nn, f, z1, z0, z2, z3⟩ := xk_arr htc
        have hin : vp_in x nn := xk_vpin x1 (by omega)
        refine W.last hexec hb z1 (ck_arrK hK (ac := 1) rfl _ f) (fun q => by cases q) (by rw [arrV_size]; exact hin) rfl rfl hd fun H' e1 e2 e3 => k H' ls vs3 _ ⟨lv, h1, h2, g3, upd hT hb' hjl z2 z3 ⟨w, rfl, w1⟩ (by rw [e1, arrV_store, x2]) e3, h5.put hb' e2 e3, fun q hq => ?_⟩
        rcases List.mem_append.mp hq with z | z
        · exact h6 q z
        · rw [List.mem_singleton.mp z]; exact l1
      · cases h
    · cases h
  · cases h
theorem xw_gf (hexec : p.tables.exec = Jvm.exec) (hb : c.code = cc) (hown : s.vm.findClass own = some m.cls) (hK : va_K D ck_cl (ck_tys AC) s) (hts : ∀ w ∈ ck_tb, w.before args s = true) {fl : List (Nat × Nat × Nat)} (hfl : ∀ q ∈ fl, ck_lnk own q.1 q.2.1 q.2.2) {idx : Nat} {st' : List xk_V} (hd : decode cc pc = .ok (.getfield idx, 3)) (h : xk_gf fl idx st T = some st')
    (k : xk_W p l e R s m args below meth c Q D AC S θ L nL ρ N H0 (pc + 3) (A, st', T)) : xk_W p l e R s m args below meth c Q D AC S θ L nL ρ N H0 pc (A, st, T) := by
  intro H ls vs locs hh
  obtain ⟨lv, h1, h2, h3, h4, h5, h6⟩ := hh
  unfold xk_gf at h
  split at h
  · rename_i a z r
    split at h
    · rename_i ci kk cj fs hlk hT
      split at h
      · rename_i ec
        subst ec
        split at h
        · rename_i v hv
          cases h
          obtain ⟨_, vs', rfl, ⟨b, hb', rfl⟩, g2⟩ := h3.uncons
          obtain ⟨-, ws, z1, z2⟩ := h4.2.2 a _ b hT hb'
          obtain ⟨w, y1, y2⟩ := z2.get hv
          exact cw_get0 hexec hb hown hK hts (hfl _ (ck_lk_mem hlk)) z1 y1 hd (k H ls _ locs ⟨lv, h1, h2, ck_all.cons y2 g2, h4, h5, h6⟩)
        · cases h
      · cases h
    · cases h
  · cases h
theorem xw_pf (hexec : p.tables.exec = Jvm.exec) (hb : c.code = cc) (hown : s.vm.findClass own = some m.cls) (hK : va_K D ck_cl (ck_tys AC) s) (hts : ∀ w ∈ ck_tb, w.before args s = true) {nm : String} (hnm : meth.name = nm) {fl : List (Nat × Nat × Nat)} (hfl : ∀ q ∈ fl, ck_lnk own q.1 q.2.1 q.2.2) {idx : Nat} {y : List xk_V × List xk_C} (hd : decode cc pc = .ok (.putfield idx, 3)) (h : xk_pf fl own nm idx st T = some y)
    (k : xk_W p l e R s m args below meth c Q D AC S θ L nL ρ N H0 (pc + 3) (A, y.1, y.2)) : xk_W p l e R s m args below meth c Q D AC S θ L nL ρ N H0 pc (A, st, T) := by
  intro H ls vs locs hh
  obtain ⟨lv, h1, h2, h3, h4, h5, h6⟩ := hh
  unfold xk_pf at h
  split at h
  · rename_i o a z r
    split at h
    · rename_i ci kk cj fs hlk hT
      split at h
      · rename_i hc
        obtain ⟨rfl, hfin, hyy⟩ := hc
        cases h
        obtain ⟨_, vs', rfl, ⟨w, rfl, w1⟩, g1⟩ := h3.uncons
        obtain ⟨_, vs'', rfl, ⟨b, hb', rfl⟩, g2⟩ := g1.uncons
        obtain ⟨l1, ws, z1, z2⟩ := h4.2.2 a _ b hT hb'
        refine cw_put0 hexec hb hown hK hts (hfl _ (ck_lk_mem hlk)) z1 (fun C TT n hcl => ?_) (by rw [hyy]; rfl) (by rw [hyy]; rfl) hd fun H' j o1 o2 o3 => k H' ls vs'' _ ⟨lv, h1, h2, g2, ?_, h5.put hb' o2 o3, fun q hq => ?_⟩
        · unfold ck_fin at hfin
          rw [hcl] at hfin
          simp only [Bool.or_eq_true, Bool.not_eq_true', Bool.and_eq_true, beq_iff_eq] at hfin
          rcases hfin with z | ⟨z1, z2⟩
          · exact Or.inl z
          · exact Or.inr ⟨z1, by rw [hnm]; exact z2⟩
        · exact h4.put (List.getElem?_eq_some_iff.mp hT).1 hb' o3 ⟨_, o1, z2.set kk ⟨w, rfl, w1⟩⟩
        · rcases List.mem_append.mp hq with z | z
          · exact h6 q z
          · rw [List.mem_singleton.mp z]; exact l1
      · cases h
    · cases h
  · cases h
theorem xw_gets (hexec : p.tables.exec = Jvm.exec) (hb : c.code = cc) (hown : s.vm.findClass own = some m.cls) (hL : xk_L L H0) {idx j : Nat} {C nm ds : String} (hZ : va_Z C nm ds (.ref (S j)) (fun q => L.size ≤ q) s L) (hlink : (Cond.fieldLink own idx C nm ds).before args s = true) (hd : decode cc pc = .ok (.getstatic idx, 3))
    (k : xk_W p l e R s m args below meth c Q D AC S θ L nL ρ N H0 (pc + 3) (A, (3, j, 0) :: st, T)) : xk_W p l e R s m args below meth c Q D AC S θ L nL ρ N H0 pc (A, st, T) := by
  intro H ls vs locs hh
  obtain ⟨lv, h1, h2, h3, h4, h5, h6⟩ := hh
  obtain ⟨cf, kf, fi, f, a, cell, y1, y2, y3, y4, y5, y6, y7, y8⟩ := hZ
  have hal : a < L.size := by omega
  exact W.gets hexec hb hown hlink y1 y2 y3 y4 (by rw [xk_base hL h4 h5 hal]; exact y5) (fun e => by rw [e] at y6; cases y6) y7 rfl hd (k H ls _ locs ⟨lv, h1, h2, ck_all.cons rfl h3, h4, h5, h6⟩)
theorem xw_cpy (hexec : p.tables.exec = Jvm.exec) (hb : c.code = cc) (hown : s.vm.findClass own = some m.cls) (hK : va_K D ck_cl (ck_tys AC) s) (hSt : xk_St S L s) (hL : xk_L L H0) (hml : c.maxLocals = nL) {cy : List Nat} (hcy : ∀ q ∈ cy, (Cond.methodLink own q arraycopyName).before args s = true) (hnat : (Cond.native arraycopyName).before args s = true) (hstat : (Cond.static arraycopyName).before args s = true) (hini : (Cond.initialized "java/lang/System").before args s = true)
    {fr lo : Nat} (hfr : fr ≤ R.frames) (hlo : lo ≤ R.locals) {i : Instr} {n : Nat} {y : List xk_V × List xk_C} (hd : decode cc pc = .ok (i, n)) (h : xk_cpy cy fr lo i n st T = some y)
    (k : xk_W p l e R s m args below meth c Q D AC S θ L nL ρ N H0 (pc + 3) (A, y.1, y.2)) : xk_W p l e R s m args below meth c Q D AC S θ L nL ρ N H0 pc (A, st, T) := by
  intro H ls vs locs hh
  obtain ⟨lv, h1, h2, h3, h4, h5, h6⟩ := hh
  unfold xk_cpy at h
  split at h
  · rename_i idx qn qd a z qs v r
    split at h
    · rename_i kn dp sp kk ac es hn hdp hsp hT
      split at h
      · rename_i es0 hsrc
        split at h
        · rename_i hc
          obtain ⟨rfl, c1, c2, c3, c4, c5, c6, c7, c8⟩ := hc
          cases h
          obtain ⟨wn, vs1, rfl, gn, g1⟩ := h3.uncons
          obtain ⟨wd', vs2, rfl, gd, g2⟩ := g1.uncons
          obtain ⟨_, vs3, rfl, ⟨b, hb', rfl⟩, g3⟩ := g2.uncons
          obtain ⟨ws, vs4, rfl, gs, g4⟩ := g3.uncons
          obtain ⟨wv, vs5, rfl, gv, g5⟩ := g4.uncons
          obtain ⟨xn, rfl, xn1, -⟩ := xk_idx_ok hn gn
          obtain ⟨xd, rfl, xd1, -⟩ := xk_idx_ok hdp gd
          obtain ⟨xs, rfl, xs1, -⟩ := xk_idx_ok hsp gs
          obtain ⟨l1, htc⟩ := h4.2.2 a _ b hT hb'
          obtain ⟨nn, f, z1, z0, z2, z3⟩ := xk_arr htc
          have hty : ∃ ty, ck_tyK ac = some ty := by
            rcases c2 with rfl | rfl
            · exact ⟨_, rfl⟩
            · exact ⟨_, rfl⟩
          obtain ⟨ty, hty⟩ := hty
          have hsrc2 : ∃ (a0 : Nat) (cs : Cell), wv = .ref a0 ∧ H[a0]? = some cs ∧ s.isArrayOf cs ty ∧ cs.vm ≠ .unknown ∧ es0.length ≤ cs.slots.size ∧ ∀ (j : Nat) (v : xk_V), es0[j]? = some v → xk_R S θ ρ N v (cs.slots.getD j .null) := by
            unfold xk_src at hsrc
            split at hsrc
            · rename_i a' z'
              split at hsrc
              · rename_i kk' ac' es' hT'
                split at hsrc
                · rename_i e'
                  subst e'
                  cases hsrc
                  obtain ⟨b', hb2, rfl⟩ := gv
                  obtain ⟨-, htc'⟩ := h4.2.2 a' _ b' hT' hb2
                  obtain ⟨nn', f', y1, y0, y2, -⟩ := xk_arr htc'
                  refine ⟨b', _, rfl, y1, ck_arrK hK (ck_tyK_ok hty) _ f', (fun q => by cases q), by rw [arrV_size]; exact y0, fun j v hv => ?_⟩
                  have hjl : j < es0.length := (List.getElem?_eq_some_iff.mp hv).1
                  rw [Array.getD_eq_getD_getElem?, arrV_read _ _ (Nat.lt_of_lt_of_le hjl y0)]
                  exact y2 j v hv
                · cases hsrc
              · cases hsrc
            · rename_i j' z'
              split at hsrc
              · rename_i hj
                cases hsrc
                obtain ⟨cell, d1, d2, d3, d4, d5, d6⟩ := hSt j' hj.2
                have e0 := hj.1
                subst e0
                cases hty
                cases gv
                refine ⟨S j', cell, rfl, by rw [xk_base hL h4 h5 d2]; exact d1, d3, d4, by rw [d5]; simp, fun j v hv => ?_⟩
                rw [List.getElem?_map] at hv
                obtain ⟨v', hv', rfl⟩ := Option.map_eq_some_iff.mp hv
                obtain ⟨x, x1, x2⟩ := d6 j v' hv'
                rw [Array.getD_eq_getD_getElem?, x1]
                exact ⟨x, rfl, x2⟩
              · cases hsrc
            · cases hsrc
          obtain ⟨a0, cs, rfl, s1, s2, s3, s4, s5⟩ := hsrc2
          have hw : nativeFrameWords "java/lang/System" "arraycopy" 5 = 7 := by decide +kernel
          have hel : ∀ (j : Nat), j < es0.length → ∃ v, es0[j]? = some v ∧ v.1 = ac := fun j hj => ⟨es0[j], List.getElem?_eq_getElem hj, by
            have := List.all_eq_true.mp c5 es0[j] (List.getElem_mem hj)
            simpa using this⟩
          refine cw_copy0 hexec hb hown hK (hcy _ (by simpa using c1)) hnat hstat hini (by rw [hml]; exact h1.1.symm) hty c2 s1 s2 s3 z1 xs1 xd1 xn1 (by omega) (by omega) (fun j hj => ?_) (by omega) (by rw [hw, xk_words g5 c6]; omega) hd fun H' M m1 m2 m3 m4 => k H' ls vs5 _ ⟨lv, h1, h2, g5, ?_, h5.put hb' m3 m4, fun q hq => ?_⟩
          · obtain ⟨v', q1, q2⟩ := hel (sp + j) (by omega)
            have := s5 _ _ q1
            obtain ⟨k1, k2⟩ := v'
            dsimp only at q2
            subst q2
            rcases c2 with rfl | rfl
            · cases hty
              obtain ⟨x, hx, -⟩ := this
              rw [hx]; rfl
            · cases hty
              obtain ⟨x, hx, -⟩ := this
              rw [hx]; rfl
          · have hlen : (es.take dp ++ ((es0.drop sp).take kn ++ es.drop (dp + kn))).length = es.length := by
              simp only [List.length_append, List.length_take, List.length_drop]
              omega
            refine h4.put (List.getElem?_eq_some_iff.mp hT).1 hb' m4 (z3 H' _ _ m2 hlen (fun j v hv => ?_) (fun j hj => if_neg (by omega)))
            by_cases q1 : j < dp
            · rw [if_neg (by omega)]
              rw [List.getElem?_append_left (by rw [List.length_take]; omega), List.getElem?_take, if_pos q1] at hv
              exact z2 j v hv
            · rw [List.getElem?_append_right (by rw [List.length_take]; omega), List.length_take, Nat.min_eq_left (by omega)] at hv
              by_cases q2 : j < dp + kn
              · rw [if_pos (by omega)]
                rw [List.getElem?_append_left (by rw [List.length_take, List.length_drop]; omega), List.getElem?_take, if_pos (by omega), List.getElem?_drop] at hv
                exact s5 _ v hv
              · rw [if_neg (by omega)]
                rw [List.getElem?_append_right (by rw [List.length_take, List.length_drop]; omega), List.length_take, List.length_drop, Nat.min_eq_left (by omega), List.getElem?_drop, show dp + kn + (j - dp - kn) = j by omega] at hv
                exact z2 j v hv
          · rcases List.mem_append.mp hq with z | z
            · exact h6 q z
            · rw [m1 q z]; exact l1
        · cases h
      · cases h
    · cases h
  · cases h
end XKC
