/-! ===== exact runs: the frame's side; instructions that leave the heap alone ===== -/
abbrev xk_A : Type := List (Nat × xk_V) × List xk_V × List xk_C
abbrev xk_RL (S : Nat → Nat) (θ : Nat → Value) (ρ : Nat → Int) (N : List Nat) : Nat × xk_V → Nat × Value → Prop := fun q w => q.1 = w.1 ∧ xk_R S θ ρ N q.2 w.2
def xk_st (D : va_G) (AC : Nat → ClassId) (S : Nat → Nat) (θ : Nat → Value) (L : Heap) (nL : Nat) (ρ : Nat → Int) (N : List Nat) (H0 : Heap) (A : xk_A) (H : Heap) (ls : Array Slot) (st : List Value) (locs : List Loc) : Prop :=
  ∃ lv : List (Nat × Value), lv_has ls nL lv ∧ ck_all (xk_RL S θ ρ N) A.1 lv ∧ ck_all (xk_R S θ ρ N) A.2.1 st ∧ xk_H D AC S θ L ρ N A.2.2 H ∧ xk_F N H0 H ∧ ∀ q ∈ locs, L.size ≤ q.base
def xk_W (p : Program) (l : Launch) (e : Env) (R : Room) (s : State) (m : MethodId) (args : Array Value) (below : List Frame) (meth : Method) (c : Code) (Q : State → Prop) (D : va_G) (AC : Nat → ClassId) (S : Nat → Nat) (θ : Nat → Value) (L : Heap) (nL : Nat) (ρ : Nat → Int) (N : List Nat) (H0 : Heap) (pc : Nat) (A : xk_A) : Prop :=
  ∀ (H : Heap) (ls : Array Slot) (st : List Value) (locs : List Loc), xk_st D AC S θ L nL ρ N H0 A H ls st locs → W p l e R s m args below meth c H locs 0 0 Q (F0 m pc ls st)
def xk_loc : List (Nat × xk_V) → Nat → Option xk_V
  | [], _ => none
  | (i, v) :: t, j => if i == j then some v else xk_loc t j
def xk_s1 (A : List (Nat × xk_V)) (i : Nat) (k : xk_V) : List (Nat × xk_V) := (i, k) :: A.filter (fun q => !(q.1 == i) && !(q.1 + 1 == i && q.2.1 == 1))
def xk_s2 (A : List (Nat × xk_V)) (i : Nat) (k : xk_V) : List (Nat × xk_V) := (i, k) :: A.filter (fun q => !(q.1 == i) && (!(q.1 == i + 1) && !(q.1 + 1 == i && q.2.1 == 1)))
theorem xk_filter {S : Nat → Nat} {θ : Nat → Value} {ρ : Nat → Int} {N : List Nat} (f : Nat × xk_V → Bool) (g : Nat × Value → Bool) (hfg : ∀ q w, xk_RL S θ ρ N q w → xk_kn q.2 = true → f q = g w) : ∀ {A : List (Nat × xk_V)} {lv : List (Nat × Value)}, ck_all (xk_RL S θ ρ N) A lv → A.all (fun q => xk_kn q.2) = true → ck_all (xk_RL S θ ρ N) (A.filter f) (lv.filter g)
  | [], lv, h, _ => by
    have : lv = [] := by
      have := h.1
      cases lv with
      | nil => rfl
      | cons a b => simp at this
    subst this
    exact ck_all.nil
  | q :: t, lv, h, hk => by
    obtain ⟨w, lv', rfl, h1, h2⟩ := h.uncons
    simp only [List.all_cons, Bool.and_eq_true] at hk
    have ih := xk_filter f g hfg h2 hk.2
    have e := hfg q w h1 hk.1
    rw [List.filter_cons, List.filter_cons, e]
    split
    · exact ck_all.cons h1 ih
    · exact ih
theorem xk_loc_ok {S : Nat → Nat} {θ : Nat → Value} {ρ : Nat → Int} {N : List Nat} : ∀ {A : List (Nat × xk_V)} {lv : List (Nat × Value)} {i : Nat} {k : xk_V}, ck_all (xk_RL S θ ρ N) A lv → xk_loc A i = some k → ∃ (j : Nat) (v : Value), lv[j]? = some (i, v) ∧ xk_R S θ ρ N k v
  | [], _, _, _, _, h => by cases h
  | (i0, k0) :: t, lv, i, k, ha, h => by
    obtain ⟨⟨i1, v1⟩, m', rfl, h1, h2⟩ := ha.uncons
    unfold xk_loc at h
    split at h
    · rename_i hi
      cases h
      have e : i0 = i := by simpa using hi
      exact ⟨0, v1, by rw [← e, show i0 = i1 from h1.1]; rfl, h1.2⟩
    · obtain ⟨j, v, g1, g2⟩ := xk_loc_ok h2 h
      exact ⟨j + 1, v, by simpa using g1, g2⟩
/-- what a load or a constant pushes -/
def xk_psh (kl jl : List (Nat × Int)) (A : List (Nat × xk_V)) (i : Instr) (n : Nat) : Option xk_V := match i with
  | .iconst v => if n = 1 ∧ -1 ≤ v ∧ v ≤ 5 then some (0, 0, v) else none
  | .bipush v => if n = 2 ∧ -128 ≤ v ∧ v ≤ 127 then some (0, 0, v) else none
  | .sipush v => if n = 3 ∧ -32768 ≤ v ∧ v ≤ 32767 then some (0, 0, v) else none
  | .ldc k => if n = 2 then (match ck_lk kl k with
    | some v => some (0, 0, v)
    | none => none) else none
  | .ldc2_w k => if n = 3 then (match ck_lk jl k with
    | some v => some (1, 0, v)
    | none => none) else none
  | .lconst v => if n = 1 then some (1, 0, (v.val : Int)) else none
  | .iload k => if n = 2 then (match xk_loc A k with
    | some (0, q) => some (0, q)
    | _ => none) else none
  | .iload_n k => if n = 1 then (match xk_loc A k.val with
    | some (0, q) => some (0, q)
    | _ => none) else none
  | .lload k => if n = 2 then (match xk_loc A k with
    | some (1, q) => some (1, q)
    | _ => none) else none
  | .lload_n k => if n = 1 then (match xk_loc A k.val with
    | some (1, q) => some (1, q)
    | _ => none) else none
  | .aload k => if n = 2 then (match xk_loc A k with
    | some (2, q) => some (2, q)
    | _ => none) else none
  | .aload_n k => if n = 1 then (match xk_loc A k.val with
    | some (2, q) => some (2, q)
    | _ => none) else none
  | _ => none
def xk_sto (nL : Nat) (i : Instr) (n : Nat) (A : List (Nat × xk_V)) (v : xk_V) : Option (List (Nat × xk_V)) := if A.all (fun q => xk_kn q.2) then (match i, v with
  | .istore k, (0, q) => if n = 2 ∧ k < nL then some (xk_s1 A k (0, q)) else none
  | .istore_n k, (0, q) => if n = 1 ∧ k.val < nL then some (xk_s1 A k.val (0, q)) else none
  | .astore k, (2, q) => if n = 2 ∧ k < nL then some (xk_s1 A k (2, q)) else none
  | .astore_n k, (2, q) => if n = 1 ∧ k.val < nL then some (xk_s1 A k.val (2, q)) else none
  | .lstore k, (1, q) => if n = 2 ∧ k + 1 < nL then some (xk_s2 A k (1, q)) else none
  | .lstore_n k, (1, q) => if n = 1 ∧ k.val + 1 < nL then some (xk_s2 A k.val (1, q)) else none
  | _, _ => none) else none
def xk_cat1b (v : xk_V) : Bool := xk_kn v && !(v.1 == 1)
def xk_stk (i : Instr) (st : List xk_V) : Option (List xk_V) := match i, st with
  | .dup, v :: r => if xk_cat1b v then some (v :: v :: r) else none
  | .pop, v :: r => if xk_cat1b v then some r else none
  | .dup2, v :: r => if v.1 == 1 then some (v :: v :: r) else (match r with
    | w :: r' => if xk_cat1b v && xk_cat1b w then some (v :: w :: v :: w :: r') else none
    | [] => none)
  | .i2l, (0, o) :: r => some ((1, o) :: r)
  | _, _ => none
def xk_o32 (i : Instr) : Option Nat := match i with
  | .iadd => some 0
  | .isub => some 1
  | .imul => some 2
  | .iand => some 3
  | .ior => some 4
  | .ixor => some 5
  | .ishl => some 6
  | .ishr => some 7
  | .iushr => some 8
  | .idiv => some 9
  | .irem => some 10
  | _ => none
def xk_o64 (i : Instr) : Option Nat := match i with
  | .ladd => some 20
  | .lsub => some 21
  | .lmul => some 22
  | .land => some 23
  | .lor => some 24
  | .lxor => some 25
  | _ => none
def xk_osh (i : Instr) : Option Nat := match i with
  | .lshl => some 26
  | .lshr => some 27
  | .lushr => some 28
  | _ => none
abbrev xk_Y : Type := List xk_V × List xk_E × Nat
def xk_res (k : Nat) (r : List xk_V) (q : xk_O × List xk_E × Nat) : xk_Y := ((k, q.1) :: r, q.2.1, q.2.2)
def xk_ari (i : Instr) (st : List xk_V) (tb : List xk_E) (nx : Nat) : Option xk_Y := match st with
  | (0, b) :: (0, a) :: r => (match xk_o32 i with
    | some op => if op < 9 ∨ (b.1 = 0 ∧ b.2 ≠ 0 ∧ -2147483648 ≤ b.2 ∧ b.2 ≤ 2147483647) then some (xk_res 0 r (xk_mk op [a, b] tb nx)) else none
    | none => none)
  | (1, b) :: (1, a) :: r => (match xk_o64 i with
    | some op => some (xk_res 1 r (xk_mk op [a, b] tb nx))
    | none => (match i with
      | .lcmp => some (xk_res 0 r (xk_mk 31 [a, b] tb nx))
      | _ => none))
  | (0, b) :: (1, a) :: r => (match xk_osh i with
    | some op => some (xk_res 1 r (xk_mk op [a, b] tb nx))
    | none => none)
  | (1, a) :: r => (match i with
    | .l2i => some (xk_res 0 r (xk_mk 30 [a] tb nx))
    | _ => none)
  | _ => none
section XKB
variable {p : Program} {l : Launch} {e : Env} {R : Room} {s : State} {m : MethodId} {args : Array Value} {below : List Frame} {meth : Method} {c : Code} {Q : State → Prop}
variable {cc : ByteArray} {pc pc2 nL : Nat} {D : va_G} {AC : Nat → ClassId} {S : Nat → Nat} {θ : Nat → Value} {L : Heap} {ρ : Nat → Int} {N : List Nat} {H0 : Heap}
variable {A : List (Nat × xk_V)} {st : List xk_V} {T : List xk_C} {own : String}
theorem xw_push {k : xk_V} (v : Value) (hv : xk_R S θ ρ N k v) (row : ∀ {H : Heap} {ls : Array Slot} {rest : List Value} {locs : List Loc}, W p l e R s m args below meth c H locs 0 0 Q (F0 m pc2 ls (v :: rest)) → W p l e R s m args below meth c H locs 0 0 Q (F0 m pc ls rest))
    (kk : xk_W p l e R s m args below meth c Q D AC S θ L nL ρ N H0 pc2 (A, k :: st, T)) : xk_W p l e R s m args below meth c Q D AC S θ L nL ρ N H0 pc (A, st, T) := by
  intro H ls vs locs h
  obtain ⟨lv, h1, h2, h3, h4, h5, h6⟩ := h
  exact row (kk H ls _ locs ⟨lv, h1, h2, ck_all.cons hv h3, h4, h5, h6⟩)
theorem xk_RI {n : Int} {v : Int32} (hn : v.toInt = n) : xk_R S θ ρ N (0, 0, n) (.int v) := ⟨v, rfl, hn⟩
theorem xk_RJ {n : Int} {v : Int64} (hn : v.toInt = n) : xk_R S θ ρ N (1, 0, n) (.long v) := ⟨v, rfl, hn⟩
theorem xw_load {i : Nat} {k : xk_V} (hk : xk_loc A i = some k) (row : ∀ {H : Heap} {ls : Array Slot} {rest : List Value} {locs : List Loc} {v : Value}, ls[i]? = some (.val v) → xk_R S θ ρ N k v → W p l e R s m args below meth c H locs 0 0 Q (F0 m pc2 ls (v :: rest)) → W p l e R s m args below meth c H locs 0 0 Q (F0 m pc ls rest))
    (kk : xk_W p l e R s m args below meth c Q D AC S θ L nL ρ N H0 pc2 (A, k :: st, T)) : xk_W p l e R s m args below meth c Q D AC S θ L nL ρ N H0 pc (A, st, T) := by
  intro H ls vs locs h
  obtain ⟨lv, h1, h2, h3, h4, h5, h6⟩ := h
  obtain ⟨j, v, g1, g2⟩ := xk_loc_ok h2 hk
  exact row (lv_at h1 j g1) g2 (kk H ls _ locs ⟨lv, h1, h2, ck_all.cons g2 h3, h4, h5, h6⟩)
theorem xw_store1 {i : Nat} {k : xk_V} (hkn : A.all (fun q => xk_kn q.2) = true)
    (row : ∀ {H : Heap} {ls : Array Slot} {rest : List Value} {locs : List Loc} {v : Value} {lv : List (Nat × Value)}, xk_R S θ ρ N k v → lv_has ls nL lv → (∀ ls' : Array Slot, lv_has ls' nL ((i, v) :: lv.filter (fun q => !(q.1 == i) && !(q.1 + 1 == i && q.2.category == 2))) → W p l e R s m args below meth c H locs 0 0 Q (F0 m pc2 ls' rest)) → W p l e R s m args below meth c H locs 0 0 Q (F0 m pc ls (v :: rest)))
    (kk : xk_W p l e R s m args below meth c Q D AC S θ L nL ρ N H0 pc2 (xk_s1 A i k, st, T)) : xk_W p l e R s m args below meth c Q D AC S θ L nL ρ N H0 pc (A, k :: st, T) := by
  intro H ls vs locs h
  obtain ⟨lv, h1, h2, h3, h4, h5, h6⟩ := h
  obtain ⟨v, vs', rfl, g1, g2⟩ := h3.uncons
  refine row g1 h1 fun ls' hl' => kk H ls' vs' locs ⟨_, hl', ck_all.cons ⟨rfl, g1⟩ (xk_filter _ _ (fun q w hq hkq => ?_) h2 hkn), g2, h4, h5, h6⟩
  rw [← xk_cat hq.2 hkq, hq.1]
theorem xw_store2 {i : Nat} {k : xk_V} (hkn : A.all (fun q => xk_kn q.2) = true)
    (row : ∀ {H : Heap} {ls : Array Slot} {rest : List Value} {locs : List Loc} {v : Value} {lv : List (Nat × Value)}, xk_R S θ ρ N k v → lv_has ls nL lv → (∀ ls' : Array Slot, lv_has ls' nL ((i, v) :: lv.filter (fun q => !(q.1 == i) && (!(q.1 == i + 1) && !(q.1 + 1 == i && q.2.category == 2)))) → W p l e R s m args below meth c H locs 0 0 Q (F0 m pc2 ls' rest)) → W p l e R s m args below meth c H locs 0 0 Q (F0 m pc ls (v :: rest)))
    (kk : xk_W p l e R s m args below meth c Q D AC S θ L nL ρ N H0 pc2 (xk_s2 A i k, st, T)) : xk_W p l e R s m args below meth c Q D AC S θ L nL ρ N H0 pc (A, k :: st, T) := by
  intro H ls vs locs h
  obtain ⟨lv, h1, h2, h3, h4, h5, h6⟩ := h
  obtain ⟨v, vs', rfl, g1, g2⟩ := h3.uncons
  refine row g1 h1 fun ls' hl' => kk H ls' vs' locs ⟨_, hl', ck_all.cons ⟨rfl, g1⟩ (xk_filter _ _ (fun q w hq hkq => ?_) h2 hkn), g2, h4, h5, h6⟩
  rw [← xk_cat hq.2 hkq, hq.1]
theorem xw_psh (hexec : p.tables.exec = Jvm.exec) (hb : c.code = cc) (hown : s.vm.findClass own = some m.cls) {kl jl : List (Nat × Int)} (hkl : ∀ q ∈ kl, ∃ v : Int32, v.toInt = q.2 ∧ (Cond.constant own q.1 v).before args s = true) (hjl : ∀ q ∈ jl, ∃ v : Int64, v.toInt = q.2 ∧ (Cond.constantLong own q.1 v).before args s = true)
    {i : Instr} {n : Nat} {v : xk_V} (hd : decode cc pc = .ok (i, n)) (h : xk_psh kl jl A i n = some v)
    (k : xk_W p l e R s m args below meth c Q D AC S θ L nL ρ N H0 (pc + n) (A, v :: st, T)) : xk_W p l e R s m args below meth c Q D AC S θ L nL ρ N H0 pc (A, st, T) := by
  unfold xk_psh at h
  split at h
  · split at h
    · rename_i v' hc
      obtain ⟨rfl, c1, c2⟩ := hc
      cases h
      exact xw_push _ (xk_RI (ck_ofInt (by omega) (by omega))) (fun w => lv_iconst hexec hb hd rfl w) k
    · cases h
  · split at h
    · rename_i v' hc
      obtain ⟨rfl, c1, c2⟩ := hc
      cases h
      exact xw_push _ (xk_RI (ck_ofInt8 (by omega) (by omega))) (fun w => lv_bipush hexec hb hd rfl w) k
    · cases h
  · split at h
    · rename_i v' hc
      obtain ⟨rfl, c1, c2⟩ := hc
      cases h
      exact xw_push _ (xk_RI (ck_ofInt16 (by omega) (by omega))) (fun w => lv_sipush hexec hb hd rfl w) k
    · cases h
  · split at h
    · rename_i k' hn
      subst hn
      split at h
      · rename_i x hx
        cases h
        obtain ⟨u, u1, u2⟩ := hkl _ (ck_lk_mem hx)
        exact xw_push _ (xk_RI u1) (fun w => lv_ldc hexec hb hown u2 hd w) k
      · cases h
    · cases h
  · split at h
    · rename_i k' hn
      subst hn
      split at h
      · rename_i x hx
        cases h
        obtain ⟨u, u1, u2⟩ := hjl _ (ck_lk_mem hx)
        exact xw_push _ (xk_RJ u1) (fun w => lv_ldc2 hexec hb hown u2 hd w) k
      · cases h
    · cases h
  · split at h
    · rename_i k' hn
      subst hn
      cases h
      refine xw_push _ (xk_RJ ?_) (fun w => lv_lconst hexec hb hd rfl w) k
      match k' with
      | 0 => rfl
      | 1 => rfl
    · cases h
  · split at h
    · rename_i k' hn
      subst hn
      split at h
      · rename_i q hq
        cases h
        refine xw_load hq (fun {H} {ls} {rest} {locs} {v} hl hv w => ?_) k
        obtain ⟨x, rfl, -⟩ := hv
        exact lv_iload hexec hb hd hl w
      · cases h
    · cases h
  · split at h
    · rename_i k' hn
      subst hn
      split at h
      · rename_i q hq
        cases h
        refine xw_load hq (fun {H} {ls} {rest} {locs} {v} hl hv w => ?_) k
        obtain ⟨x, rfl, -⟩ := hv
        exact lv_iload_n hexec hb hd rfl hl w
      · cases h
    · cases h
  · split at h
    · rename_i k' hn
      subst hn
      split at h
      · rename_i q hq
        cases h
        refine xw_load hq (fun {H} {ls} {rest} {locs} {v} hl hv w => ?_) k
        obtain ⟨x, rfl, -⟩ := hv
        exact lv_lload hexec hb hd hl w
      · cases h
    · cases h
  · split at h
    · rename_i k' hn
      subst hn
      split at h
      · rename_i q hq
        cases h
        refine xw_load hq (fun {H} {ls} {rest} {locs} {v} hl hv w => ?_) k
        obtain ⟨x, rfl, -⟩ := hv
        exact lv_lload_n hexec hb hd rfl hl w
      · cases h
    · cases h
  · split at h
    · rename_i k' hn
      subst hn
      split at h
      · rename_i q hq
        cases h
        refine xw_load hq (fun {H} {ls} {rest} {locs} {v} hl hv w => ?_) k
        obtain ⟨x, -, rfl⟩ := hv
        exact lv_aload hexec hb hd hl w
      · cases h
    · cases h
  · split at h
    · rename_i k' hn
      subst hn
      split at h
      · rename_i q hq
        cases h
        refine xw_load hq (fun {H} {ls} {rest} {locs} {v} hl hv w => ?_) k
        obtain ⟨x, -, rfl⟩ := hv
        exact lv_aload_n hexec hb hd rfl hl w
      · cases h
    · cases h
  · cases h
theorem xw_sto (hexec : p.tables.exec = Jvm.exec) (hb : c.code = cc) {i : Instr} {n : Nat} {v : xk_V} {A' : List (Nat × xk_V)} (hd : decode cc pc = .ok (i, n)) (h : xk_sto nL i n A v = some A')
    (k : xk_W p l e R s m args below meth c Q D AC S θ L nL ρ N H0 (pc + n) (A', st, T)) : xk_W p l e R s m args below meth c Q D AC S θ L nL ρ N H0 pc (A, v :: st, T) := by
  unfold xk_sto at h
  split at h
  · rename_i hkn
    split at h
    · split at h
      · rename_i hc
        obtain ⟨rfl, c1⟩ := hc
        cases h
        refine xw_store1 hkn (fun hv hl w => ?_) k
        obtain ⟨x, rfl, -⟩ := hv
        exact lv_istore hexec hb hd hl c1 rfl w
      · cases h
    · split at h
      · rename_i hc
        obtain ⟨rfl, c1⟩ := hc
        cases h
        refine xw_store1 hkn (fun hv hl w => ?_) k
        obtain ⟨x, rfl, -⟩ := hv
        exact lv_istore_n hexec hb hd rfl hl c1 rfl w
      · cases h
    · split at h
      · rename_i hc
        obtain ⟨rfl, c1⟩ := hc
        cases h
        refine xw_store1 hkn (fun hv hl w => ?_) k
        obtain ⟨x, -, rfl⟩ := hv
        exact lv_astore hexec hb hd hl c1 rfl w
      · cases h
    · split at h
      · rename_i hc
        obtain ⟨rfl, c1⟩ := hc
        cases h
        refine xw_store1 hkn (fun hv hl w => ?_) k
        obtain ⟨x, -, rfl⟩ := hv
        exact lv_astore_n hexec hb hd rfl hl c1 rfl w
      · cases h
    · split at h
      · rename_i hc
        obtain ⟨rfl, c1⟩ := hc
        cases h
        refine xw_store2 hkn (fun hv hl w => ?_) k
        obtain ⟨x, rfl, -⟩ := hv
        exact lv_lstore hexec hb hd hl c1 rfl w
      · cases h
    · split at h
      · rename_i hc
        obtain ⟨rfl, c1⟩ := hc
        cases h
        refine xw_store2 hkn (fun hv hl w => ?_) k
        obtain ⟨x, rfl, -⟩ := hv
        exact lv_lstore_n hexec hb hd rfl hl c1 rfl w
      · cases h
    · cases h
  · cases h
theorem xk_cat1b_ok {k : xk_V} {v : Value} (h : xk_R S θ ρ N k v) (hk : xk_cat1b k = true) : v.category = 1 := by
  unfold xk_cat1b at hk
  simp only [Bool.and_eq_true, Bool.not_eq_true'] at hk
  exact xk_cat1 h hk.1 hk.2
theorem xw_stk (hexec : p.tables.exec = Jvm.exec) (hb : c.code = cc) {i : Instr} {st' : List xk_V} (hd : decode cc pc = .ok (i, 1)) (h : xk_stk i st = some st')
    (k : xk_W p l e R s m args below meth c Q D AC S θ L nL ρ N H0 (pc + 1) (A, st', T)) : xk_W p l e R s m args below meth c Q D AC S θ L nL ρ N H0 pc (A, st, T) := by
  intro H ls vs locs hh
  obtain ⟨lv, h1, h2, h3, h4, h5, h6⟩ := hh
  unfold xk_stk at h
  split at h
  · split at h
    · rename_i hc
      cases h
      obtain ⟨v, vs', rfl, g1, g2⟩ := h3.uncons
      exact lv_dup hexec hb hd (xk_cat1b_ok g1 hc) (k H ls _ locs ⟨lv, h1, h2, ck_all.cons g1 (ck_all.cons g1 g2), h4, h5, h6⟩)
    · cases h
  · split at h
    · rename_i hc
      cases h
      obtain ⟨v, vs', rfl, g1, g2⟩ := h3.uncons
      exact lv_pop hexec hb hd (xk_cat1b_ok g1 hc) (k H ls _ locs ⟨lv, h1, h2, g2, h4, h5, h6⟩)
    · cases h
  · obtain ⟨v, vs', rfl, g1, g2⟩ := h3.uncons
    split at h
    · rename_i v' _ hc
      cases h
      have hkn : xk_kn v' = true := by
        have : v'.1 = 1 := by simpa using hc
        unfold xk_kn
        rw [this]
        rfl
      exact lv_dup2_2 hexec hb hd (xk_cat2 g1 hkn hc) (k H ls _ locs ⟨lv, h1, h2, ck_all.cons g1 (ck_all.cons g1 g2), h4, h5, h6⟩)
    · split at h
      · split at h
        · rename_i hc
          cases h
          simp only [Bool.and_eq_true] at hc
          obtain ⟨w, vs'', rfl, f1, f2⟩ := g2.uncons
          exact lv_dup2_11 hexec hb hd (xk_cat1b_ok g1 hc.1) (xk_cat1b_ok f1 hc.2) (k H ls _ locs ⟨lv, h1, h2, ck_all.cons g1 (ck_all.cons f1 (ck_all.cons g1 (ck_all.cons f1 f2))), h4, h5, h6⟩)
        · cases h
      · cases h
  · cases h
    obtain ⟨v, vs', rfl, ⟨x, rfl, x1⟩, g2⟩ := h3.uncons
    refine lv_i2l hexec hb hd rfl (k H ls _ locs ⟨lv, h1, h2, ck_all.cons ⟨_, rfl, ?_⟩ g2, h4, h5, h6⟩)
    rw [Int32.toInt_toInt64]; exact x1
  · cases h
theorem xk_row32 (hexec : p.tables.exec = Jvm.exec) (hb : c.code = cc) {H : Heap} {locs : List Loc} {ls : Array Slot} {rest : List Value} {i : Instr} {op : Nat} (h : xk_o32 i = some op) (hd : decode cc pc = .ok (i, 1)) {x y : Int32} (hy : op < 9 ∨ ¬ y = 0)
    (k : W p l e R s m args below meth c H locs 0 0 Q (F0 m (pc + 1) ls (.int (xk_f32 op x y) :: rest))) : W p l e R s m args below meth c H locs 0 0 Q (F0 m pc ls (.int y :: .int x :: rest)) := by
  unfold xk_o32 at h
  split at h <;> cases h
  · exact lv_iadd hexec hb hd k
  · exact lv_isub hexec hb hd k
  · exact lv_imul hexec hb hd k
  · exact lv_iand hexec hb hd k
  · exact lv_ior hexec hb hd k
  · exact lv_ixor hexec hb hd k
  · exact lv_ishl hexec hb hd k
  · exact lv_ishr hexec hb hd k
  · exact lv_iushr hexec hb hd rfl k
  · exact lv_idiv hexec hb hd (hy.resolve_left (by omega)) k
  · exact lv_irem hexec hb hd (hy.resolve_left (by omega)) k
theorem xk_row64 (hexec : p.tables.exec = Jvm.exec) (hb : c.code = cc) {H : Heap} {locs : List Loc} {ls : Array Slot} {rest : List Value} {i : Instr} {op : Nat} (h : xk_o64 i = some op) (hd : decode cc pc = .ok (i, 1)) {x y : Int64}
    (k : W p l e R s m args below meth c H locs 0 0 Q (F0 m (pc + 1) ls (.long (xk_f64 op x y) :: rest))) : W p l e R s m args below meth c H locs 0 0 Q (F0 m pc ls (.long y :: .long x :: rest)) := by
  unfold xk_o64 at h
  split at h <;> cases h
  · exact lv_ladd hexec hb hd k
  · exact lv_lsub hexec hb hd k
  · exact lv_lmul hexec hb hd k
  · exact lv_land hexec hb hd k
  · exact lv_lor hexec hb hd k
  · exact lv_lxor hexec hb hd k
theorem xk_rowS (hexec : p.tables.exec = Jvm.exec) (hb : c.code = cc) {H : Heap} {locs : List Loc} {ls : Array Slot} {rest : List Value} {i : Instr} {op : Nat} (h : xk_osh i = some op) (hd : decode cc pc = .ok (i, 1)) {x : Int64} {y : Int32}
    (k : W p l e R s m args below meth c H locs 0 0 Q (F0 m (pc + 1) ls (.long (xk_fs op x y) :: rest))) : W p l e R s m args below meth c H locs 0 0 Q (F0 m pc ls (.int y :: .long x :: rest)) := by
  unfold xk_osh at h
  split at h <;> cases h
  · exact lv_lshl hexec hb hd rfl k
  · exact lv_lshr hexec hb hd rfl k
  · exact lv_lushr hexec hb hd rfl k
theorem xk_o32_lt {i : Instr} {op : Nat} (h : xk_o32 i = some op) : op < 20 := by
  unfold xk_o32 at h
  split at h <;> cases h <;> omega
theorem xk_o64_lt {i : Instr} {op : Nat} (h : xk_o64 i = some op) : ¬ op < 20 ∧ op < 26 := by
  unfold xk_o64 at h
  split at h <;> cases h <;> omega
theorem xk_osh_lt {i : Instr} {op : Nat} (h : xk_osh i = some op) : ¬ op < 26 ∧ op < 30 := by
  unfold xk_osh at h
  split at h <;> cases h <;> omega
theorem xw_ari {Φ : Nat → Nat → List Int → Int} {wd : Nat → Nat} (hexec : p.tables.exec = Jvm.exec) (hb : c.code = cc) {i : Instr} {tb : List xk_E} {nx : Nat} {y : xk_Y} (hd : decode cc pc = .ok (i, 1)) (h : xk_ari i st tb nx = some y) (hnx : 0 < nx) (ht : xk_tok Φ wd ρ y.2.1)
    (k : xk_W p l e R s m args below meth c Q D AC S θ L nL ρ N H0 (pc + 1) (A, y.1, T)) : xk_W p l e R s m args below meth c Q D AC S θ L nL ρ N H0 pc (A, st, T) := by
  intro H ls vs locs hh
  obtain ⟨lv, h1, h2, h3, h4, h5, h6⟩ := hh
  unfold xk_ari at h
  split at h
  · rename_i b a r
    split at h
    · rename_i op hop
      split at h
      · rename_i hc
        cases h
        obtain ⟨_, vs', rfl, ⟨y, rfl, y1⟩, g2⟩ := h3.uncons
        obtain ⟨_, vs'', rfl, ⟨x, rfl, x1⟩, g3⟩ := g2.uncons
        have h20 := xk_o32_lt hop
        have hm := xk_mk_ok (by omega) hnx ht
        refine xk_row32 hexec hb hop hd (hc.imp id fun hz => ?_) (k H ls _ locs ⟨lv, h1, h2, ck_all.cons ⟨_, rfl, ?_⟩ g3, h4, h5, h6⟩)
        · intro e
          subst e
          dsimp only at y1
          unfold xk_ov at y1
          rw [if_pos hz.1] at y1
          exact hz.2.1 y1.symm
        · show (xk_f32 op x y).toInt = xk_ov ρ (xk_mk op [a, b] tb nx).1
          rw [hm]
          dsimp only at x1 y1
          simp only [List.map_cons, List.map_nil, ← x1, ← y1]
          exact (xk_sem32 h20 x y []).symm
      · cases h
    · cases h
  · rename_i b a r
    split at h
    · rename_i op hop
      cases h
      obtain ⟨_, vs', rfl, ⟨y, rfl, y1⟩, g2⟩ := h3.uncons
      obtain ⟨_, vs'', rfl, ⟨x, rfl, x1⟩, g3⟩ := g2.uncons
      have h20 := xk_o64_lt hop
      have hm := xk_mk_ok (by omega) hnx ht
      refine xk_row64 hexec hb hop hd (k H ls _ locs ⟨lv, h1, h2, ck_all.cons ⟨_, rfl, ?_⟩ g3, h4, h5, h6⟩)
      show (xk_f64 op x y).toInt = xk_ov ρ (xk_mk op [a, b] tb nx).1
      rw [hm]
      dsimp only at x1 y1
      simp only [List.map_cons, List.map_nil, ← x1, ← y1]
      exact (xk_sem64 h20.1 h20.2 x y []).symm
    · split at h
      · cases h
        obtain ⟨_, vs', rfl, ⟨y, rfl, y1⟩, g2⟩ := h3.uncons
        obtain ⟨_, vs'', rfl, ⟨x, rfl, x1⟩, g3⟩ := g2.uncons
        have hm := xk_mk_ok (by omega) hnx ht
        refine W.lcmp hexec hb hd (k H ls _ locs ⟨lv, h1, h2, ck_all.cons ⟨_, rfl, ?_⟩ g3, h4, h5, h6⟩)
        show (lg_cmp x y).toInt = xk_ov ρ (xk_mk 31 [a, b] tb nx).1
        rw [hm]
        dsimp only at x1 y1
        simp only [List.map_cons, List.map_nil, ← x1, ← y1]
        show _ = if y.toInt < x.toInt then (1 : Int) else if x.toInt = y.toInt then 0 else -1
        unfold lg_cmp
        by_cases h1 : y.toInt < x.toInt
        · rw [if_pos h1, if_pos (show x > y from Int64.lt_iff_toInt_lt.mpr h1)]
          rfl
        · rw [if_neg h1, if_neg (show ¬ x > y from fun q => h1 (Int64.lt_iff_toInt_lt.mp q))]
          by_cases h2 : x.toInt = y.toInt
          · rw [if_pos h2, if_pos (Int64.toInt_inj.mp h2)]
            rfl
          · rw [if_neg h2, if_neg (fun q => h2 (by rw [q]))]
            rfl
      · cases h
  · rename_i b a r
    split at h
    · rename_i op hop
      cases h
      obtain ⟨_, vs', rfl, ⟨y, rfl, y1⟩, g2⟩ := h3.uncons
      obtain ⟨_, vs'', rfl, ⟨x, rfl, x1⟩, g3⟩ := g2.uncons
      have h20 := xk_osh_lt hop
      have hm := xk_mk_ok (by omega) hnx ht
      refine xk_rowS hexec hb hop hd (k H ls _ locs ⟨lv, h1, h2, ck_all.cons ⟨_, rfl, ?_⟩ g3, h4, h5, h6⟩)
      show (xk_fs op x y).toInt = xk_ov ρ (xk_mk op [a, b] tb nx).1
      rw [hm]
      dsimp only at x1 y1
      simp only [List.map_cons, List.map_nil, ← x1, ← y1]
      exact (xk_semS h20.1 h20.2 x y []).symm
    · cases h
  · split at h
    · cases h
      obtain ⟨_, vs', rfl, ⟨x, rfl, x1⟩, g2⟩ := h3.uncons
      have hm := xk_mk_ok (by omega) hnx ht
      refine lv_l2i hexec hb hd rfl (k H ls _ locs ⟨lv, h1, h2, ck_all.cons ⟨_, rfl, ?_⟩ g2, h4, h5, h6⟩)
      show x.toInt32.toInt = xk_ov ρ (xk_mk 30 [_] tb nx).1
      rw [hm]
      dsimp only at x1
      simp only [List.map_cons, List.map_nil, ← x1]
      show _ = (Int64.ofInt x.toInt).toInt32.toInt
      rw [xk_i64]
    · cases h
  · cases h
theorem xk_ari_sub {i : Instr} {tb : List xk_E} {nx : Nat} {y : xk_Y} (h : xk_ari i st tb nx = some y) : (∀ e ∈ tb, e ∈ y.2.1) ∧ nx ≤ y.2.2 := by
  unfold xk_ari at h
  split at h
  · split at h
    · split at h
      · cases h; exact xk_mk_sub
      · cases h
    · cases h
  · split at h
    · cases h; exact xk_mk_sub
    · split at h
      · cases h; exact xk_mk_sub
      · cases h
  · split at h
    · cases h; exact xk_mk_sub
    · cases h
  · split at h
    · cases h; exact xk_mk_sub
    · cases h
  · cases h
end XKB
