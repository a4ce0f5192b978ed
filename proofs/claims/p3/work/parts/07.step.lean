/-! ===== the frame's side; instructions that leave the heap alone ===== -/
/-- an old cell that stays as it is: of no type and no name, or of a type that isn't written -/
def ck_ks (wr : List Nat) (G0 : Nat → Nat) (N0 : List Nat) (q : Nat) : Prop := (G0 q = 0 ∧ q ∉ N0) ∨ (G0 q ≠ 0 ∧ G0 q ∉ wr)
/-- since the method began (G0, N0, H0): old types stay, old cells without a type or a name stay -/
def ck_F (wr : List Nat) (G0 : Nat → Nat) (N0 : List Nat) (H0 : Heap) (G : Nat → Nat) (N : List Nat) (T : List ck_C) (H : Heap) : Prop :=
  H0.size ≤ H.size ∧ (∀ q, q < H0.size → G q = G0 q) ∧ (∀ q, q < H0.size → ck_ks wr G0 N0 q → H[q]? = H0[q]?) ∧ N0.length ≤ N.length ∧ (∀ i, i < N0.length → N[i]? = N0[i]?) ∧
  ∀ (i : Nat) (c : ck_C) (a : Nat), T[i]? = some c → N[i]? = some a → ck_own c = true → N0.length ≤ i → H0.size ≤ a
abbrev ck_A : Type := List (Nat × ck_V) × List ck_V × List ck_C
abbrev ck_RL (S : Nat → Nat) (ρ : Nat → Int) (G : Nat → Nat) (N : List Nat) : Nat × ck_V → Nat × Value → Prop := fun q w => q.1 = w.1 ∧ ck_R S ρ G N q.2 w.2
def ck_st (D : va_G) (AC : Nat → ClassId) (S : Nat → Nat) (tab : List ck_D) (L : Heap) (nL : Nat) (ρ0 : Nat → Int) (wr : List Nat) (G0 : Nat → Nat) (N0 : List Nat) (H0 : Heap) (A : ck_A) (H : Heap) (ls : Array Slot) (st : List Value) (locs : List Loc) : Prop :=
  ∃ (ρ : Nat → Int) (G : Nat → Nat) (N : List Nat) (lv : List (Nat × Value)), lv_has ls nL lv ∧ ck_all (ck_RL S ρ G N) A.1 lv ∧ ck_all (ck_R S ρ G N) A.2.1 st ∧ ck_H D AC S tab L ρ G N A.2.2 H ∧ ck_F wr G0 N0 H0 G N A.2.2 H ∧ (∀ q ∈ locs, L.size ≤ q.base) ∧ ∀ g, 100 ≤ g → g < 200 → ρ g = ρ0 g
section CKW
variable {p : Program} {l : Launch} {e : Env} {R : Room} {s : State} {m : MethodId} {args : Array Value} {below : List Frame} {meth : Method} {c : Code} {cells slots : Nat} {Q : State → Prop}
variable {cc : ByteArray} {pc pc2 nL : Nat} {D : va_G} {AC : Nat → ClassId} {S : Nat → Nat} {tab : List ck_D} {L : Heap} {ρ0 : Nat → Int} {wr : List Nat} {G0 : Nat → Nat} {N0 : List Nat} {H0 : Heap}
/-- from every state that an abstract one describes, the method comes to its end -/
def ck_W (p : Program) (l : Launch) (e : Env) (R : Room) (s : State) (m : MethodId) (args : Array Value) (below : List Frame) (meth : Method) (c : Code) (Q : State → Prop) (D : va_G) (AC : Nat → ClassId) (S : Nat → Nat) (tab : List ck_D) (L : Heap) (nL : Nat) (ρ0 : Nat → Int) (wr : List Nat) (G0 : Nat → Nat) (N0 : List Nat) (H0 : Heap) (pc : Nat) (A : ck_A) (cells slots : Nat) : Prop :=
  ∀ (H : Heap) (ls : Array Slot) (st : List Value) (locs : List Loc), ck_st D AC S tab L nL ρ0 wr G0 N0 H0 A H ls st locs → W p l e R s m args below meth c H locs cells slots Q (F0 m pc ls st)
variable {A : List (Nat × ck_V)} {st : List ck_V} {T : List ck_C}
theorem cw_pushI (n : Int) (v : Int32) (hn : v.toInt = n) (row : ∀ {H : Heap} {ls : Array Slot} {rest : List Value} {locs : List Loc}, W p l e R s m args below meth c H locs cells slots Q (F0 m pc2 ls (.int v :: rest)) → W p l e R s m args below meth c H locs cells slots Q (F0 m pc ls rest))
    (k : ck_W p l e R s m args below meth c Q D AC S tab L nL ρ0 wr G0 N0 H0 pc2 (A, .inl (n, n, none) :: st, T) cells slots) : ck_W p l e R s m args below meth c Q D AC S tab L nL ρ0 wr G0 N0 H0 pc (A, st, T) cells slots := by
  intro H ls vs locs h
  obtain ⟨ρ, G, N, lv, h1, h2, h3, h4, h5, h6, h7⟩ := h
  exact row (k H ls _ locs ⟨ρ, G, N, lv, h1, h2, ck_all.cons ⟨v, rfl, by rw [hn]; exact Int.le_refl _, by rw [hn]; exact Int.le_refl _, fun g c q => by cases q⟩ h3, h4, h5, h6, h7⟩)
theorem cw_pushJ (n : Int) (v : Int64) (hn : v.toInt = n) (row : ∀ {H : Heap} {ls : Array Slot} {rest : List Value} {locs : List Loc}, W p l e R s m args below meth c H locs cells slots Q (F0 m pc2 ls (.long v :: rest)) → W p l e R s m args below meth c H locs cells slots Q (F0 m pc ls rest))
    (k : ck_W p l e R s m args below meth c Q D AC S tab L nL ρ0 wr G0 N0 H0 pc2 (A, .inr (.inl (n, n)) :: st, T) cells slots) : ck_W p l e R s m args below meth c Q D AC S tab L nL ρ0 wr G0 N0 H0 pc (A, st, T) cells slots := by
  intro H ls vs locs h
  obtain ⟨ρ, G, N, lv, h1, h2, h3, h4, h5, h6, h7⟩ := h
  exact row (k H ls _ locs ⟨ρ, G, N, lv, h1, h2, ck_all.cons ⟨v, rfl, by rw [hn]; exact Int.le_refl _, by rw [hn]; exact Int.le_refl _⟩ h3, h4, h5, h6, h7⟩)
/-- reading a local -/
def ck_loc : List (Nat × ck_V) → Nat → Option ck_V
  | [], _ => none
  | (i, v) :: t, j => if i == j then some v else ck_loc t j
theorem ck_loc_ok {S : Nat → Nat} {ρ : Nat → Int} {G : Nat → Nat} {N : List Nat} : ∀ {A : List (Nat × ck_V)} {lv : List (Nat × Value)} {i : Nat} {k : ck_V}, ck_all (ck_RL S ρ G N) A lv → ck_loc A i = some k → ∃ (j : Nat) (v : Value), lv[j]? = some (i, v) ∧ ck_R S ρ G N k v
  | [], _, _, _, _, h => by cases h
  | (i0, k0) :: t, lv, i, k, ha, h => by
    obtain ⟨⟨i1, v1⟩, m', rfl, h1, h2⟩ := ha.uncons
    unfold ck_loc at h
    split at h
    · rename_i hi
      cases h
      have e : i0 = i := by simpa using hi
      exact ⟨0, v1, by rw [← e, show i0 = i1 from h1.1]; rfl, h1.2⟩
    · obtain ⟨j, v, g1, g2⟩ := ck_loc_ok h2 h
      exact ⟨j + 1, v, by simpa using g1, g2⟩
theorem cw_load {i : Nat} {k : ck_V} (hk : ck_loc A i = some k) (row : ∀ {H : Heap} {ls : Array Slot} {rest : List Value} {locs : List Loc} {ρ : Nat → Int} {G : Nat → Nat} {N : List Nat} {v : Value}, ls[i]? = some (.val v) → ck_R S ρ G N k v → W p l e R s m args below meth c H locs cells slots Q (F0 m pc2 ls (v :: rest)) → W p l e R s m args below meth c H locs cells slots Q (F0 m pc ls rest))
    (kk : ck_W p l e R s m args below meth c Q D AC S tab L nL ρ0 wr G0 N0 H0 pc2 (A, k :: st, T) cells slots) : ck_W p l e R s m args below meth c Q D AC S tab L nL ρ0 wr G0 N0 H0 pc (A, st, T) cells slots := by
  intro H ls vs locs h
  obtain ⟨ρ, G, N, lv, h1, h2, h3, h4, h5, h6, h7⟩ := h
  obtain ⟨j, v, g1, g2⟩ := ck_loc_ok h2 hk
  exact row (lv_at h1 j g1) g2 (kk H ls _ locs ⟨ρ, G, N, lv, h1, h2, ck_all.cons g2 h3, h4, h5, h6, h7⟩)
/-- writing a local -/
def ck_lng : ck_V → Bool
  | .inr (.inl _) => true
  | _ => false
def ck_kn : ck_V → Bool
  | .inr (.inr (n, _)) => n < 5
  | _ => true
theorem ck_cat {S : Nat → Nat} {ρ : Nat → Int} {G : Nat → Nat} {N : List Nat} {k : ck_V} {v : Value} (h : ck_R S ρ G N k v) (hk : ck_kn k = true) : (v.category == 2) = ck_lng k := by
  match k, h, hk with
  | .inl q, h, _ => obtain ⟨x, rfl, -⟩ := h; rfl
  | .inr (.inl q), h, _ => obtain ⟨x, rfl, -⟩ := h; rfl
  | .inr (.inr (0, _)), h, _ => cases h; rfl
  | .inr (.inr (1, i)), h, _ => obtain ⟨a, -, rfl⟩ := h; rfl
  | .inr (.inr (2, τ)), h, _ => obtain ⟨a, rfl, -⟩ := h; rfl
  | .inr (.inr (3, j)), h, _ => cases h; rfl
  | .inr (.inr (4, _)), h, _ => obtain ⟨a, rfl⟩ := h; rfl
  | .inr (.inr (n + 5, _)), _, hk => simp [ck_kn] at hk; omega
def ck_s1 (A : List (Nat × ck_V)) (i : Nat) (k : ck_V) : List (Nat × ck_V) := (i, k) :: A.filter (fun q => !(q.1 == i) && !(q.1 + 1 == i && ck_lng q.2))
def ck_s2 (A : List (Nat × ck_V)) (i : Nat) (k : ck_V) : List (Nat × ck_V) := (i, k) :: A.filter (fun q => !(q.1 == i) && (!(q.1 == i + 1) && !(q.1 + 1 == i && ck_lng q.2)))
theorem ck_filter {S : Nat → Nat} {ρ : Nat → Int} {G : Nat → Nat} {N : List Nat} (f : Nat × ck_V → Bool) (g : Nat × Value → Bool) (hfg : ∀ q w, ck_RL S ρ G N q w → ck_kn q.2 = true → f q = g w) : ∀ {A : List (Nat × ck_V)} {lv : List (Nat × Value)}, ck_all (ck_RL S ρ G N) A lv → A.all (fun q => ck_kn q.2) = true → ck_all (ck_RL S ρ G N) (A.filter f) (lv.filter g)
  | [], lv, h, _ => by
    have : lv = [] := by
      have := h.1
      cases lv with
      | nil => rfl
      | cons a b => simp at this
    subst this
    exact ck_all.nil
  | q :: t, lv, h, hk => by
    obtain ⟨w, lv', rfl, h1, h2⟩ := h.uncons
    simp only [List.all_cons, Bool.and_eq_true] at hk
    have ih := ck_filter f g hfg h2 hk.2
    have e := hfg q w h1 hk.1
    rw [List.filter_cons, List.filter_cons, e]
    split
    · exact ck_all.cons h1 ih
    · exact ih
theorem cw_store1 {i : Nat} {k : ck_V} (hk : ck_lng k = false) (hkn : A.all (fun q => ck_kn q.2) = true) (hn : i < nL)
    (row : ∀ {H : Heap} {ls : Array Slot} {rest : List Value} {locs : List Loc} {ρ : Nat → Int} {G : Nat → Nat} {N : List Nat} {v : Value} {lv : List (Nat × Value)}, ck_R S ρ G N k v → lv_has ls nL lv → (∀ ls' : Array Slot, lv_has ls' nL ((i, v) :: lv.filter (fun q => !(q.1 == i) && !(q.1 + 1 == i && q.2.category == 2))) → W p l e R s m args below meth c H locs cells slots Q (F0 m pc2 ls' rest)) → W p l e R s m args below meth c H locs cells slots Q (F0 m pc ls (v :: rest)))
    (kk : ck_W p l e R s m args below meth c Q D AC S tab L nL ρ0 wr G0 N0 H0 pc2 (ck_s1 A i k, st, T) cells slots) : ck_W p l e R s m args below meth c Q D AC S tab L nL ρ0 wr G0 N0 H0 pc (A, k :: st, T) cells slots := by
  intro H ls vs locs h
  obtain ⟨ρ, G, N, lv, h1, h2, h3, h4, h5, h6, h7⟩ := h
  obtain ⟨v, vs', rfl, g1, g2⟩ := h3.uncons
  refine row g1 h1 fun ls' hl' => kk H ls' vs' locs ⟨ρ, G, N, _, hl', ck_all.cons ⟨rfl, g1⟩ (ck_filter _ _ (fun q w hq hkq => ?_) h2 hkn), g2, h4, h5, h6, h7⟩
  rw [← ck_cat hq.2 hkq, hq.1]
theorem cw_store2 {i : Nat} {k : ck_V} (hkn : A.all (fun q => ck_kn q.2) = true) (hn : i + 1 < nL)
    (row : ∀ {H : Heap} {ls : Array Slot} {rest : List Value} {locs : List Loc} {ρ : Nat → Int} {G : Nat → Nat} {N : List Nat} {v : Value} {lv : List (Nat × Value)}, ck_R S ρ G N k v → lv_has ls nL lv → (∀ ls' : Array Slot, lv_has ls' nL ((i, v) :: lv.filter (fun q => !(q.1 == i) && (!(q.1 == i + 1) && !(q.1 + 1 == i && q.2.category == 2)))) → W p l e R s m args below meth c H locs cells slots Q (F0 m pc2 ls' rest)) → W p l e R s m args below meth c H locs cells slots Q (F0 m pc ls (v :: rest)))
    (kk : ck_W p l e R s m args below meth c Q D AC S tab L nL ρ0 wr G0 N0 H0 pc2 (ck_s2 A i k, st, T) cells slots) : ck_W p l e R s m args below meth c Q D AC S tab L nL ρ0 wr G0 N0 H0 pc (A, k :: st, T) cells slots := by
  intro H ls vs locs h
  obtain ⟨ρ, G, N, lv, h1, h2, h3, h4, h5, h6, h7⟩ := h
  obtain ⟨v, vs', rfl, g1, g2⟩ := h3.uncons
  refine row g1 h1 fun ls' hl' => kk H ls' vs' locs ⟨ρ, G, N, _, hl', ck_all.cons ⟨rfl, g1⟩ (ck_filter _ _ (fun q w hq hkq => ?_) h2 hkn), g2, h4, h5, h6, h7⟩
  rw [← ck_cat hq.2 hkq, hq.1]
/-- two ints from the stack, one int comes -/
theorem cw_op2 {a b : ck_Q} {r : ck_V} {f : Int32 → Int32 → Int32} (hf : ∀ ρ x y, ck_in ρ a x → ck_in ρ b y → ck_isI ρ r (f x y))
    (row : ∀ {H : Heap} {ls : Array Slot} {rest : List Value} {locs : List Loc} {x y : Int32} {ρ : Nat → Int}, ck_in ρ a x → ck_in ρ b y → W p l e R s m args below meth c H locs cells slots Q (F0 m pc2 ls (.int (f x y) :: rest)) → W p l e R s m args below meth c H locs cells slots Q (F0 m pc ls (.int y :: .int x :: rest)))
    (kk : ck_W p l e R s m args below meth c Q D AC S tab L nL ρ0 wr G0 N0 H0 pc2 (A, r :: st, T) cells slots) : ck_W p l e R s m args below meth c Q D AC S tab L nL ρ0 wr G0 N0 H0 pc (A, .inl b :: .inl a :: st, T) cells slots := by
  intro H ls vs locs h
  obtain ⟨ρ, G, N, lv, h1, h2, h3, h4, h5, h6, h7⟩ := h
  obtain ⟨_, vs', rfl, ⟨y, rfl, gy⟩, g2⟩ := h3.uncons
  obtain ⟨_, vs'', rfl, ⟨x, rfl, gx⟩, g3⟩ := g2.uncons
  obtain ⟨q, rfl, hq⟩ := hf ρ x y gx gy
  exact row gx gy (kk H ls _ locs ⟨ρ, G, N, lv, h1, h2, ck_all.cons ⟨_, rfl, hq⟩ g3, h4, h5, h6, h7⟩)
theorem ck_i64 (x : Int64) : -9223372036854775808 ≤ x.toInt ∧ x.toInt ≤ 9223372036854775807 := by
  have h1 := Int64.minValue_le_toInt x
  have h2 := Int64.toInt_lt x
  exact ⟨by simpa using h1, by omega⟩
/-- a long comes of two values: any long -/
theorem cw_opJ {a b : ck_V} {r : Int × Int} {f : Value → Value → Int64} (hf : ∀ S ρ G N v w, ck_R S ρ G N a v → ck_R S ρ G N b w → r.1 ≤ (f v w).toInt ∧ (f v w).toInt ≤ r.2)
    (row : ∀ {H : Heap} {ls : Array Slot} {rest : List Value} {locs : List Loc} {v w : Value} {S : Nat → Nat} {ρ : Nat → Int} {G : Nat → Nat} {N : List Nat}, ck_R S ρ G N a v → ck_R S ρ G N b w → W p l e R s m args below meth c H locs cells slots Q (F0 m pc2 ls (.long (f v w) :: rest)) → W p l e R s m args below meth c H locs cells slots Q (F0 m pc ls (w :: v :: rest)))
    (kk : ck_W p l e R s m args below meth c Q D AC S tab L nL ρ0 wr G0 N0 H0 pc2 (A, .inr (.inl r) :: st, T) cells slots) : ck_W p l e R s m args below meth c Q D AC S tab L nL ρ0 wr G0 N0 H0 pc (A, b :: a :: st, T) cells slots := by
  intro H ls vs locs h
  obtain ⟨ρ, G, N, lv, h1, h2, h3, h4, h5, h6, h7⟩ := h
  obtain ⟨w, vs', rfl, gw, g2⟩ := h3.uncons
  obtain ⟨v, vs'', rfl, gv, g3⟩ := g2.uncons
  have := hf S ρ G N v w gv gw
  exact row gv gw (kk H ls _ locs ⟨ρ, G, N, lv, h1, h2, ck_all.cons ⟨_, rfl, this.1, this.2⟩ g3, h4, h5, h6, h7⟩)
/-- a value comes of one -/
theorem cw_op1 {a r : ck_V} {f : Value → Value} (hf : ∀ ρ G N v, ck_R S ρ G N a v → ck_R S ρ G N r (f v))
    (row : ∀ {H : Heap} {ls : Array Slot} {rest : List Value} {locs : List Loc} {v : Value} {ρ : Nat → Int} {G : Nat → Nat} {N : List Nat}, ck_R S ρ G N a v → W p l e R s m args below meth c H locs cells slots Q (F0 m pc2 ls (f v :: rest)) → W p l e R s m args below meth c H locs cells slots Q (F0 m pc ls (v :: rest)))
    (kk : ck_W p l e R s m args below meth c Q D AC S tab L nL ρ0 wr G0 N0 H0 pc2 (A, r :: st, T) cells slots) : ck_W p l e R s m args below meth c Q D AC S tab L nL ρ0 wr G0 N0 H0 pc (A, a :: st, T) cells slots := by
  intro H ls vs locs h
  obtain ⟨ρ, G, N, lv, h1, h2, h3, h4, h5, h6, h7⟩ := h
  obtain ⟨v, vs', rfl, gv, g2⟩ := h3.uncons
  exact row gv (kk H ls _ locs ⟨ρ, G, N, lv, h1, h2, ck_all.cons (hf ρ G N v gv) g2, h4, h5, h6, h7⟩)
/-- the stack is changed about -/
theorem cw_stk {st st' : List ck_V} (f : List Value → List Value) (hf : ∀ (S : Nat → Nat) (ρ : Nat → Int) (G : Nat → Nat) (N : List Nat) (vs : List Value), ck_all (ck_R S ρ G N) st vs → ck_all (ck_R S ρ G N) st' (f vs))
    (row : ∀ {H : Heap} {ls : Array Slot} {locs : List Loc} {vs : List Value} {S : Nat → Nat} {ρ : Nat → Int} {G : Nat → Nat} {N : List Nat}, ck_all (ck_R S ρ G N) st vs → W p l e R s m args below meth c H locs cells slots Q (F0 m pc2 ls (f vs)) → W p l e R s m args below meth c H locs cells slots Q (F0 m pc ls vs))
    (kk : ck_W p l e R s m args below meth c Q D AC S tab L nL ρ0 wr G0 N0 H0 pc2 (A, st', T) cells slots) : ck_W p l e R s m args below meth c Q D AC S tab L nL ρ0 wr G0 N0 H0 pc (A, st, T) cells slots := by
  intro H ls vs locs h
  obtain ⟨ρ, G, N, lv, h1, h2, h3, h4, h5, h6, h7⟩ := h
  exact row h3 (kk H ls _ locs ⟨ρ, G, N, lv, h1, h2, hf S ρ G N vs h3, h4, h5, h6, h7⟩)
/-! a ghost's bounds are drawn tighter everywhere -/
def ck_tg (g : Nat) (lo hi : Int) : ck_V → ck_V
  | .inl (a, b, some (h, k)) => if g == h then .inl (ck_max a (lo + k), ck_min b (hi + k), some (h, k)) else .inl (a, b, some (h, k))
  | x => x
theorem ck_tg_ok {g : Nat} {lo hi : Int} {S : Nat → Nat} {ρ : Nat → Int} {G : Nat → Nat} {N : List Nat} {k : ck_V} {v : Value} (h1 : lo ≤ ρ g) (h2 : ρ g ≤ hi) (h : ck_R S ρ G N k v) : ck_R S ρ G N (ck_tg g lo hi k) v := by
  match k, h with
  | .inl (a, b, none), h => exact h
  | .inl (a, b, some (q, k)), h =>
    show ck_R S ρ G N (if g == q then .inl (ck_max a (lo + k), ck_min b (hi + k), some (q, k)) else .inl (a, b, some (q, k))) v
    by_cases hg : (g == q) = true
    · rw [if_pos hg]
      have hg : g = q := by simpa using hg
      subst hg
      obtain ⟨x, e, x1, x2, x3⟩ := h
      have := x3 g k rfl
      dsimp only at x1 x2
      exact ⟨x, e, ck_max_le x1 (by omega), ck_le_min x2 (by omega), x3⟩
    · rw [if_neg hg]
      exact h
  | .inr z, h => exact h
def ck_tgA (g : Nat) (lo hi : Int) (A : ck_A) : ck_A := (A.1.map (fun q => (q.1, ck_tg g lo hi q.2)), A.2.1.map (ck_tg g lo hi), A.2.2.map (fun c => (c.1, c.2.map (ck_tg g lo hi))))
theorem ck_all.map {α β : Type} {P Q : α → β → Prop} {l : List α} {m : List β} (f : α → α) (h : ck_all P l m) (hh : ∀ a b, P a b → Q (f a) b) : ck_all Q (l.map f) m := by
  refine ⟨by simp [h.1], fun i x y hx hy => ?_⟩
  rw [List.getElem?_map] at hx
  obtain ⟨z, hz, rfl⟩ := Option.map_eq_some_iff.mp hx
  exact hh z y (h.2 i z y hz hy)
/-- the heap's side, with other abstract contents of the same cells -/
theorem ck_H.mapV {ρ ρ' : Nat → Int} {G : Nat → Nat} {N : List Nat} {T : List ck_C} {H : Heap} (φ : ck_V → ck_V) (h : ck_H D AC S tab L ρ G N T H) (hv : ∀ k v, ck_R S ρ G N k v → ck_R S ρ' G N (φ k) v) : ck_H D AC S tab L ρ' G N (T.map (fun c => (c.1, c.2.map φ))) H := by
  obtain ⟨h1, h2, h3, h4⟩ := h
  have inv : ∀ (i : Nat) (c : ck_C), (T.map (fun c => ((c.1, c.2.map φ) : ck_C)))[i]? = some c → ∃ d, T[i]? = some d ∧ c = (d.1, d.2.map φ) := by
    intro i c hc
    rw [List.getElem?_map] at hc
    obtain ⟨d, hd, rfl⟩ := Option.map_eq_some_iff.mp hc
    exact ⟨d, hd, rfl⟩
  refine ⟨h1, by simp [h2], fun i c a hc ha => ?_, fun i j c d a hc hd o1 o2 n1 n2 => ?_⟩
  · obtain ⟨d, hd, rfl⟩ := inv i c hc
    exact (h3 i d a hd ha).mapV φ (fun _ => rfl) (fun _ => rfl) (fun k v _ hkv => hv k v hkv)
  · obtain ⟨c', hc', rfl⟩ := inv i c hc
    obtain ⟨d', hd', rfl⟩ := inv j d hd
    exact h4 i j c' d' a hc' hd' o1 o2 n1 n2
theorem ck_F.mapV {wr : List Nat} {G0 G : Nat → Nat} {N0 N : List Nat} {T : List ck_C} {H0 H : Heap} (φ : ck_V → ck_V) (h : ck_F wr G0 N0 H0 G N T H) : ck_F wr G0 N0 H0 G N (T.map (fun c => (c.1, c.2.map φ))) H := by
  obtain ⟨h1, h2, h3, h4, h5, h6⟩ := h
  refine ⟨h1, h2, h3, h4, h5, fun i c a hc ha ho hi => ?_⟩
  rw [List.getElem?_map] at hc
  obtain ⟨d, hd, rfl⟩ := Option.map_eq_some_iff.mp hc
  exact h6 i d a hd ha ho hi
end CKW
