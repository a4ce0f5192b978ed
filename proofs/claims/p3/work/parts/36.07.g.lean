/-! the second checker: 07 -/
def gck_st (D : va_G) (AC : Nat → ClassId) (S : Nat → Nat) (tab : List ck_D) (L : Heap) (nL : Nat) (ρ0 : Nat → Int) (wr : List Nat) (G0 : Nat → Nat) (N0 : List Nat) (H0 : Heap) (A : ck_A) (H : Heap) (ls : Array Slot) (st : List Value) (locs : List Loc) : Prop :=
  ∃ (ρ : Nat → Int) (G : Nat → Nat) (N : List Nat) (lv : List (Nat × Value)), lv_has ls nL lv ∧ ck_all (ck_RL S ρ G N) A.1 lv ∧ ck_all (ck_R S ρ G N) A.2.1 st ∧ ck_H D AC S tab L ρ G N A.2.2 H ∧ gck_F wr G0 N0 H0 G N A.2.2 H ∧ (∀ q ∈ locs, L.size ≤ q.base) ∧ ∀ g, 100 ≤ g → g < 200 → ρ g = ρ0 g
section CKW
variable {p : Program} {l : Launch} {e : Env} {R : Room} {s : State} {m : MethodId} {args : Array Value} {below : List Frame} {meth : Method} {c : Code} {cells slots : Nat} {Q : State → Prop}
variable {cc : ByteArray} {pc pc2 nL : Nat} {D : va_G} {AC : Nat → ClassId} {S : Nat → Nat} {tab : List ck_D} {L : Heap} {ρ0 : Nat → Int} {wr : List Nat} {G0 : Nat → Nat} {N0 : List Nat} {H0 : Heap}
/-- from every state that an abstract one describes, the method comes to its end -/
def gck_W (p : Program) (l : Launch) (e : Env) (R : Room) (s : State) (m : MethodId) (args : Array Value) (below : List Frame) (meth : Method) (c : Code) (Q : State → Prop) (D : va_G) (AC : Nat → ClassId) (S : Nat → Nat) (tab : List ck_D) (L : Heap) (nL : Nat) (ρ0 : Nat → Int) (wr : List Nat) (G0 : Nat → Nat) (N0 : List Nat) (H0 : Heap) (pc : Nat) (A : ck_A) (cells slots : Nat) : Prop :=
  ∀ (H : Heap) (ls : Array Slot) (st : List Value) (locs : List Loc), gck_st D AC S tab L nL ρ0 wr G0 N0 H0 A H ls st locs → W p l e R s m args below meth c H locs cells slots Q (F0 m pc ls st)
variable {A : List (Nat × ck_V)} {st : List ck_V} {T : List ck_C}
theorem gcw_pushI (n : Int) (v : Int32) (hn : v.toInt = n) (row : ∀ {H : Heap} {ls : Array Slot} {rest : List Value} {locs : List Loc}, W p l e R s m args below meth c H locs cells slots Q (F0 m pc2 ls (.int v :: rest)) → W p l e R s m args below meth c H locs cells slots Q (F0 m pc ls rest))
    (k : gck_W p l e R s m args below meth c Q D AC S tab L nL ρ0 wr G0 N0 H0 pc2 (A, .inl (n, n, none) :: st, T) cells slots) : gck_W p l e R s m args below meth c Q D AC S tab L nL ρ0 wr G0 N0 H0 pc (A, st, T) cells slots := by
  intro H ls vs locs h
  obtain ⟨ρ, G, N, lv, h1, h2, h3, h4, h5, h6, h7⟩ := h
  exact row (k H ls _ locs ⟨ρ, G, N, lv, h1, h2, ck_all.cons ⟨v, rfl, by rw [hn]; exact Int.le_refl _, by rw [hn]; exact Int.le_refl _, fun g c q => by cases q⟩ h3, h4, h5, h6, h7⟩)
theorem gcw_pushJ (n : Int) (v : Int64) (hn : v.toInt = n) (row : ∀ {H : Heap} {ls : Array Slot} {rest : List Value} {locs : List Loc}, W p l e R s m args below meth c H locs cells slots Q (F0 m pc2 ls (.long v :: rest)) → W p l e R s m args below meth c H locs cells slots Q (F0 m pc ls rest))
    (k : gck_W p l e R s m args below meth c Q D AC S tab L nL ρ0 wr G0 N0 H0 pc2 (A, .inr (.inl (n, n)) :: st, T) cells slots) : gck_W p l e R s m args below meth c Q D AC S tab L nL ρ0 wr G0 N0 H0 pc (A, st, T) cells slots := by
  intro H ls vs locs h
  obtain ⟨ρ, G, N, lv, h1, h2, h3, h4, h5, h6, h7⟩ := h
  exact row (k H ls _ locs ⟨ρ, G, N, lv, h1, h2, ck_all.cons ⟨v, rfl, by rw [hn]; exact Int.le_refl _, by rw [hn]; exact Int.le_refl _⟩ h3, h4, h5, h6, h7⟩)
theorem gcw_load {i : Nat} {k : ck_V} (hk : ck_loc A i = some k) (row : ∀ {H : Heap} {ls : Array Slot} {rest : List Value} {locs : List Loc} {ρ : Nat → Int} {G : Nat → Nat} {N : List Nat} {v : Value}, ls[i]? = some (.val v) → ck_R S ρ G N k v → W p l e R s m args below meth c H locs cells slots Q (F0 m pc2 ls (v :: rest)) → W p l e R s m args below meth c H locs cells slots Q (F0 m pc ls rest))
    (kk : gck_W p l e R s m args below meth c Q D AC S tab L nL ρ0 wr G0 N0 H0 pc2 (A, k :: st, T) cells slots) : gck_W p l e R s m args below meth c Q D AC S tab L nL ρ0 wr G0 N0 H0 pc (A, st, T) cells slots := by
  intro H ls vs locs h
  obtain ⟨ρ, G, N, lv, h1, h2, h3, h4, h5, h6, h7⟩ := h
  obtain ⟨j, v, g1, g2⟩ := ck_loc_ok h2 hk
  exact row (lv_at h1 j g1) g2 (kk H ls _ locs ⟨ρ, G, N, lv, h1, h2, ck_all.cons g2 h3, h4, h5, h6, h7⟩)
theorem gcw_store1 {i : Nat} {k : ck_V} (hk : ck_lng k = false) (hkn : A.all (fun q => ck_kn q.2) = true) (hn : i < nL)
    (row : ∀ {H : Heap} {ls : Array Slot} {rest : List Value} {locs : List Loc} {ρ : Nat → Int} {G : Nat → Nat} {N : List Nat} {v : Value} {lv : List (Nat × Value)}, ck_R S ρ G N k v → lv_has ls nL lv → (∀ ls' : Array Slot, lv_has ls' nL ((i, v) :: lv.filter (fun q => !(q.1 == i) && !(q.1 + 1 == i && q.2.category == 2))) → W p l e R s m args below meth c H locs cells slots Q (F0 m pc2 ls' rest)) → W p l e R s m args below meth c H locs cells slots Q (F0 m pc ls (v :: rest)))
    (kk : gck_W p l e R s m args below meth c Q D AC S tab L nL ρ0 wr G0 N0 H0 pc2 (ck_s1 A i k, st, T) cells slots) : gck_W p l e R s m args below meth c Q D AC S tab L nL ρ0 wr G0 N0 H0 pc (A, k :: st, T) cells slots := by
  intro H ls vs locs h
  obtain ⟨ρ, G, N, lv, h1, h2, h3, h4, h5, h6, h7⟩ := h
  obtain ⟨v, vs', rfl, g1, g2⟩ := h3.uncons
  refine row g1 h1 fun ls' hl' => kk H ls' vs' locs ⟨ρ, G, N, _, hl', ck_all.cons ⟨rfl, g1⟩ (ck_filter _ _ (fun q w hq hkq => ?_) h2 hkn), g2, h4, h5, h6, h7⟩
  rw [← ck_cat hq.2 hkq, hq.1]
theorem gcw_store2 {i : Nat} {k : ck_V} (hkn : A.all (fun q => ck_kn q.2) = true) (hn : i + 1 < nL)
    (row : ∀ {H : Heap} {ls : Array Slot} {rest : List Value} {locs : List Loc} {ρ : Nat → Int} {G : Nat → Nat} {N : List Nat} {v : Value} {lv : List (Nat × Value)}, ck_R S ρ G N k v → lv_has ls nL lv → (∀ ls' : Array Slot, lv_has ls' nL ((i, v) :: lv.filter (fun q => !(q.1 == i) && (!(q.1 == i + 1) && !(q.1 + 1 == i && q.2.category == 2)))) → W p l e R s m args below meth c H locs cells slots Q (F0 m pc2 ls' rest)) → W p l e R s m args below meth c H locs cells slots Q (F0 m pc ls (v :: rest)))
    (kk : gck_W p l e R s m args below meth c Q D AC S tab L nL ρ0 wr G0 N0 H0 pc2 (ck_s2 A i k, st, T) cells slots) : gck_W p l e R s m args below meth c Q D AC S tab L nL ρ0 wr G0 N0 H0 pc (A, k :: st, T) cells slots := by
  intro H ls vs locs h
  obtain ⟨ρ, G, N, lv, h1, h2, h3, h4, h5, h6, h7⟩ := h
  obtain ⟨v, vs', rfl, g1, g2⟩ := h3.uncons
  refine row g1 h1 fun ls' hl' => kk H ls' vs' locs ⟨ρ, G, N, _, hl', ck_all.cons ⟨rfl, g1⟩ (ck_filter _ _ (fun q w hq hkq => ?_) h2 hkn), g2, h4, h5, h6, h7⟩
  rw [← ck_cat hq.2 hkq, hq.1]
/-- two ints from the stack, one int comes -/
theorem gcw_op2 {a b : ck_Q} {r : ck_V} {f : Int32 → Int32 → Int32} (hf : ∀ ρ x y, ck_in ρ a x → ck_in ρ b y → ck_isI ρ r (f x y))
    (row : ∀ {H : Heap} {ls : Array Slot} {rest : List Value} {locs : List Loc} {x y : Int32} {ρ : Nat → Int}, ck_in ρ a x → ck_in ρ b y → W p l e R s m args below meth c H locs cells slots Q (F0 m pc2 ls (.int (f x y) :: rest)) → W p l e R s m args below meth c H locs cells slots Q (F0 m pc ls (.int y :: .int x :: rest)))
    (kk : gck_W p l e R s m args below meth c Q D AC S tab L nL ρ0 wr G0 N0 H0 pc2 (A, r :: st, T) cells slots) : gck_W p l e R s m args below meth c Q D AC S tab L nL ρ0 wr G0 N0 H0 pc (A, .inl b :: .inl a :: st, T) cells slots := by
  intro H ls vs locs h
  obtain ⟨ρ, G, N, lv, h1, h2, h3, h4, h5, h6, h7⟩ := h
  obtain ⟨_, vs', rfl, ⟨y, rfl, gy⟩, g2⟩ := h3.uncons
  obtain ⟨_, vs'', rfl, ⟨x, rfl, gx⟩, g3⟩ := g2.uncons
  obtain ⟨q, rfl, hq⟩ := hf ρ x y gx gy
  exact row gx gy (kk H ls _ locs ⟨ρ, G, N, lv, h1, h2, ck_all.cons ⟨_, rfl, hq⟩ g3, h4, h5, h6, h7⟩)
/-- a long comes of two values: any long -/
theorem gcw_opJ {a b : ck_V} {r : Int × Int} {f : Value → Value → Int64} (hf : ∀ S ρ G N v w, ck_R S ρ G N a v → ck_R S ρ G N b w → r.1 ≤ (f v w).toInt ∧ (f v w).toInt ≤ r.2)
    (row : ∀ {H : Heap} {ls : Array Slot} {rest : List Value} {locs : List Loc} {v w : Value} {S : Nat → Nat} {ρ : Nat → Int} {G : Nat → Nat} {N : List Nat}, ck_R S ρ G N a v → ck_R S ρ G N b w → W p l e R s m args below meth c H locs cells slots Q (F0 m pc2 ls (.long (f v w) :: rest)) → W p l e R s m args below meth c H locs cells slots Q (F0 m pc ls (w :: v :: rest)))
    (kk : gck_W p l e R s m args below meth c Q D AC S tab L nL ρ0 wr G0 N0 H0 pc2 (A, .inr (.inl r) :: st, T) cells slots) : gck_W p l e R s m args below meth c Q D AC S tab L nL ρ0 wr G0 N0 H0 pc (A, b :: a :: st, T) cells slots := by
  intro H ls vs locs h
  obtain ⟨ρ, G, N, lv, h1, h2, h3, h4, h5, h6, h7⟩ := h
  obtain ⟨w, vs', rfl, gw, g2⟩ := h3.uncons
  obtain ⟨v, vs'', rfl, gv, g3⟩ := g2.uncons
  have := hf S ρ G N v w gv gw
  exact row gv gw (kk H ls _ locs ⟨ρ, G, N, lv, h1, h2, ck_all.cons ⟨_, rfl, this.1, this.2⟩ g3, h4, h5, h6, h7⟩)
/-- a value comes of one -/
theorem gcw_op1 {a r : ck_V} {f : Value → Value} (hf : ∀ ρ G N v, ck_R S ρ G N a v → ck_R S ρ G N r (f v))
    (row : ∀ {H : Heap} {ls : Array Slot} {rest : List Value} {locs : List Loc} {v : Value} {ρ : Nat → Int} {G : Nat → Nat} {N : List Nat}, ck_R S ρ G N a v → W p l e R s m args below meth c H locs cells slots Q (F0 m pc2 ls (f v :: rest)) → W p l e R s m args below meth c H locs cells slots Q (F0 m pc ls (v :: rest)))
    (kk : gck_W p l e R s m args below meth c Q D AC S tab L nL ρ0 wr G0 N0 H0 pc2 (A, r :: st, T) cells slots) : gck_W p l e R s m args below meth c Q D AC S tab L nL ρ0 wr G0 N0 H0 pc (A, a :: st, T) cells slots := by
  intro H ls vs locs h
  obtain ⟨ρ, G, N, lv, h1, h2, h3, h4, h5, h6, h7⟩ := h
  obtain ⟨v, vs', rfl, gv, g2⟩ := h3.uncons
  exact row gv (kk H ls _ locs ⟨ρ, G, N, lv, h1, h2, ck_all.cons (hf ρ G N v gv) g2, h4, h5, h6, h7⟩)
/-- the stack is changed about -/
theorem gcw_stk {st st' : List ck_V} (f : List Value → List Value) (hf : ∀ (S : Nat → Nat) (ρ : Nat → Int) (G : Nat → Nat) (N : List Nat) (vs : List Value), ck_all (ck_R S ρ G N) st vs → ck_all (ck_R S ρ G N) st' (f vs))
    (row : ∀ {H : Heap} {ls : Array Slot} {locs : List Loc} {vs : List Value} {S : Nat → Nat} {ρ : Nat → Int} {G : Nat → Nat} {N : List Nat}, ck_all (ck_R S ρ G N) st vs → W p l e R s m args below meth c H locs cells slots Q (F0 m pc2 ls (f vs)) → W p l e R s m args below meth c H locs cells slots Q (F0 m pc ls vs))
    (kk : gck_W p l e R s m args below meth c Q D AC S tab L nL ρ0 wr G0 N0 H0 pc2 (A, st', T) cells slots) : gck_W p l e R s m args below meth c Q D AC S tab L nL ρ0 wr G0 N0 H0 pc (A, st, T) cells slots := by
  intro H ls vs locs h
  obtain ⟨ρ, G, N, lv, h1, h2, h3, h4, h5, h6, h7⟩ := h
  exact row h3 (kk H ls _ locs ⟨ρ, G, N, lv, h1, h2, hf S ρ G N vs h3, h4, h5, h6, h7⟩)
end CKW
