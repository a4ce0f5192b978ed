/-! ===== what an abstract state says of a heap and a frame ===== -/
/-- types: an array (its class's place, its length, kinds up to places), or an object (its class's place, kinds of its fields) -/
abbrev ck_D : Type := (Nat × Nat × List (Nat × ck_V)) ⊕ (Nat × List ck_V)
abbrev ck_C : Type := (Nat × Nat) × List ck_V
def ck_kat : List (Nat × ck_V) → Nat → ck_V
  | [], _ => .inr (.inr (8, 0))
  | (n, k) :: t, j => if j < n then k else ck_kat t j
/-- a value is of an abstract one: ρ the ghosts, G the types of cells, N the named cells, S the static arrays -/
def ck_R (S : Nat → Nat) (ρ : Nat → Int) (G : Nat → Nat) (N : List Nat) : ck_V → Value → Prop
  | .inl q, v => ∃ x : Int32, v = .int x ∧ ck_in ρ q x
  | .inr (.inl q), v => ∃ x : Int64, v = .long x ∧ q.1 ≤ x.toInt ∧ x.toInt ≤ q.2
  | .inr (.inr (0, _)), v => v = .null
  | .inr (.inr (1, i)), v => ∃ a, N[i]? = some a ∧ v = .ref a
  | .inr (.inr (2, τ)), v => ∃ a, v = .ref a ∧ G a = τ ∧ τ ≠ 0
  | .inr (.inr (3, j)), v => v = .ref (S j)
  | .inr (.inr (4, _)), v => ∃ a, v = .ref a
  | .inr (.inr (_, _)), _ => True
def ck_ob (D : va_G) (ci a : Nat) (H : Heap) (vs : List Value) : Prop := ∃ (C : String) (T : u_T), ck_cl[ci]? = some (C, T, vs.length) ∧ t_OB a (D.1 ci) vs.length (D.2 ci) H (vp_V vs)
def ck_all {α β : Type} (P : α → β → Prop) (l : List α) (m : List β) : Prop := l.length = m.length ∧ ∀ (i : Nat) (a : α) (b : β), l[i]? = some a → m[i]? = some b → P a b
/-- a cell of a type -/
def ck_ty (D : va_G) (AC : Nat → ClassId) (S : Nat → Nat) (tab : List ck_D) (G : Nat → Nat) (τ a : Nat) (H : Heap) : Prop := match tab[τ]? with
  | some (.inl (ac, n, sg)) => ∃ f : Nat → Value, H[a]? = some (arrV (AC ac) n f) ∧ ∀ j, j < n → ck_R S (fun _ => 0) G [] (ck_kat sg j) (f j)
  | some (.inr (ci, ks)) => ∃ vs : List Value, ck_ob D ci a H vs ∧ ck_all (ck_R S (fun _ => 0) G []) ks vs
  | none => False
def ck_ok (D : va_G) (AC : Nat → ClassId) (S : Nat → Nat) (tab : List ck_D) (L : Heap) (G : Nat → Nat) (H : Heap) : Prop :=
  L.size ≤ H.size ∧ (∀ q, q < L.size → H[q]? = L[q]?) ∧ ∀ a, G a ≠ 0 → L.size ≤ a ∧ ck_ty D AC S tab G (G a) a H
/-- a named cell: (0, class) an object of its own; (1, array class) an array of its own; (2, _) none any more; (3, type) an object that is typed, too; (5, j) a static array; (6, j) a window of it, S 3 its first place; (k + 7, type) places k and on of an array that is typed, too -/
def ck_tc (D : va_G) (AC : Nat → ClassId) (S : Nat → Nat) (tab : List ck_D) (L : Heap) (ρ : Nat → Int) (G : Nat → Nat) (N : List Nat) (H : Heap) (c : ck_C) (a : Nat) : Prop := match c.1 with
  | (0, ci) => L.size ≤ a ∧ G a = 0 ∧ ∃ vs : List Value, ck_ob D ci a H vs ∧ ck_all (ck_R S ρ G N) c.2 vs
  | (1, ac) => L.size ≤ a ∧ G a = 0 ∧ ∃ f : Nat → Value, H[a]? = some (arrV (AC ac) c.2.length f) ∧ ∀ (j : Nat) (v : ck_V), c.2[j]? = some v → ck_R S ρ G N v (f j)
  | (3, τ) => G a = τ ∧ τ ≠ 0 ∧ ∃ (ci : Nat) (ks : List ck_V) (vs : List Value), tab[τ]? = some (.inr (ci, ks)) ∧ ck_ob D ci a H vs ∧ ck_all (ck_R S ρ G N) c.2 vs
  | (5, j) => a = S j ∧ ∃ cell : Cell, L[a]? = some cell ∧ a < L.size ∧ ∀ (k : Nat) (v : ck_V), c.2[k]? = some v → ∃ w : Value, cell.slots[k]? = some w ∧ ck_R S ρ G N v w
  | (6, j) => a = S j ∧ ∃ cell : Cell, L[a]? = some cell ∧ a < L.size ∧ ∀ (k : Nat) (v : ck_V), c.2[k]? = some v → ∃ w : Value, cell.slots[S 3 + k]? = some w ∧ ck_R S ρ G N v w
  | (k + 7, τ) => G a = τ ∧ τ ≠ 0 ∧ ∃ (ac n : Nat) (sg : List (Nat × ck_V)) (f : Nat → Value), tab[τ]? = some (.inl (ac, n, sg)) ∧ H[a]? = some (arrV (AC ac) n f) ∧ k + c.2.length ≤ n ∧ ∀ (j : Nat) (v : ck_V), c.2[j]? = some v → ck_R S ρ G N v (f (k + j))
  | _ => True
/-- typed, and named -/
def ck_foc (c : ck_C) : Prop := c.1.1 = 3 ∨ 7 ≤ c.1.1
def ck_own (c : ck_C) : Bool := c.1.1 == 0 || c.1.1 == 1
def ck_nd (T : List ck_C) (N : List Nat) : Prop := ∀ (i j : Nat) (c d : ck_C) (a : Nat), T[i]? = some c → T[j]? = some d → ck_own c = true → ck_own d = true → N[i]? = some a → N[j]? = some a → i = j
/-- the heap's side of an abstract state -/
def ck_H (D : va_G) (AC : Nat → ClassId) (S : Nat → Nat) (tab : List ck_D) (L : Heap) (ρ : Nat → Int) (G : Nat → Nat) (N : List Nat) (T : List ck_C) (H : Heap) : Prop :=
  ck_ok D AC S tab L G H ∧ N.length = T.length ∧ (∀ (i : Nat) (c : ck_C) (a : Nat), T[i]? = some c → N[i]? = some a → ck_tc D AC S tab L ρ G N H c a) ∧ ck_nd T N
/-! the relation where the types of cells grow, or ghosts are set that it doesn't use -/
theorem ck_all.mono {α β : Type} {P Q : α → β → Prop} {l : List α} {m : List β} (h : ck_all P l m) (hh : ∀ a b, a ∈ l → P a b → Q a b) : ck_all Q l m := ⟨h.1, fun i a b h1 h2 => hh a b (List.mem_of_getElem? h1) (h.2 i a b h1 h2)⟩
theorem ck_all.set {α β : Type} {P : α → β → Prop} {l : List α} {m : List β} (h : ck_all P l m) (k : Nat) {a : α} {b : β} (hab : P a b) : ck_all P (l.set k a) (m.set k b) := by
  refine ⟨by simp [h.1], fun i x y h1 h2 => ?_⟩
  by_cases e : k = i
  · subst e
    rw [List.getElem?_set] at h1 h2
    simp only [if_true] at h1 h2
    split at h1 <;> split at h2 <;> first | (cases h2; done) | (cases h1; done) | (cases h1; cases h2; exact hab)
  · rw [List.getElem?_set_ne e] at h1 h2
    exact h.2 i x y h1 h2
theorem ck_all.get {α β : Type} {P : α → β → Prop} {l : List α} {m : List β} (h : ck_all P l m) {k : Nat} {a : α} (hk : l[k]? = some a) : ∃ b, m[k]? = some b ∧ P a b := by
  have h1 : k < m.length := by rw [← h.1]; exact (List.getElem?_eq_some_iff.mp hk).1
  exact ⟨m[k], List.getElem?_eq_getElem h1, h.2 k _ _ hk (List.getElem?_eq_getElem h1)⟩
theorem ck_all.nil {α β : Type} {P : α → β → Prop} : ck_all P [] [] := ⟨rfl, fun i a b h => by simp at h⟩
theorem ck_all.cons {α β : Type} {P : α → β → Prop} {a : α} {b : β} {l : List α} {m : List β} (h1 : P a b) (h2 : ck_all P l m) : ck_all P (a :: l) (b :: m) := by
  refine ⟨by simp [h2.1], fun i x y hx hy => ?_⟩
  cases i with
  | zero => simp at hx hy; subst hx; subst hy; exact h1
  | succ n => simp at hx hy; exact h2.2 n x y hx hy
theorem ck_all.uncons {α β : Type} {P : α → β → Prop} {a : α} {l : List α} {m : List β} (h : ck_all P (a :: l) m) : ∃ b m', m = b :: m' ∧ P a b ∧ ck_all P l m' := by
  cases m with
  | nil => have := h.1; simp at this
  | cons b m' => exact ⟨b, m', rfl, h.2 0 a b rfl rfl, by have := h.1; simpa using this, fun i x y hx hy => h.2 (i + 1) x y (by simpa using hx) (by simpa using hy)⟩
def ck_up (G : Nat → Nat) (a τ : Nat) : Nat → Nat := fun q => if q = a then τ else G q
theorem ck_R.grow {S : Nat → Nat} {ρ : Nat → Int} {G G' : Nat → Nat} {N : List Nat} {k : ck_V} {v : Value} (hG : ∀ q, G q ≠ 0 → G' q = G q) (h : ck_R S ρ G N k v) : ck_R S ρ G' N k v := by
  match k, h with
  | .inl q, h => exact h
  | .inr (.inl q), h => exact h
  | .inr (.inr (0, _)), h => exact h
  | .inr (.inr (1, i)), h => exact h
  | .inr (.inr (2, τ)), h =>
    obtain ⟨a, e, h1, h2⟩ := h
    exact ⟨a, e, by rw [hG a (by rw [h1]; exact h2)]; exact h1, h2⟩
  | .inr (.inr (3, j)), h => exact h
  | .inr (.inr (4, _)), h => exact h
  | .inr (.inr (n + 5, _)), h => exact h
def ck_plain : ck_V → Bool
  | .inl (_, _, none) => true
  | .inl _ => false
  | .inr (.inr (1, _)) => false
  | _ => true
/-- a kind, without ghost and name, says the same everywhere -/
theorem ck_R.plain {S : Nat → Nat} {ρ ρ' : Nat → Int} {G : Nat → Nat} {N N' : List Nat} {k : ck_V} {v : Value} (hk : ck_plain k = true) (h : ck_R S ρ G N k v) : ck_R S ρ' G N' k v := by
  match k, hk, h with
  | .inl (lo, hi, none), _, h =>
    obtain ⟨x, e, h1, h2, -⟩ := h
    exact ⟨x, e, h1, h2, fun g c q => by cases q⟩
  | .inl (lo, hi, some t), hk, _ => cases hk
  | .inr (.inl q), _, h => exact h
  | .inr (.inr (0, _)), _, h => exact h
  | .inr (.inr (1, i)), hk, _ => cases hk
  | .inr (.inr (2, τ)), _, h => exact h
  | .inr (.inr (3, j)), _, h => exact h
  | .inr (.inr (4, _)), _, h => exact h
  | .inr (.inr (n + 5, _)), _, h => exact h
/-- without its ghost -/
def ck_strip : ck_V → ck_V
  | .inl (a, b, _) => .inl (a, b, none)
  | x => x
theorem ck_R.strip {S : Nat → Nat} {ρ : Nat → Int} {G : Nat → Nat} {N : List Nat} {k : ck_V} {v : Value} (h : ck_R S ρ G N k v) : ck_R S ρ G N (ck_strip k) v := by
  match k, h with
  | .inl (lo, hi, t), h =>
    obtain ⟨x, e, h1, h2, -⟩ := h
    exact ⟨x, e, h1, h2, fun g c q => by cases q⟩
  | .inr _, h => exact h
/-! one value below another -/
def ck_le : ck_V → ck_V → Bool
  | .inl (a, b, t), .inl (c, d, u) => decide (c ≤ a) && decide (b ≤ d) && (u == none || u == t)
  | .inr (.inl (a, b)), .inr (.inl (c, d)) => decide (c ≤ a) && decide (b ≤ d)
  | .inr (.inr (m, n)), .inr (.inr (m', n')) => (m == m' && n == n') || m' == 8
  | _, .inr (.inr (m', _)) => m' == 8
  | _, _ => false
theorem ck_R.top {S : Nat → Nat} {ρ : Nat → Int} {G : Nat → Nat} {N : List Nat} {n : Nat} {v : Value} : ck_R S ρ G N (.inr (.inr (8, n))) v := trivial
theorem ck_R.le {S : Nat → Nat} {ρ : Nat → Int} {G : Nat → Nat} {N : List Nat} {k k' : ck_V} {v : Value} (hk : ck_le k k' = true) (h : ck_R S ρ G N k v) : ck_R S ρ G N k' v := by
  match k, k', hk, h with
  | .inl (a, b, t), .inl (c, d, u), hk, h =>
    obtain ⟨x, e, h1, h2, h3⟩ := h
    simp only [ck_le, Bool.and_eq_true, Bool.or_eq_true, decide_eq_true_eq, beq_iff_eq] at hk
    dsimp only at h1 h2 h3
    refine ⟨x, e, by dsimp only; omega, by dsimp only; omega, fun g q hu => ?_⟩
    rcases hk.2 with z | z
    · rw [z] at hu; cases hu
    · exact h3 g q (by rw [← z]; exact hu)
  | .inr (.inl (a, b)), .inr (.inl (c, d)), hk, h =>
    obtain ⟨x, e, h1, h2⟩ := h
    simp only [ck_le, Bool.and_eq_true, decide_eq_true_eq] at hk
    dsimp only at h1 h2
    exact ⟨x, e, by dsimp only; omega, by dsimp only; omega⟩
  | .inr (.inr (m, n)), .inr (.inr (m', n')), hk, h =>
    simp only [ck_le, Bool.and_eq_true, Bool.or_eq_true, beq_iff_eq] at hk
    rcases hk with ⟨z1, z2⟩ | z
    · subst z1; subst z2; exact h
    · subst z; exact trivial
  | .inl q, .inr (.inr (m', n')), hk, h =>
    simp only [ck_le, beq_iff_eq] at hk
    subst hk; exact trivial
  | .inr (.inl q), .inr (.inr (m', n')), hk, h =>
    simp only [ck_le, beq_iff_eq] at hk
    subst hk; exact trivial
  | .inl q, .inr (.inl r), hk, _ => simp [ck_le] at hk
  | .inr (.inl r), .inl q, hk, _ => simp [ck_le] at hk
  | .inr (.inr r), .inl q, hk, _ => simp [ck_le] at hk
  | .inr (.inr r), .inr (.inl q), hk, _ => simp [ck_le] at hk
