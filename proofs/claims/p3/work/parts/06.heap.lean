/-! ===== stores, new cells, names given and taken: the heap's side ===== -/
section CKH
variable {D : va_G} {AC : Nat → ClassId} {S : Nat → Nat} {tab : List ck_D} {L : Heap} {ρ : Nat → Int} {G : Nat → Nat} {N : List Nat} {T : List ck_C} {H H' : Heap}
theorem ck_ob.kept {ci a : Nat} {vs : List Value} (h : ck_ob D ci a H vs) (e : H'[a]? = H[a]?) : ck_ob D ci a H' vs := by
  obtain ⟨C, T, h1, h2⟩ := h
  exact ⟨C, T, h1, h2.kept e⟩
theorem ck_ob.lt {ci a : Nat} {vs : List Value} (h : ck_ob D ci a H vs) : a < H.size := by
  obtain ⟨C, T, h1, cell, h2, -⟩ := h
  exact (Array.getElem?_eq_some_iff.mp h2).1
theorem ck_ty.kept {τ a : Nat} (h : ck_ty D AC S tab G τ a H) (e : H'[a]? = H[a]?) : ck_ty D AC S tab G τ a H' := by
  unfold ck_ty at h ⊢
  split at h
  · obtain ⟨f, h1, h2⟩ := h
    exact ⟨f, by rw [e]; exact h1, h2⟩
  · obtain ⟨vs, h1, h2⟩ := h
    exact ⟨vs, h1.kept e, h2⟩
  · exact h.elim
theorem ck_ty.lt {τ a : Nat} (h : ck_ty D AC S tab G τ a H) : a < H.size := by
  unfold ck_ty at h
  split at h
  · obtain ⟨f, h1, h2⟩ := h
    exact (Array.getElem?_eq_some_iff.mp h1).1
  · obtain ⟨vs, h1, h2⟩ := h
    exact h1.lt
  · exact h.elim
theorem ck_ty.grow {G' : Nat → Nat} {τ a : Nat} (hG : ∀ q, G q ≠ 0 → G' q = G q) (h : ck_ty D AC S tab G τ a H) : ck_ty D AC S tab G' τ a H := by
  unfold ck_ty at h ⊢
  split at h
  · obtain ⟨f, h1, h2⟩ := h
    exact ⟨f, h1, fun j hj => (h2 j hj).grow hG⟩
  · obtain ⟨vs, h1, h2⟩ := h
    exact ⟨vs, h1, h2.mono fun _ _ _ h => h.grow hG⟩
  · exact h.elim
/-- what a named cell's place says of its address -/
theorem ck_tc.own {c : ck_C} {a : Nat} (h : ck_tc D AC S tab L ρ G N H c a) (ho : ck_own c = true) : L.size ≤ a ∧ G a = 0 ∧ a < H.size := by
  unfold ck_tc at h
  obtain ⟨⟨k, n⟩, fs⟩ := c
  simp only [ck_own, Bool.or_eq_true, beq_iff_eq] at ho
  rcases ho with rfl | rfl
  · obtain ⟨h1, h2, vs, h3, -⟩ := h
    exact ⟨h1, h2, h3.lt⟩
  · obtain ⟨h1, h2, f, h3, -⟩ := h
    exact ⟨h1, h2, (Array.getElem?_eq_some_iff.mp h3).1⟩
theorem ck_tc.kept {c : ck_C} {a : Nat} (h : ck_tc D AC S tab L ρ G N H c a) (e : (c.1.1 = 0 ∨ c.1.1 = 1 ∨ ck_foc c) → H'[a]? = H[a]?) : ck_tc D AC S tab L ρ G N H' c a := by
  unfold ck_tc at h ⊢
  obtain ⟨⟨k, n⟩, fs⟩ := c
  match k, h, e with
  | 0, h, e => obtain ⟨h1, h2, vs, h3, h4⟩ := h; exact ⟨h1, h2, vs, h3.kept (e (Or.inl rfl)), h4⟩
  | 1, h, e => obtain ⟨h1, h2, f, h3, h4⟩ := h; exact ⟨h1, h2, f, by rw [e (Or.inr (Or.inl rfl))]; exact h3, h4⟩
  | 2, h, e => exact trivial
  | 3, h, e => obtain ⟨h1, h2, ci, ks, vs, h3, h4, h5⟩ := h; exact ⟨h1, h2, ci, ks, vs, h3, h4.kept (e (Or.inr (Or.inr (Or.inl rfl)))), h5⟩
  | 4, h, e => exact trivial
  | 5, h, e => exact h
  | 6, h, e => exact h
  | k + 7, h, e => obtain ⟨h1, h2, ac, n0, sg, f, h3, h4, h5, h6⟩ := h; exact ⟨h1, h2, ac, n0, sg, f, h3, by rw [e (Or.inr (Or.inr (Or.inr (Nat.le_add_left 7 k))))]; exact h4, h5, h6⟩
theorem ck_tc.foc {c : ck_C} {a : Nat} (h : ck_tc D AC S tab L ρ G N H c a) (hf : ck_foc c) : G a = c.1.2 ∧ c.1.2 ≠ 0 ∧ a < H.size := by
  obtain ⟨⟨k, n⟩, fs⟩ := c
  rcases hf with e | e
  · dsimp only at e
    subst e
    obtain ⟨h1, h2, ci, ks, vs, h3, h4, h5⟩ := h
    exact ⟨h1, h2, h4.lt⟩
  · obtain ⟨k', rfl⟩ : ∃ k', k = k' + 7 := ⟨k - 7, by dsimp only at e; omega⟩
    obtain ⟨h1, h2, ac, n0, sg, f, h3, h4, h5, h6⟩ := h
    exact ⟨h1, h2, (Array.getElem?_eq_some_iff.mp h4).1⟩
theorem ck_foc_of {c : ck_C} (hk : c.1.1 = 0 ∨ c.1.1 = 1 ∨ ck_foc c) (ho : ¬ ck_own c = true) : ck_foc c := by
  rcases hk with z | z | z
  · exact absurd (by simp [ck_own, z]) ho
  · exact absurd (by simp [ck_own, z]) ho
  · exact z
theorem ck_foc_own {c : ck_C} (hf : ck_foc c) : ck_own c = false := by
  obtain ⟨⟨k, n⟩, fs⟩ := c
  rcases hf with z | z
  · dsimp only at z
    subst z
    rfl
  · dsimp only at z
    obtain ⟨k', rfl⟩ : ∃ k', k = k' + 7 := ⟨k - 7, by omega⟩
    simp [ck_own]
/-- the same cells of other abstract contents, other ghosts, types, names -/
theorem ck_tc.mapV {ρ' : Nat → Int} {G' : Nat → Nat} {N' : List Nat} {c : ck_C} {a : Nat} (φ : ck_V → ck_V) (h : ck_tc D AC S tab L ρ G N H c a) (hG : ck_own c = true → G' a = G a) (hG3 : ck_foc c → G' a = G a) (hv : ∀ k v, k ∈ c.2 → ck_R S ρ G N k v → ck_R S ρ' G' N' (φ k) v) : ck_tc D AC S tab L ρ' G' N' H (c.1, c.2.map φ) a := by
  have hall : ∀ {vs : List Value}, ck_all (ck_R S ρ G N) c.2 vs → ck_all (ck_R S ρ' G' N') (c.2.map φ) vs := by
    intro vs h
    refine ⟨by simp [h.1], fun i x y hx hy => ?_⟩
    rw [List.getElem?_map] at hx
    obtain ⟨z, hz, rfl⟩ := Option.map_eq_some_iff.mp hx
    exact hv z y (List.mem_of_getElem? hz) (h.2 i z y hz hy)
  unfold ck_tc at h ⊢
  obtain ⟨⟨k, n⟩, fs⟩ := c
  match k, h, hG, hG3 with
  | 0, h, hG, _ => obtain ⟨h1, h2, vs, h3, h4⟩ := h; exact ⟨h1, by rw [hG rfl]; exact h2, vs, h3, hall h4⟩
  | 1, h, hG, _ =>
    obtain ⟨h1, h2, f, h3, h4⟩ := h
    refine ⟨h1, by rw [hG rfl]; exact h2, f, by simpa using h3, fun j v hj => ?_⟩
    simp only [List.getElem?_map] at hj
    obtain ⟨z, hz, rfl⟩ := Option.map_eq_some_iff.mp hj
    exact hv z _ (List.mem_of_getElem? hz) (h4 j z hz)
  | 2, h, _, _ => exact trivial
  | 3, h, _, hG => obtain ⟨h1, h2, ci, ks, vs, h3, h4, h5⟩ := h; exact ⟨by rw [hG (Or.inl rfl)]; exact h1, h2, ci, ks, vs, h3, h4, hall h5⟩
  | 4, h, _, _ => exact trivial
  | 5, h, _, _ =>
    obtain ⟨h1, cell, h2, h3, h4⟩ := h
    refine ⟨h1, cell, h2, h3, fun j v hj => ?_⟩
    simp only [List.getElem?_map] at hj
    obtain ⟨z, hz, rfl⟩ := Option.map_eq_some_iff.mp hj
    obtain ⟨w, g1, g2⟩ := h4 j z hz
    exact ⟨w, g1, hv z _ (List.mem_of_getElem? hz) g2⟩
  | 6, h, _, _ =>
    obtain ⟨h1, cell, h2, h3, h4⟩ := h
    refine ⟨h1, cell, h2, h3, fun j v hj => ?_⟩
    simp only [List.getElem?_map] at hj
    obtain ⟨z, hz, rfl⟩ := Option.map_eq_some_iff.mp hj
    obtain ⟨w, g1, g2⟩ := h4 j z hz
    exact ⟨w, g1, hv z _ (List.mem_of_getElem? hz) g2⟩
  | k + 7, h, _, hG =>
    obtain ⟨h1, h2, ac, n0, sg, f, h3, h4, h5, h6⟩ := h
    refine ⟨by rw [hG (Or.inr (Nat.le_add_left 7 k))]; exact h1, h2, ac, n0, sg, f, h3, h4, by simpa using h5, fun j v hj => ?_⟩
    simp only [List.getElem?_map] at hj
    obtain ⟨z, hz, rfl⟩ := Option.map_eq_some_iff.mp hj
    exact hv z _ (List.mem_of_getElem? hz) (h6 j z hz)
/-- a store into a cell of one's own -/
theorem ck_H.putOwn (h : ck_H D AC S tab L ρ G N T H) {i a : Nat} {c c' : ck_C} (hi : T[i]? = some c) (ha : N[i]? = some a) (ho : ck_own c = true) (ho' : ck_own c' = true) (hs : H'.size = H.size) (hq : ∀ q, q ≠ a → H'[q]? = H[q]?) (hc : ck_tc D AC S tab L ρ G N H' c' a) : ck_H D AC S tab L ρ G N (T.set i c') H' := by
  obtain ⟨⟨k1, k2, k3⟩, hlen, hT, hnd⟩ := h
  obtain ⟨a1, a2, a3⟩ := (hT i c a hi ha).own ho
  have hil : i < T.length := (List.getElem?_eq_some_iff.mp hi).1
  refine ⟨⟨by omega, fun q hl => by rw [hq q (by omega)]; exact k2 q hl, fun b hb => ⟨(k3 b hb).1, (k3 b hb).2.kept (hq b fun e => hb (by rw [e]; exact a2))⟩⟩, by simp [hlen], fun j d b hj hb => ?_, fun j1 j2 d1 d2 b h1 h2 o1 o2 n1 n2 => ?_⟩
  · by_cases e : i = j
    · subst e
      rw [List.getElem?_set_self hil] at hj
      cases hj
      cases ha.symm.trans hb
      exact hc
    · rw [List.getElem?_set_ne e] at hj
      refine (hT j d b hj hb).kept fun hk => hq b fun eb => ?_
      subst eb
      by_cases od : ck_own d = true
      · exact e (hnd i j c d b hi hj ho od ha hb)
      · have := (hT j d b hj hb).foc (ck_foc_of hk od)
        exact this.2.1 (this.1.symm.trans a2)
  · have f : ∀ (j : Nat) (d : ck_C), (T.set i c')[j]? = some d → ck_own d = true → ∃ d', T[j]? = some d' ∧ ck_own d' = true := by
      intro j d hd od
      by_cases e : i = j
      · subst e
        exact ⟨c, hi, ho⟩
      · rw [List.getElem?_set_ne e] at hd
        exact ⟨d, hd, od⟩
    obtain ⟨x1, y1, z1⟩ := f j1 d1 h1 o1
    obtain ⟨x2, y2, z2⟩ := f j2 d2 h2 o2
    exact hnd j1 j2 x1 x2 b y1 y2 z1 z2 n1 n2
/-- a store into a typed cell that no name of the kind (3, _) names -/
theorem ck_H.putTy (h : ck_H D AC S tab L ρ G N T H) {a : Nat} (hG : G a ≠ 0) (hs : H'.size = H.size) (hq : ∀ q, q ≠ a → H'[q]? = H[q]?) (hc : ck_ty D AC S tab G (G a) a H') (h3 : ∀ (i : Nat) (c : ck_C), T[i]? = some c → ck_foc c → N[i]? = some a → False) : ck_H D AC S tab L ρ G N T H' := by
  obtain ⟨⟨k1, k2, k3⟩, hlen, hT, hnd⟩ := h
  have a1 := (k3 a hG).1
  refine ⟨⟨by omega, fun q hl => by rw [hq q (by omega)]; exact k2 q hl, fun b hb => ⟨(k3 b hb).1, ?_⟩⟩, hlen, fun j d b hj hb => ?_, hnd⟩
  · by_cases e : b = a
    · subst e; exact hc
    · exact (k3 b hb).2.kept (hq b e)
  · refine (hT j d b hj hb).kept fun hk => hq b fun eb => ?_
    subst eb
    by_cases od : ck_own d = true
    · exact hG ((hT j d b hj hb).own od).2.1
    · exact h3 j d hj (ck_foc_of hk od) hb
/-- a store into a typed cell by its name -/
theorem ck_H.putFoc (h : ck_H D AC S tab L ρ G N T H) {i a τ : Nat} {hd : Nat × Nat} {fs fs' : List ck_V} (hfo : ck_foc (hd, fs)) (hτ : hd.2 = τ) (hi : T[i]? = some (hd, fs)) (ha : N[i]? = some a) (hs : H'.size = H.size) (hq : ∀ q, q ≠ a → H'[q]? = H[q]?) (hc : ck_ty D AC S tab G τ a H') (hn : ck_tc D AC S tab L ρ G N H' (hd, fs') a) (h3 : ∀ (j : Nat) (c : ck_C), j ≠ i → T[j]? = some c → ck_foc c → c.1.2 ≠ τ) : ck_H D AC S tab L ρ G N (T.set i (hd, fs')) H' := by
  obtain ⟨⟨k1, k2, k3⟩, hlen, hT, hnd⟩ := h
  obtain ⟨e1, e2, -⟩ := (hT i _ a hi ha).foc hfo
  dsimp only at e1 e2
  rw [hτ] at e1 e2
  have hil : i < T.length := (List.getElem?_eq_some_iff.mp hi).1
  have hG : G a ≠ 0 := by rw [e1]; exact e2
  have a1 := (k3 a hG).1
  have hfo' : ck_foc (hd, fs') := hfo
  refine ⟨⟨by omega, fun q hl => by rw [hq q (by omega)]; exact k2 q hl, fun b hb => ⟨(k3 b hb).1, ?_⟩⟩, by simp [hlen], fun j d b hj hb => ?_, fun j1 j2 d1 d2 b h1 h2 o1 o2 n1 n2 => ?_⟩
  · by_cases e : b = a
    · subst e; rw [e1]; exact hc
    · exact (k3 b hb).2.kept (hq b e)
  · by_cases e : i = j
    · subst e
      rw [List.getElem?_set_self hil] at hj
      cases hj
      cases ha.symm.trans hb
      exact hn
    · rw [List.getElem?_set_ne e] at hj
      refine (hT j d b hj hb).kept fun hk => hq b fun eb => ?_
      subst eb
      by_cases od : ck_own d = true
      · exact hG ((hT j d b hj hb).own od).2.1
      · have z := ck_foc_of hk od
        exact h3 j d (Ne.symm e) hj z (((hT j d b hj hb).foc z).1.symm.trans e1)
  · have f : ∀ (j : Nat) (d : ck_C), (T.set i (hd, fs'))[j]? = some d → ck_own d = true → T[j]? = some d := by
      intro j d hd ho
      by_cases e : i = j
      · subst e
        rw [List.getElem?_set_self hil] at hd
        cases hd
        rw [ck_foc_own hfo'] at ho
        cases ho
      · rw [List.getElem?_set_ne e] at hd
        exact hd
    exact hnd j1 j2 d1 d2 b (f j1 d1 h1 o1) (f j2 d2 h2 o2) o1 o2 n1 n2
theorem ck_H.zero (h : ck_H D AC S tab L ρ G N T H) {q : Nat} (hq : H.size ≤ q) : G q = 0 := by
  by_cases e : G q = 0
  · exact e
  · have := (h.1.2.2 q e).2.lt
    omega
theorem ck_H.named (h : ck_H D AC S tab L ρ G N T H) {i a : Nat} {c : ck_C} (hi : T[i]? = some c) (ha : N[i]? = some a) (hk : ck_own c = true ∨ ck_foc c) : a < H.size := by
  rcases hk with o | o
  · exact ((h.2.2.1 i c a hi ha).own o).2.2
  · exact ((h.2.2.1 i c a hi ha).foc o).2.2
/-- a new typed cell -/
theorem ck_H.newTy (h : ck_H D AC S tab L ρ G N T H) {τ : Nat} (hs : H'.size = H.size + 1) (hq : ∀ q, q < H.size → H'[q]? = H[q]?) (hc : ck_ty D AC S tab (ck_up G H.size τ) τ H.size H') : ck_H D AC S tab L ρ (ck_up G H.size τ) N T H' := by
  have hz : ∀ q, G q ≠ 0 → ck_up G H.size τ q = G q := fun q hne => by
    unfold ck_up
    rw [if_neg (fun e => hne (by rw [e]; exact h.zero (Nat.le_refl _)))]
  have hnm := @ck_H.named D AC S tab L ρ G N T H h
  obtain ⟨⟨k1, k2, k3⟩, hlen, hT, hnd⟩ := h
  refine ⟨⟨by omega, fun q hl => by rw [hq q (by omega)]; exact k2 q hl, fun b hb => ?_⟩, hlen, fun j d b hj hb => ?_, hnd⟩
  · by_cases e : b = H.size
    · subst e
      exact ⟨k1, by unfold ck_up at hc ⊢; rw [if_pos rfl]; exact hc⟩
    · have hb' : G b ≠ 0 := by unfold ck_up at hb; rwa [if_neg e] at hb
      have := k3 b hb'
      refine ⟨this.1, ?_⟩
      rw [hz b hb']
      exact (this.2.grow hz).kept (hq b this.2.lt)
  · have hh := hT j d b hj hb
    have key : ck_own d = true ∨ ck_foc d → b < H.size := fun hk => hnm hj hb hk
    have h1 : ck_tc D AC S tab L ρ (ck_up G H.size τ) N H d b := by
      have := hh.mapV (ρ' := ρ) (G' := ck_up G H.size τ) (N' := N) id (fun o => by unfold ck_up; rw [if_neg (by have := key (Or.inl o); omega)]) (fun o => by unfold ck_up; rw [if_neg (by have := key (Or.inr o); omega)]) (fun k v _ hv => hv.grow hz)
      simpa using this
    refine h1.kept fun hk => hq b (key ?_)
    rcases hk with z | z | z
    · exact Or.inl (by simp [ck_own, z])
    · exact Or.inl (by simp [ck_own, z])
    · exact Or.inr z
/-- names are added: what is said by the old ones stays -/
theorem ck_R.ext {k : ck_V} {v : Value} (h : ck_R S ρ G N k v) (M : List Nat) : ck_R S ρ G (N ++ M) k v := by
  match k, h with
  | .inl q, h => exact h
  | .inr (.inl q), h => exact h
  | .inr (.inr (0, _)), h => exact h
  | .inr (.inr (1, i)), h =>
    obtain ⟨a, h1, e⟩ := h
    exact ⟨a, by rw [List.getElem?_append_left (List.getElem?_eq_some_iff.mp h1).1]; exact h1, e⟩
  | .inr (.inr (2, τ)), h => exact h
  | .inr (.inr (3, j)), h => exact h
  | .inr (.inr (4, _)), h => exact h
  | .inr (.inr (n + 5, _)), h => exact h
theorem ck_tc.ext {c : ck_C} {a : Nat} (h : ck_tc D AC S tab L ρ G N H c a) (M : List Nat) : ck_tc D AC S tab L ρ G (N ++ M) H c a := by
  have := h.mapV (ρ' := ρ) (G' := G) (N' := N ++ M) id (fun _ => rfl) (fun _ => rfl) (fun k v _ hv => hv.ext M)
  simpa using this
/-- a new cell with a name -/
theorem ck_H.newNm (h : ck_H D AC S tab L ρ G N T H) {c : ck_C} (hs : H.size < H'.size) (hq : ∀ q, q < H.size → H'[q]? = H[q]?) (hc : ck_tc D AC S tab L ρ G (N ++ [H.size]) H' c H.size) : ck_H D AC S tab L ρ G (N ++ [H.size]) (T ++ [c]) H' := by
  have hnm := @ck_H.named D AC S tab L ρ G N T H h
  obtain ⟨⟨k1, k2, k3⟩, hlen, hT, hnd⟩ := h
  have split2 : ∀ (j : Nat) (d : ck_C) (b : Nat), (T ++ [c])[j]? = some d → (N ++ [H.size])[j]? = some b → (T[j]? = some d ∧ N[j]? = some b) ∨ (j = T.length ∧ d = c ∧ b = H.size) := by
    intro j d b hj hb
    by_cases e : j < T.length
    · rw [List.getElem?_append_left e] at hj
      rw [List.getElem?_append_left (by omega)] at hb
      exact Or.inl ⟨hj, hb⟩
    · rw [List.getElem?_append_right (by omega)] at hj
      rw [List.getElem?_append_right (by omega)] at hb
      have e0 : j - T.length = 0 := by
        have := (List.getElem?_eq_some_iff.mp hj).1
        simp at this
        omega
      rw [e0] at hj
      rw [show j - N.length = 0 by omega] at hb
      cases hj
      cases hb
      exact Or.inr ⟨by omega, rfl, rfl⟩
  refine ⟨⟨by omega, fun q hl => by rw [hq q (by omega)]; exact k2 q hl, fun b hb => ⟨(k3 b hb).1, (k3 b hb).2.kept (hq b (k3 b hb).2.lt)⟩⟩, by simp [hlen], fun j d b hj hb => ?_, fun j1 j2 d1 d2 b h1 h2 o1 o2 n1 n2 => ?_⟩
  · rcases split2 j d b hj hb with ⟨x1, x2⟩ | ⟨-, rfl, rfl⟩
    · refine ((hT j d b x1 x2).ext _).kept fun hk => hq b (hnm x1 x2 ?_)
      rcases hk with z | z | z
      · exact Or.inl (by simp [ck_own, z])
      · exact Or.inl (by simp [ck_own, z])
      · exact Or.inr z
    · exact hc
  · rcases split2 j1 d1 b h1 n1 with ⟨x1, x2⟩ | ⟨x1, rfl, x3⟩ <;> rcases split2 j2 d2 b h2 n2 with ⟨y1, y2⟩ | ⟨y1, rfl, y3⟩
    · exact hnd j1 j2 d1 d2 b x1 y1 o1 o2 x2 y2
    · have := hnm x1 x2 (Or.inl o1)
      omega
    · have := hnm y1 y2 (Or.inl o2)
      omega
    · omega
end CKH
