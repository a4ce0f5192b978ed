/-! ===== static arrays by other places, other ghosts ===== -/
def ck_sfv : ck_V → Bool
  | .inr (.inr (3, _)) => false
  | _ => true
def ck_sfD : ck_D → Bool
  | .inl (_, _, sg) => sg.all (fun q => ck_sfv q.2)
  | .inr (_, ks) => ks.all ck_sfv
/-- without a static array, without a ghost -/
def ck_chv : ck_V → Bool
  | .inl (_, _, some _) => false
  | .inr (.inr (3, _)) => false
  | _ => true
/-- the same by other ghosts: Z gives ghosts that numbers, D those that are moved on -/
def ck_cvt (Z D : List (Nat × Int)) : ck_V → ck_V → Bool
  | .inl (a, b, none), .inl (lo, hi, some (g, c)) => decide (a = b) && decide (lo ≤ a) && decide (a ≤ hi) && (match ck_lk Z g with
    | some z => decide (a = z + c)
    | none => false)
  | .inl (a, b, some (g, c1)), .inl (lo, hi, some (g', c)) => g == g' && decide (lo ≤ a) && decide (b ≤ hi) && (match ck_lk D g with
    | some δ => decide (c1 = δ + c)
    | none => false)
  | k, k0 => ck_chv k && ck_chv k0 && ck_le k k0
def ck_cvC (Z D : List (Nat × Int)) (c c0 : ck_C) : Bool := decide (c.1 = c0.1) && (c.1.1 == 0 || c.1.1 == 1 || c.1.1 == 2) && c.2.length == c0.2.length && (c.2.zip c0.2).all (fun q => ck_cvt Z D q.1 q.2)
def ck_cvT (Z D : List (Nat × Int)) (T T0 : List ck_C) : Bool := T.length == T0.length && (T.zip T0).all (fun q => ck_cvC Z D q.1 q.2)
section CKSF
variable {D : va_G} {AC : Nat → ClassId} {S S' : Nat → Nat} {tab : List ck_D} {L : Heap} {ρ ρ' : Nat → Int} {G : Nat → Nat} {N : List Nat} {T : List ck_C} {H : Heap}
theorem ck_R.sf {k : ck_V} {v : Value} (hk : ck_sfv k = true) (h : ck_R S ρ G N k v) : ck_R S' ρ G N k v := by
  match k, h with
  | .inl q, h => exact h
  | .inr (.inl q), h => exact h
  | .inr (.inr (0, _)), h => exact h
  | .inr (.inr (1, i)), h => exact h
  | .inr (.inr (2, τ)), h => exact h
  | .inr (.inr (3, j)), h => cases hk
  | .inr (.inr (4, _)), h => exact h
  | .inr (.inr (n + 5, _)), h => exact trivial
theorem ck_R.ch {k : ck_V} {v : Value} (hk : ck_chv k = true) (h : ck_R S ρ G N k v) : ck_R S' ρ' G N k v := by
  match k, hk, h with
  | .inl (lo, hi, none), _, h =>
    obtain ⟨x, e, h1, h2, -⟩ := h
    exact ⟨x, e, h1, h2, fun g c q => by cases q⟩
  | .inr (.inl q), _, h => exact h
  | .inr (.inr (0, _)), _, h => exact h
  | .inr (.inr (1, i)), _, h => exact h
  | .inr (.inr (2, τ)), _, h => exact h
  | .inr (.inr (4, _)), _, h => exact h
  | .inr (.inr (n + 5, _)), _, h => exact trivial
theorem ck_ty.sf (hT : tab.all ck_sfD = true) {τ a : Nat} (h : ck_ty D AC S tab G τ a H) : ck_ty D AC S' tab G τ a H := by
  unfold ck_ty at h ⊢
  generalize hd : tab[τ]? = d at h
  match d, hd, h with
  | some (.inl (ac, n, sg)), hd, h =>
    have hs := List.all_eq_true.mp hT _ (List.mem_of_getElem? hd)
    obtain ⟨f, f1, f2⟩ := h
    refine ⟨f, f1, fun j hj => ?_⟩
    have key := ck_kat_all (P := fun k => ∀ v, ck_R S (fun _ => 0) G [] k v → ck_R S' (fun _ => 0) G [] k v) (sg := sg) (fun q hq v hv => hv.sf (List.all_eq_true.mp hs q hq)) (fun v _ => trivial) j
    exact key _ (f2 j hj)
  | some (.inr (ci, ks)), hd, h =>
    have hs := List.all_eq_true.mp hT _ (List.mem_of_getElem? hd)
    obtain ⟨vs, v1, v2⟩ := h
    exact ⟨vs, v1, v2.mono fun k v hk hv => hv.sf (List.all_eq_true.mp hs k hk)⟩
  | none, hd, h => exact h
theorem ck_R.cvt {Z D' : List (Nat × Int)} (hZ : ∀ g z, ck_lk Z g = some z → ρ' g = z) (hD : ∀ g δ, ck_lk D' g = some δ → ρ' g = ρ g + δ) {k k0 : ck_V} {v : Value} (h : ck_cvt Z D' k k0 = true) (hr : ck_R S ρ G N k v) : ck_R S' ρ' G N k0 v := by
  have base : ∀ k k0 : ck_V, (ck_chv k && ck_chv k0 && ck_le k k0) = true → ck_R S ρ G N k v → ck_R S' ρ' G N k0 v := by
    intro k k0 h hr
    simp only [Bool.and_eq_true] at h
    exact (ck_R.ch (S' := S') (ρ' := ρ') h.1.1 hr).le h.2
  unfold ck_cvt at h
  split at h
  · rename_i a b lo hi g c
    simp only [Bool.and_eq_true, decide_eq_true_eq] at h
    obtain ⟨⟨⟨rfl, h1⟩, h2⟩, h3⟩ := h
    obtain ⟨x, ex, x1, x2, -⟩ := hr
    dsimp only at x1 x2
    split at h3
    · rename_i z hz
      have h3 := of_decide_eq_true h3
      refine ⟨x, ex, by dsimp only; omega, by dsimp only; omega, fun g' c' hg => ?_⟩
      cases hg
      rw [hZ g z hz]
      omega
    · cases h3
  · rename_i a b g c1 lo hi g' c
    simp only [Bool.and_eq_true, decide_eq_true_eq, beq_iff_eq] at h
    obtain ⟨⟨⟨rfl, h1⟩, h2⟩, h3⟩ := h
    obtain ⟨x, ex, x1, x2, x3⟩ := hr
    dsimp only at x1 x2
    have e := x3 g c1 rfl
    split at h3
    · rename_i δ hδ
      have h3 := of_decide_eq_true h3
      refine ⟨x, ex, by dsimp only; omega, by dsimp only; omega, fun g' c' hg => ?_⟩
      cases hg
      rw [hD g δ hδ]
      omega
    · cases h3
  · exact base _ _ h hr
theorem ck_tc.cvt {Z D' : List (Nat × Int)} (hZ : ∀ g z, ck_lk Z g = some z → ρ' g = z) (hD : ∀ g δ, ck_lk D' g = some δ → ρ' g = ρ g + δ) {c c0 : ck_C} {a : Nat} (h : ck_cvC Z D' c c0 = true) (ht : ck_tc D AC S tab L ρ G N H c a) : ck_tc D AC S' tab L ρ' G N H c0 a := by
  obtain ⟨⟨k, n⟩, fs⟩ := c
  obtain ⟨⟨k0, n0⟩, fs0⟩ := c0
  unfold ck_cvC at h
  simp only [Bool.and_eq_true, Bool.or_eq_true, beq_iff_eq, decide_eq_true_eq] at h
  obtain ⟨⟨⟨e1, hk⟩, e2⟩, e3⟩ := h
  cases e1
  have hf : ∀ (j : Nat) (v' : ck_V), fs0[j]? = some v' → ∃ v, fs[j]? = some v ∧ ck_cvt Z D' v v' = true := by
    intro j v' hj
    have hl : j < fs.length := by rw [e2]; exact (List.getElem?_eq_some_iff.mp hj).1
    exact ⟨fs[j], List.getElem?_eq_getElem hl, List.all_eq_true.mp e3 (fs[j], v') (List.mem_of_getElem? (i := j) (by rw [List.getElem?_zip_eq_some]; exact ⟨List.getElem?_eq_getElem hl, hj⟩))⟩
  rcases hk with (rfl | rfl) | rfl
  · obtain ⟨a1, a2, vs, a3, a4⟩ := ht
    refine ⟨a1, a2, vs, a3, by dsimp only at a4 ⊢; rw [← e2]; exact a4.1, fun j x y hx hy => ?_⟩
    obtain ⟨v, h1, h2⟩ := hf j x hx
    exact (a4.2 j v y h1 hy).cvt hZ hD h2
  · obtain ⟨a1, a2, f, a3, a4⟩ := ht
    refine ⟨a1, a2, f, by dsimp only at a3 ⊢; rw [← e2]; exact a3, fun j v hj => ?_⟩
    obtain ⟨v0, h1, h2⟩ := hf j v hj
    exact (a4 j v0 h1).cvt hZ hD h2
  · exact trivial
/-- the first cell otherwise said, the others by other ghosts -/
theorem ck_H.cvt (hT : tab.all ck_sfD = true) {Z D' : List (Nat × Int)} (hZ : ∀ g z, ck_lk Z g = some z → ρ' g = z) (hD : ∀ g δ, ck_lk D' g = some δ → ρ' g = ρ g + δ) {c0 c1 : ck_C} {Tr Tr' : List ck_C} (hc : ck_cvT Z D' Tr Tr' = true) (h : ck_H D AC S tab L ρ G N (c0 :: Tr) H) (h0 : ∀ a, N[0]? = some a → ck_tc D AC S' tab L ρ' G N H c1 a) (ho : ck_own c1 = false) : ck_H D AC S' tab L ρ' G N (c1 :: Tr') H := by
  unfold ck_cvT at hc
  simp only [Bool.and_eq_true, beq_iff_eq] at hc
  obtain ⟨hl, hz⟩ := hc
  have hg : ∀ (i : Nat) (c : ck_C), Tr'[i]? = some c → ∃ c', Tr[i]? = some c' ∧ ck_cvC Z D' c' c = true := by
    intro i c hi
    have hil : i < Tr.length := by rw [hl]; exact (List.getElem?_eq_some_iff.mp hi).1
    exact ⟨Tr[i], List.getElem?_eq_getElem hil, List.all_eq_true.mp hz (Tr[i], c) (List.mem_of_getElem? (i := i) (by rw [List.getElem?_zip_eq_some]; exact ⟨List.getElem?_eq_getElem hil, hi⟩))⟩
  have hown : ∀ c c' : ck_C, ck_cvC Z D' c' c = true → ck_own c = true → ck_own c' = true := by
    intro c c' hcv ho
    unfold ck_cvC at hcv
    simp only [Bool.and_eq_true, decide_eq_true_eq] at hcv
    unfold ck_own at ho ⊢
    rw [hcv.1.1.1]
    exact ho
  refine ⟨⟨h.1.1, h.1.2.1, fun a ha => ⟨(h.1.2.2 a ha).1, (h.1.2.2 a ha).2.sf hT⟩⟩, by rw [h.2.1]; simp [hl], fun i c a hi ha => ?_, fun i j c d a hi hj o1 o2 n1 n2 => ?_⟩
  · cases i with
    | zero =>
      cases hi
      exact h0 a ha
    | succ i =>
      have hi : Tr'[i]? = some c := by simpa using hi
      obtain ⟨c', e1, e2⟩ := hg i c hi
      exact (h.2.2.1 (i + 1) c' a (by simpa using e1) ha).cvt hZ hD e2
  · cases i with
    | zero => cases hi; rw [ho] at o1; cases o1
    | succ i =>
      cases j with
      | zero => cases hj; rw [ho] at o2; cases o2
      | succ j =>
        obtain ⟨c', e1, e2⟩ := hg i c (by simpa using hi)
        obtain ⟨d', e3, e4⟩ := hg j d (by simpa using hj)
        exact h.2.2.2 (i + 1) (j + 1) c' d' a (by simpa using e1) (by simpa using e3) (hown _ _ e2 o1) (hown _ _ e4 o2) n1 n2
end CKSF
