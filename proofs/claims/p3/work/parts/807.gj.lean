/-! ===== what the cases in range have in common ===== -/
theorem gr_R.row {G : Nat → Nat} {H : Heap} {d a : Nat} {r : Nat → Nat} (h : gr_R G H d a r) : ∀ q, G q = 13 → ∃ r : Nat → Nat, (∀ i j, r i = r j → i = j) ∧ ∀ k v, k < 4 → gk_at H q k = some v → v = .ref (r k) := fun q hq => ⟨r, h.2.2.2.2.1, fun k v hk hv => by
  rw [h.2.2.1 q hq, (h.2.2.2.2.2.1 k hk).2] at hv
  exact (Option.some.inj hv).symm⟩
def gx_r4 (rt : List (Nat × Nat)) (τs : List Nat) (T : List xk_C) : Bool := (List.range T.length).all (fun i => match T[i]? with
  | some c => (ck_lk rt i).isSome || !(τs.getD i 0 == 13) || (!(c.1.1 == 0) && decide (4 ≤ gx_sz c))
  | none => true)
theorem gx_r4_ok {rt : List (Nat × Nat)} {τs : List Nat} {T : List xk_C} (h : gx_r4 rt τs T = true) : ∀ i c, ck_lk rt i = none → τs.getD i 0 = 13 → T[i]? = some c → c.1.1 ≠ 0 ∧ 4 ≤ gx_sz c := fun i c h1 h2 h3 => by
  have := List.all_eq_true.mp h i (List.mem_range.mpr (List.getElem?_eq_some_iff.mp h3).1)
  rw [h3] at this
  dsimp only at this
  rw [h1, h2] at this
  simpa using this
theorem gl_St {S : Nat → Nat} {L : Heap} {s : State} {b : Nat} (h : xk_St S L s) : xk_St (gl_S S b) L s := fun j hj => by
  have := h j hj
  unfold gl_S
  rw [if_neg (by omega)]
  exact this
section GJ
variable {D : va_G} {AC : Nat → ClassId} {S : Nat → Nat} {tab : List ck_D} {L : Heap}
theorem gi_own {G : Nat → Nat} {Nl : List Nat} {Tl : List ck_C} {H : Heap} {rt : List (Nat × Nat)} {τs : List Nat} {par : List (Nat × Nat)} {T : List xk_C} {N : List Nat} {g : Nat → Nat → Value} (hN : N.length = T.length) (hg : ∀ i a c, N[i]? = some a → T[i]? = some c → gx_cell D AC tab L G Nl Tl H rt τs par g i a c) {i nm a : Nat} (hi : i < T.length) (hr : ck_lk rt i = some nm) (ha : Nl[nm]? = some a) : N[i]? = some a := by
  have n1 : N[i]? = some (N[i]'(by omega)) := List.getElem?_eq_getElem (by omega)
  obtain ⟨-, -, -, q4⟩ := hg i _ _ n1 (List.getElem?_eq_getElem hi)
  rw [hr] at q4
  rw [n1, ← ha, ← q4.2]
theorem gi_int {S : Nat → Nat} {ρ : Nat → Int} {G : Nat → Nat} {N : List Nat} {lo hi : Int} {gg : Nat} {v : Value} (h : ck_R S ρ G N (gv_g lo hi gg 0) v) : ∃ x : Int32, v = .int x ∧ x.toInt = ρ gg ∧ lo ≤ x.toInt ∧ x.toInt ≤ hi := by
  obtain ⟨x, e, x1, x2, x3⟩ := h
  have := x3 gg 0 rfl
  exact ⟨x, e, by omega, x1, x2⟩
theorem gi_stk3 {ρ : Nat → Int} {G : Nat → Nat} {N : List Nat} {h1 h2 h3 : Int} {nm : Nat} {st : List Value} (h : ck_all (ck_R S ρ G N) [gv_g 0 h3 146 0, gv_g 0 h2 145 0, gv_g 0 h1 144 0, gv_r 1 nm] st) : ∃ (x1 x2 x3 : Int32) (a : Nat), st = ([.ref a, .int x1, .int x2, .int x3] : List Value).reverse ++ [] ∧ N[nm]? = some a ∧ x1.toInt = ρ 144 ∧ x2.toInt = ρ 145 ∧ x3.toInt = ρ 146 ∧ (0 ≤ x1.toInt ∧ x1.toInt ≤ h1) ∧ (0 ≤ x2.toInt ∧ x2.toInt ≤ h2) ∧ 0 ≤ x3.toInt ∧ x3.toInt ≤ h3 := by
  obtain ⟨v3, t3, rfl, r3, h⟩ := h.uncons
  obtain ⟨v2, t2, rfl, r2, h⟩ := h.uncons
  obtain ⟨v1, t1, rfl, r1, h⟩ := h.uncons
  obtain ⟨v0, t0, rfl, r0, h⟩ := h.uncons
  have ht : t0 = [] := by
    have := h.1
    cases t0 with
    | nil => rfl
    | cons a b => simp at this
  subst ht
  obtain ⟨x3, rfl, a3, b3⟩ := gi_int r3
  obtain ⟨x2, rfl, a2, b2⟩ := gi_int r2
  obtain ⟨x1, rfl, a1, b1⟩ := gi_int r1
  obtain ⟨a, ha, rfl⟩ := r0
  exact ⟨x1, x2, x3, a, rfl, ha, a1, a2, a3, b1, b2, b3⟩
theorem gi_stk2 {ρ : Nat → Int} {G : Nat → Nat} {N : List Nat} {h1 h2 : Int} {nm : Nat} {st : List Value} (h : ck_all (ck_R S ρ G N) [gv_g 0 h2 145 0, gv_g 0 h1 144 0, gv_r 1 nm] st) : ∃ (x1 x2 : Int32) (a : Nat), st = ([.ref a, .int x1, .int x2] : List Value).reverse ++ [] ∧ N[nm]? = some a ∧ x1.toInt = ρ 144 ∧ x2.toInt = ρ 145 ∧ (0 ≤ x1.toInt ∧ x1.toInt ≤ h1) ∧ 0 ≤ x2.toInt ∧ x2.toInt ≤ h2 := by
  obtain ⟨v2, t2, rfl, r2, h⟩ := h.uncons
  obtain ⟨v1, t1, rfl, r1, h⟩ := h.uncons
  obtain ⟨v0, t0, rfl, r0, h⟩ := h.uncons
  have ht : t0 = [] := by
    have := h.1
    cases t0 with
    | nil => rfl
    | cons a b => simp at this
  subst ht
  obtain ⟨x2, rfl, a2, b2⟩ := gi_int r2
  obtain ⟨x1, rfl, a1, b1⟩ := gi_int r1
  obtain ⟨a, ha, rfl⟩ := r0
  exact ⟨x1, x2, a, rfl, ha, a1, a2, b1, b2⟩
theorem gi_a1 {θ : Nat → Value} {ρ : Nat → Int} {N : List Nat} {a : Nat} (h : N[0]? = some a) : xk_R S θ ρ N (2, 0, 0) (.ref a) := ⟨a, h, rfl⟩
theorem gi_ac {θ : Nat → Value} {ρ : Nat → Int} {N : List Nat} {x : Int32} {k : Nat} (h : x.toInt = (k : Int)) : xk_R S θ ρ N (0, (0, (k : Int))) (.int x) := ⟨x, rfl, by rw [h]; rfl⟩
theorem gi_rz {Φ : Nat → Nat → List Int → Int} {t n : Nat} {ag : List Nat} {ρ : Nat → Int} {g : Nat} (h : g ≤ n) : xk_rho Φ (t, n, ag) ρ g = ρ g := by
  unfold xk_rho
  dsimp only
  rw [if_pos h]
theorem gi_rn {Φ : Nat → Nat → List Int → Int} {t n : Nat} {ag : List Nat} {ρ : Nat → Int} {g k : Nat} (h : g = n + 1 + k) : xk_rho Φ (t, n, ag) ρ g = Φ t k (ag.map ρ) := by
  unfold xk_rho
  dsimp only
  rw [if_neg (by omega), show g - n - 1 = k by omega]
theorem gi_ieq {x y : Int32} (h : x.toInt = y.toInt) : x = y := Int32.toInt_inj.mp h
end GJ
