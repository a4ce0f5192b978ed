/-! ===== the abstract values: an int between two bounds, perhaps a ghost and a constant; a long between two bounds; a reference: null, a named cell, a typed cell, a static array, anything ===== -/
abbrev ck_V : Type := (Int × Int × Option (Nat × Int)) ⊕ ((Int × Int) ⊕ (Nat × Nat))
def ck_iok (lo hi : Int) : Bool := decide (-2147483648 ≤ lo) && decide (hi ≤ 2147483647)
def ck_full : ck_V := .inl (-2147483648, 2147483647, none)
def ck_rng (lo hi : Int) : ck_V := if ck_iok lo hi then .inl (lo, hi, none) else ck_full
def ck_lfull : ck_V := .inr (.inl (-9223372036854775808, 9223372036854775807))
def ck_min (a b : Int) : Int := if a ≤ b then a else b
def ck_max (a b : Int) : Int := if a ≤ b then b else a
theorem ck_min_l (a b : Int) : ck_min a b ≤ a := by unfold ck_min; split <;> omega
theorem ck_min_r (a b : Int) : ck_min a b ≤ b := by unfold ck_min; split <;> omega
theorem ck_max_l (a b : Int) : a ≤ ck_max a b := by unfold ck_max; split <;> omega
theorem ck_max_r (a b : Int) : b ≤ ck_max a b := by unfold ck_max; split <;> omega
theorem ck_le_min {x a b : Int} (h1 : x ≤ a) (h2 : x ≤ b) : x ≤ ck_min a b := by unfold ck_min; split <;> omega
theorem ck_max_le {x a b : Int} (h1 : a ≤ x) (h2 : b ≤ x) : ck_max a b ≤ x := by unfold ck_max; split <;> omega
/-- an int in a range, with what its ghost says -/
def ck_in (ρ : Nat → Int) (q : Int × Int × Option (Nat × Int)) (x : Int32) : Prop := q.1 ≤ x.toInt ∧ x.toInt ≤ q.2.1 ∧ ∀ g c, q.2.2 = some (g, c) → x.toInt = ρ g + c
def ck_i32 (x : Int32) : -2147483648 ≤ x.toInt ∧ x.toInt ≤ 2147483647 := by
  have h1 := Int32.minValue_le_toInt x
  have h2 := Int32.toInt_le x
  exact ⟨by simpa using h1, by have := Int32.toInt_lt x; omega⟩
def ck_isI (ρ : Nat → Int) (v : ck_V) (x : Int32) : Prop := ∃ q, v = .inl q ∧ ck_in ρ q x
theorem ck_isI_full (ρ : Nat → Int) (x : Int32) : ck_isI ρ ck_full x := ⟨_, rfl, (ck_i32 x).1, (ck_i32 x).2, fun g c h => by cases h⟩
theorem ck_isI_rng {ρ : Nat → Int} {lo hi : Int} {x : Int32} (h : ck_iok lo hi = true → lo ≤ x.toInt ∧ x.toInt ≤ hi) : ck_isI ρ (ck_rng lo hi) x := by
  unfold ck_rng
  split
  · rename_i h1
    exact ⟨_, rfl, (h h1).1, (h h1).2, fun g c h => by cases h⟩
  · exact ck_isI_full ρ x
theorem ck_iok_of {lo hi : Int} (h : ck_iok lo hi = true) : -2147483648 ≤ lo ∧ hi ≤ 2147483647 := by
  unfold ck_iok at h
  simpa using h
theorem ck_bmod {n : Int} (h1 : -2147483648 ≤ n) (h2 : n ≤ 2147483647) : n.bmod 4294967296 = n := by
  rw [Int.bmod_def]
  split <;> omega
theorem ck_bm {n : Int} (h1 : -2147483648 ≤ n) (h2 : n ≤ 2147483647) : n.bmod (2 ^ 32) = n := ck_bmod h1 h2
theorem ck_tadd (x y : Int32) (h1 : -2147483648 ≤ x.toInt + y.toInt) (h2 : x.toInt + y.toInt ≤ 2147483647) : (x + y).toInt = x.toInt + y.toInt := by
  rw [Int32.toInt_add]; exact ck_bm h1 h2
theorem ck_tsub (x y : Int32) (h1 : -2147483648 ≤ x.toInt - y.toInt) (h2 : x.toInt - y.toInt ≤ 2147483647) : (x - y).toInt = x.toInt - y.toInt := by
  rw [Int32.toInt_sub]; exact ck_bm h1 h2
theorem ck_tmul (x y : Int32) (h1 : -2147483648 ≤ x.toInt * y.toInt) (h2 : x.toInt * y.toInt ≤ 2147483647) : (x * y).toInt = x.toInt * y.toInt := by
  rw [Int32.toInt_mul]; exact ck_bm h1 h2
/-! adding, taking away: the ghost goes on where the other is a constant -/
abbrev ck_Q : Type := Int × Int × Option (Nat × Int)
def ck_tagA (x y : ck_Q) : Option (Nat × Int) := match x.2.2 with
  | some (g, k) => if y.1 = y.2.1 then some (g, k + y.1) else none
  | none => match y.2.2 with
    | some (g, k) => if x.1 = x.2.1 then some (g, k + x.1) else none
    | none => none
def ck_add (x y : ck_Q) : ck_V := if ck_iok (x.1 + y.1) (x.2.1 + y.2.1) then .inl (x.1 + y.1, x.2.1 + y.2.1, ck_tagA x y) else ck_full
theorem ck_add_ok {ρ : Nat → Int} {p q : ck_Q} {x y : Int32} (hx : ck_in ρ p x) (hy : ck_in ρ q y) : ck_isI ρ (ck_add p q) (x + y) := by
  obtain ⟨a1, a2, a3⟩ := hx
  obtain ⟨b1, b2, b3⟩ := hy
  unfold ck_add
  split
  · rename_i h
    obtain ⟨h1, h2⟩ := ck_iok_of h
    have e := ck_tadd x y (by omega) (by omega)
    refine ⟨_, rfl, by dsimp only; rw [e]; omega, by dsimp only; rw [e]; omega, fun g c hg => ?_⟩
    rw [e]
    have hg : ck_tagA p q = some (g, c) := hg
    unfold ck_tagA at hg
    split at hg
    · rename_i g' k' hp
      split at hg
      · rename_i hc
        cases hg
        have := a3 _ _ hp
        omega
      · cases hg
    · split at hg
      · rename_i g' k' hp
        split at hg
        · rename_i hc
          cases hg
          have := b3 _ _ hp
          omega
        · cases hg
      · cases hg
  · exact ck_isI_full ρ _
def ck_tagS (x y : ck_Q) : Option (Nat × Int) := match x.2.2 with
  | some (g, k) => if y.1 = y.2.1 then some (g, k - y.1) else none
  | none => none
def ck_sub (x y : ck_Q) : ck_V := if ck_iok (x.1 - y.2.1) (x.2.1 - y.1) then .inl (x.1 - y.2.1, x.2.1 - y.1, ck_tagS x y) else ck_full
theorem ck_sub_ok {ρ : Nat → Int} {p q : ck_Q} {x y : Int32} (hx : ck_in ρ p x) (hy : ck_in ρ q y) : ck_isI ρ (ck_sub p q) (x - y) := by
  obtain ⟨a1, a2, a3⟩ := hx
  obtain ⟨b1, b2, b3⟩ := hy
  unfold ck_sub
  split
  · rename_i h
    obtain ⟨h1, h2⟩ := ck_iok_of h
    have e := ck_tsub x y (by omega) (by omega)
    refine ⟨_, rfl, by dsimp only; rw [e]; omega, by dsimp only; rw [e]; omega, fun g c hg => ?_⟩
    rw [e]
    have hg : ck_tagS p q = some (g, c) := hg
    unfold ck_tagS at hg
    split at hg
    · rename_i g' k' hp
      split at hg
      · rename_i hc
        cases hg
        have := a3 _ _ hp
        omega
      · cases hg
    · cases hg
  · exact ck_isI_full ρ _
/-! multiplying: the four corners -/
def ck_mul (x y : ck_Q) : ck_V :=
  let a := x.1 * y.1
  let b := x.1 * y.2.1
  let c := x.2.1 * y.1
  let d := x.2.1 * y.2.1
  ck_rng (ck_min (ck_min a b) (ck_min c d)) (ck_max (ck_max a b) (ck_max c d))
theorem ck_lin {a b u : Int} (v : Int) (h1 : a ≤ u) (h2 : u ≤ b) : ck_min (a * v) (b * v) ≤ u * v ∧ u * v ≤ ck_max (a * v) (b * v) := by
  rcases Int.le_total 0 v with h | h
  · have e1 : a * v ≤ u * v := Int.mul_le_mul_of_nonneg_right h1 h
    have e2 : u * v ≤ b * v := Int.mul_le_mul_of_nonneg_right h2 h
    exact ⟨Int.le_trans (ck_min_l _ _) e1, Int.le_trans e2 (ck_max_r _ _)⟩
  · have e1 : u * v ≤ a * v := Int.mul_le_mul_of_nonpos_right h1 h
    have e2 : b * v ≤ u * v := Int.mul_le_mul_of_nonpos_right h2 h
    exact ⟨Int.le_trans (ck_min_r _ _) e2, Int.le_trans e1 (ck_max_l _ _)⟩
theorem ck_mul_b {a b c d u v : Int} (h1 : a ≤ u) (h2 : u ≤ b) (h3 : c ≤ v) (h4 : v ≤ d) :
    ck_min (ck_min (a * c) (a * d)) (ck_min (b * c) (b * d)) ≤ u * v ∧ u * v ≤ ck_max (ck_max (a * c) (a * d)) (ck_max (b * c) (b * d)) := by
  obtain ⟨l1, l2⟩ := ck_lin v h1 h2
  obtain ⟨m1, m2⟩ := ck_lin a h3 h4
  obtain ⟨n1, n2⟩ := ck_lin b h3 h4
  rw [Int.mul_comm c a, Int.mul_comm d a, Int.mul_comm v a] at m1 m2
  rw [Int.mul_comm c b, Int.mul_comm d b, Int.mul_comm v b] at n1 n2
  constructor
  · refine Int.le_trans ?_ l1
    refine ck_le_min ?_ ?_
    · exact Int.le_trans (ck_min_l _ _) m1
    · exact Int.le_trans (ck_min_r _ _) n1
  · refine Int.le_trans l2 ?_
    refine ck_max_le ?_ ?_
    · exact Int.le_trans m2 (ck_max_l _ _)
    · exact Int.le_trans n2 (ck_max_r _ _)
theorem ck_mul_ok {ρ : Nat → Int} {p q : ck_Q} {x y : Int32} (hx : ck_in ρ p x) (hy : ck_in ρ q y) : ck_isI ρ (ck_mul p q) (x * y) := by
  obtain ⟨a1, a2, -⟩ := hx
  obtain ⟨b1, b2, -⟩ := hy
  refine ck_isI_rng fun h => ?_
  obtain ⟨h1, h2⟩ := ck_iok_of h
  obtain ⟨m1, m2⟩ := ck_mul_b a1 a2 b1 b2
  have e := ck_tmul x y (by omega) (by omega)
  rw [e]
  exact ⟨m1, m2⟩
/-! by a number above 0, of a number not below 0 -/
def ck_div (x y : ck_Q) : Option ck_V := if 0 < y.1 then (if y.1 = y.2.1 ∧ 0 ≤ x.1 then some (ck_rng (x.1 / y.1) (x.2.1 / y.1)) else some ck_full) else none
def ck_rem (x y : ck_Q) : Option ck_V := if 0 < y.1 then (if y.1 = y.2.1 ∧ 0 ≤ x.1 then (if x.1 = x.2.1 then some (ck_rng (x.1 % y.1) (x.1 % y.1)) else if x.2.1 < y.1 then some (ck_rng x.1 x.2.1) else some (ck_rng 0 (y.1 - 1))) else some ck_full) else none
theorem ck_tdiv {x y : Int32} (h1 : 0 ≤ x.toInt) (h2 : 0 < y.toInt) : (x / y).toInt = x.toInt / y.toInt := by
  rw [Int32.toInt_div]
  have hx := ck_i32 x
  have e : x.toInt.tdiv y.toInt = x.toInt / y.toInt := by
    rw [Int.tdiv_eq_ediv_of_nonneg h1]
  rw [e]
  have h3 : 0 ≤ x.toInt / y.toInt := Int.ediv_nonneg h1 (by omega)
  have h4 : x.toInt / y.toInt ≤ x.toInt := Int.ediv_le_self _ h1
  exact ck_bm (by omega) (by omega)
theorem ck_ne0 {ρ : Nat → Int} {q : ck_Q} {y : Int32} (hy : ck_in ρ q y) (h : 0 < q.1) : ¬ y = 0 := by
  intro e
  obtain ⟨b1, -⟩ := hy
  subst e
  have : (0 : Int32).toInt = 0 := rfl
  omega
theorem ck_div_ok {ρ : Nat → Int} {p q : ck_Q} {x y : Int32} {r : ck_V} (hx : ck_in ρ p x) (hy : ck_in ρ q y) (h : ck_div p q = some r) : ¬ y = 0 ∧ ck_isI ρ r (x / y) := by
  unfold ck_div at h
  split at h
  · rename_i h0
    refine ⟨ck_ne0 hy h0, ?_⟩
    obtain ⟨a1, a2, -⟩ := hx
    obtain ⟨b1, b2, -⟩ := hy
    split at h
    · rename_i h1
      cases h
      refine ck_isI_rng fun _ => ?_
      have hy1 : y.toInt = q.1 := by omega
      rw [ck_tdiv (by omega) (by omega), hy1]
      exact ⟨Int.ediv_le_ediv h0 a1, Int.ediv_le_ediv h0 a2⟩
    · cases h
      exact ck_isI_full ρ _
  · cases h
theorem ck_trem {x y : Int32} (h1 : 0 ≤ x.toInt) (h2 : 0 < y.toInt) : (x - x / y * y).toInt = x.toInt % y.toInt := by
  have hx := ck_i32 x
  have e1 := ck_tdiv h1 h2
  have h3 : 0 ≤ x.toInt / y.toInt := Int.ediv_nonneg h1 (by omega)
  have h5 : x.toInt / y.toInt * y.toInt ≤ x.toInt := Int.ediv_mul_le _ (by omega)
  have h6 : 0 ≤ x.toInt / y.toInt * y.toInt := Int.mul_nonneg h3 (by omega)
  have e2 : (x / y * y).toInt = x.toInt / y.toInt * y.toInt := by
    rw [ck_tmul _ _ (by rw [e1]; omega) (by rw [e1]; omega), e1]
  rw [ck_tsub _ _ (by rw [e2]; omega) (by rw [e2]; omega), e2, Int.emod_def, Int.mul_comm]
theorem ck_rem_ok {ρ : Nat → Int} {p q : ck_Q} {x y : Int32} {r : ck_V} (hx : ck_in ρ p x) (hy : ck_in ρ q y) (h : ck_rem p q = some r) : ¬ y = 0 ∧ ck_isI ρ r (x - x / y * y) := by
  unfold ck_rem at h
  split at h
  · rename_i h0
    refine ⟨ck_ne0 hy h0, ?_⟩
    obtain ⟨a1, a2, -⟩ := hx
    obtain ⟨b1, b2, -⟩ := hy
    split at h
    · rename_i h1
      have hy1 : y.toInt = q.1 := by omega
      have e := ck_trem (x := x) (y := y) (by omega) (by omega)
      rw [hy1] at e
      have g1 := Int.emod_nonneg x.toInt (show q.1 ≠ 0 by omega)
      have g2 := Int.emod_lt_of_pos x.toInt h0
      split at h
      · rename_i hh
        cases h
        refine ck_isI_rng fun _ => ?_
        have : x.toInt = p.1 := by omega
        rw [e, this]
        exact ⟨Int.le_refl _, Int.le_refl _⟩
      · split at h
        · cases h
          refine ck_isI_rng fun _ => ?_
          have : x.toInt % q.1 = x.toInt := Int.emod_eq_of_lt (by omega) (by omega)
          rw [e, this]
          exact ⟨a1, a2⟩
        · cases h
          refine ck_isI_rng fun _ => ?_
          rw [e]
          omega
    · cases h
      exact ck_isI_full ρ _
  · cases h
