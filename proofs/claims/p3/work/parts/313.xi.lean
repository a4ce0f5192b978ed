/-! ===== what nodes are worth: a table's steps ===== -/
/-- of the entries that came: nothing was cut off -/
def xa_ex (ρ : Nat → Int) (e : xk_E) : Prop := match e.2.1, e.2.2 with
  | 20, [a, b] => ρ e.1 = xk_ov ρ a + xk_ov ρ b
  | 26, [a, k] => ∀ n, xa_k k 63 = some n → ρ e.1 = xk_ov ρ a * ((2 ^ n : Nat) : Int)
  | 27, [a, k] => ∀ n, xa_k k 63 = some n → ρ e.1 = xk_ov ρ a / ((2 ^ n : Nat) : Int)
  | 6, [a, k] => ∀ n, xa_k k 31 = some n → ρ e.1 = xk_ov ρ a * ((2 ^ n : Nat) : Int)
  | _, _ => True
def xa_atom (g : Nat) (lo hi : Int) : Option xa_B := if 0 < g ∧ g < 4096 then some (lo, hi, [(g * 4096, 1)]) else none
def xa_if (b : Bool) (r : xa_B) : Option xa_B := if b then some r else none
def xa_st (tb : List xk_E) (rs : xa_S) (e : xk_E) : Option xa_B := match e.2.1, e.2.2 with
  | 20, [x, y] => (match xa_o rs x, xa_o rs y with
    | some a, some b => xa_if (xa_r64 a && xa_r64 b && xa_r64 (a.1 + b.1, a.2.1 + b.2.1, [])) (a.1 + b.1, a.2.1 + b.2.1, xa_add a.2.2 b.2.2)
    | _, _ => none)
  | 21, [x, y] => (match xa_o rs x, xa_o rs y with
    | some a, some b => (match xa_rm tb x y with
      | some (lo, hi) => xa_if (xa_r64 a && xa_r64 b && xa_r64 (lo, hi, [])) (lo, hi, xa_add a.2.2 (xa_scl (-1) b.2.2))
      | none => xa_if (xa_r64 a && xa_r64 b && xa_r64 (a.1 - b.2.1, a.2.1 - b.1, [])) (a.1 - b.2.1, a.2.1 - b.1, xa_add a.2.2 (xa_scl (-1) b.2.2)))
    | _, _ => none)
  | 22, [x, y] => (match xa_o rs x, xa_o rs y with
    | some a, some b => (match xa_mul a.2.2 b.2.2 with
      | some q => xa_if (xa_r64 a && xa_r64 b && xa_r64 (ck_min (ck_min (a.1 * b.1) (a.1 * b.2.1)) (ck_min (a.2.1 * b.1) (a.2.1 * b.2.1)), ck_max (ck_max (a.1 * b.1) (a.1 * b.2.1)) (ck_max (a.2.1 * b.1) (a.2.1 * b.2.1)), [])) (ck_min (ck_min (a.1 * b.1) (a.1 * b.2.1)) (ck_min (a.2.1 * b.1) (a.2.1 * b.2.1)), ck_max (ck_max (a.1 * b.1) (a.1 * b.2.1)) (ck_max (a.2.1 * b.1) (a.2.1 * b.2.1)), q)
      | none => none)
    | _, _ => none)
  | 23, [x, y] => (match xa_o rs x, xa_o rs y with
    | some a, some b => if xa_r64 a && xa_r64 b && decide (0 ≤ b.1) then xa_atom e.1 0 b.2.1 else none
    | _, _ => none)
  | 24, [x, y] => (match xa_o rs x, xa_o rs y, xa_en tb y.1 with
    | some a, some b, some (26, [t, k]) => (match xa_k k 63, xa_o rs t with
      | some n, some c => xa_if (xa_r64 a && xa_r64 b && decide (0 ≤ a.1) && decide (a.2.1 < ((2 ^ n : Nat) : Int)) && decide (0 ≤ c.1) && decide (y.1 ≠ 0) && xa_r64 (a.1 + b.1, a.2.1 + b.2.1, [])) (a.1 + b.1, a.2.1 + b.2.1, xa_add a.2.2 b.2.2)
      | _, _ => none)
    | _, _, _ => none)
  | 26, [x, k] => (match xa_o rs x, xa_k k 63 with
    | some a, some n => xa_if (xa_r64 a && xa_r64 (a.1 * ((2 ^ n : Nat) : Int), a.2.1 * ((2 ^ n : Nat) : Int), [])) (a.1 * ((2 ^ n : Nat) : Int), a.2.1 * ((2 ^ n : Nat) : Int), xa_scl ((2 ^ n : Nat) : Int) a.2.2)
    | _, _ => none)
  | 27, [x, k] => (match xa_o rs x, xa_k k 63 with
    | some a, some n => if xa_r64 a then xa_atom e.1 (a.1 / ((2 ^ n : Nat) : Int)) (a.2.1 / ((2 ^ n : Nat) : Int)) else none
    | _, _ => none)
  | 30, [x] => (match xa_o rs x with
    | some a => xa_if (xa_r32 a) a
    | none => none)
  | 0, [x, y] => (match xa_o rs x, xa_o rs y with
    | some a, some b => xa_if (xa_r32 a && xa_r32 b && xa_r32 (a.1 + b.1, a.2.1 + b.2.1, [])) (a.1 + b.1, a.2.1 + b.2.1, xa_add a.2.2 b.2.2)
    | _, _ => none)
  | 3, [x, y] => (match xa_o rs x, xa_o rs y with
    | some a, some b => if xa_r32 a && xa_r32 b && decide (0 ≤ b.1) then xa_atom e.1 0 b.2.1 else none
    | _, _ => none)
  | 4, [x, y] => (match xa_o rs x, xa_o rs y, xa_en tb y.1 with
    | some a, some b, some (6, [t, k]) => (match xa_k k 31, xa_o rs t with
      | some n, some c => xa_if (xa_r32 a && xa_r32 b && decide (0 ≤ a.1) && decide (a.2.1 < ((2 ^ n : Nat) : Int)) && decide (0 ≤ c.1) && decide (y.1 ≠ 0) && xa_r32 (a.1 + b.1, a.2.1 + b.2.1, [])) (a.1 + b.1, a.2.1 + b.2.1, xa_add a.2.2 b.2.2)
      | _, _ => none)
    | _, _, _ => none)
  | 6, [x, k] => (match xa_o rs x, xa_k k 31 with
    | some a, some n => xa_if (xa_r32 a && decide (0 ≤ a.1) && xa_r32 (a.1 * ((2 ^ n : Nat) : Int), a.2.1 * ((2 ^ n : Nat) : Int), [])) (a.1 * ((2 ^ n : Nat) : Int), a.2.1 * ((2 ^ n : Nat) : Int), xa_scl ((2 ^ n : Nat) : Int) a.2.2)
    | _, _ => none)
  | 7, [x, k] => (match xa_o rs x, xa_k k 32 with
    | some a, some n => if xa_r32 a then xa_atom e.1 (a.1 / ((2 ^ n : Nat) : Int)) (a.2.1 / ((2 ^ n : Nat) : Int)) else none
    | _, _ => none)
  | 31, [_, _] => xa_atom e.1 (-1) 1
  | op + 40, [_, _, (0, u), (0, v)] => if op < 960 then xa_atom e.1 (ck_min u v) (ck_max u v) else none
  | _, _ => none
section XAI
variable {Φ : Nat → Nat → List Int → Int} {wd : Nat → Nat} {ρ : Nat → Int} {tb : List xk_E} {rs : xa_S} {e : xk_E} {r : xa_B}
theorem xa_k_ok {k : xk_O} {m n : Nat} (h : xa_k k m = some n) : xk_ov ρ k = (n : Int) ∧ n < m ∧ k = (0, (n : Int)) := by
  unfold xa_k at h
  split at h
  · rename_i hc
    cases h
    obtain ⟨c1, c2, c3⟩ := hc
    refine ⟨?_, by omega, ?_⟩
    · unfold xk_ov
      rw [if_pos c1]
      omega
    · obtain ⟨k1, k2⟩ := k
      dsimp only at *
      subst c1
      congr 1
      omega
  · cases h
theorem xa_if_ok {b : Bool} {q : xa_B} (h : xa_if b q = some r) : b = true ∧ r = q := by
  unfold xa_if at h
  split at h
  · rename_i hb; cases h; exact ⟨hb, rfl⟩
  · cases h
theorem xa_atom_ok {g : Nat} {lo hi : Int} (h : xa_atom g lo hi = some r) (h1 : lo ≤ ρ g) (h2 : ρ g ≤ hi) : xa_h ρ r (ρ g) := by
  unfold xa_atom at h
  split at h
  · rename_i hc
    cases h
    refine ⟨h1, h2, ?_⟩
    show ρ g = 1 * xa_m ρ (g * 4096) + 0
    unfold xa_m xa_v
    rw [show g * 4096 / 4096 = g by omega, show g * 4096 % 4096 = 0 by omega, if_neg (by omega), if_pos rfl]
    omega
  · cases h
theorem xa_r64_ok {a : xa_B} (h : xa_r64 a = true) : -9223372036854775808 ≤ a.1 ∧ a.2.1 ≤ 9223372036854775807 := by
  unfold xa_r64 at h
  simpa using h
theorem xa_r32_ok {a : xa_B} (h : xa_r32 a = true) : -2147483648 ≤ a.1 ∧ a.2.1 ≤ 2147483647 := by
  unfold xa_r32 at h
  simpa using h
theorem xa_en_ok {b op : Nat} {l : List xk_O} (hx : ∀ e ∈ tb, xa_ex ρ e) (h : xa_en tb b = some (op, l)) : xa_ex ρ (b, op, l) := hx _ (ck_lk_mem h)
theorem xa_rm_ok {x y : xk_O} {lo hi : Int} (hx : ∀ e ∈ tb, xa_ex ρ e) (h : xa_rm tb x y = some (lo, hi)) : lo ≤ xk_ov ρ x - xk_ov ρ y ∧ xk_ov ρ x - xk_ov ρ y ≤ hi := by
  unfold xa_rm at h
  split at h
  · rename_i t k hy
    split at h
    · rename_i b k' n ht hk
      split at h
      · rename_i hc
        obtain ⟨c1, c2, c3⟩ := hc
        have e1 : ρ y.1 = xk_ov ρ t * ((2 ^ n : Nat) : Int) := (xa_en_ok hx hy) n hk
        have e2 : ρ t.1 = xk_ov ρ b / ((2 ^ n : Nat) : Int) := (xa_en_ok hx ht) n (by rw [c1]; exact hk)
        have ey : xk_ov ρ y = ρ y.1 := by unfold xk_ov; rw [if_neg c2]
        have et : xk_ov ρ t = ρ t.1 := by unfold xk_ov; rw [if_neg c3]
        rw [ey, e1, et, e2]
        have hp : (0 : Int) < ((2 ^ n : Nat) : Int) := by have := Nat.two_pow_pos n; omega
        have d1 := Int.emod_nonneg (xk_ov ρ b) (show ((2 ^ n : Nat) : Int) ≠ 0 by omega)
        have d2 := Int.emod_lt_of_pos (xk_ov ρ b) hp
        have d3 := Int.mul_ediv_add_emod (xk_ov ρ b) ((2 ^ n : Nat) : Int)
        rw [Int.mul_comm] at d3
        have hpow : (2 : Int) ^ n = ((2 ^ n : Nat) : Int) := by simp
        rw [hpow] at h
        generalize ((2 ^ n : Nat) : Int) = P at *
        generalize xk_ov ρ b / P * P = q at *
        split at h
        · rename_i hb
          cases h
          rw [hb] at d3 d1 d2
          omega
        · split at h
          · rename_i x' c hb
            split at h
            · rename_i hc2
              obtain ⟨rfl, c4, c5⟩ := hc2
              cases h
              have e3 : ρ b.1 = xk_ov ρ x' + xk_ov ρ c := xa_en_ok hx hb
              have eb : xk_ov ρ b = ρ b.1 := by unfold xk_ov; rw [if_neg c5]
              have ec : xk_ov ρ c = c.2 := by unfold xk_ov; rw [if_pos c4]
              rw [eb, e3, ec] at d3 d1 d2
              omega
            · cases h
          · cases h
      · cases h
    · cases h
  · cases h
theorem xa_sem20 (x y : Int) (t : List Int) : xk_sem 20 (x :: y :: t) = (Int64.ofInt x + Int64.ofInt y).toInt := rfl
theorem xa_sem21 (x y : Int) (t : List Int) : xk_sem 21 (x :: y :: t) = (Int64.ofInt x - Int64.ofInt y).toInt := rfl
theorem xa_sem22 (x y : Int) (t : List Int) : xk_sem 22 (x :: y :: t) = (Int64.ofInt x * Int64.ofInt y).toInt := rfl
/-- an entry's worth; and that nothing was cut off -/
theorem xa_st_ok (he : xk_eok Φ wd ρ e) (hrs : xa_ok rs ρ) (hx : ∀ e ∈ tb, xa_ex ρ e) (h : xa_st tb rs e = some r) : xa_h ρ r (ρ e.1) ∧ xa_ex ρ e := by
  obtain ⟨g, op, args⟩ := e
  unfold xa_st at h
  unfold xk_eok at he
  dsimp only at h he
  split at h
  · rename_i x y
    split at h
    · rename_i a b ha hb
      obtain ⟨hc, rfl⟩ := xa_if_ok h
      simp only [Bool.and_eq_true] at hc
      obtain ⟨a1, a2, a3⟩ := xa_o_ok hrs ha
      obtain ⟨b1, b2, b3⟩ := xa_o_ok hrs hb
      have ra := xa_r64_ok hc.1.1
      have rb := xa_r64_ok hc.1.2
      have rc := xa_r64_ok hc.2
      rw [if_pos (by omega)] at he
      simp only [List.map_cons, List.map_nil] at he
      rw [xa_sem20, Int64.toInt_add, ck_ofInt64 (by omega) (by omega), ck_ofInt64 (by omega) (by omega), xa_b64 (by dsimp only at rc; omega) (by dsimp only at rc; omega)] at he
      refine ⟨⟨by dsimp only; rw [he]; omega, by dsimp only; rw [he]; omega, by dsimp only; rw [xa_add_ok, he, a3, b3]⟩, he⟩
    · cases h
  · rename_i x y
    split at h
    · rename_i a b ha hb
      obtain ⟨a1, a2, a3⟩ := xa_o_ok hrs ha
      obtain ⟨b1, b2, b3⟩ := xa_o_ok hrs hb
      have fin : ∀ lo hi : Int, lo ≤ xk_ov ρ x - xk_ov ρ y → xk_ov ρ x - xk_ov ρ y ≤ hi → xa_if (xa_r64 a && xa_r64 b && xa_r64 (lo, hi, [])) (lo, hi, xa_add a.2.2 (xa_scl (-1) b.2.2)) = some r → xa_h ρ r (ρ g) ∧ xa_ex ρ (g, 21, [x, y]) := by
        intro lo hi h1 h2 h
        obtain ⟨hc, rfl⟩ := xa_if_ok h
        simp only [Bool.and_eq_true] at hc
        have ra := xa_r64_ok hc.1.1
        have rb := xa_r64_ok hc.1.2
        have rc := xa_r64_ok hc.2
        dsimp only at rc
        rw [if_pos (by omega)] at he
        simp only [List.map_cons, List.map_nil] at he
        rw [xa_sem21, Int64.toInt_sub, ck_ofInt64 (by omega) (by omega), ck_ofInt64 (by omega) (by omega), xa_b64 (by omega) (by omega)] at he
        refine ⟨⟨by dsimp only; rw [he]; omega, by dsimp only; rw [he]; omega, by dsimp only; rw [xa_add_ok, xa_scl_ok, he, ← a3, ← b3]; omega⟩, trivial⟩
      split at h
      · rename_i lo hi hm
        obtain ⟨m1, m2⟩ := xa_rm_ok hx hm
        exact fin lo hi m1 m2 h
      · exact fin _ _ (by omega) (by omega) h
    · cases h
  · rename_i x y
    split at h
    · rename_i a b ha hb
      split at h
      · rename_i q hq
        obtain ⟨hc, rfl⟩ := xa_if_ok h
        simp only [Bool.and_eq_true] at hc
        obtain ⟨a1, a2, a3⟩ := xa_o_ok hrs ha
        obtain ⟨b1, b2, b3⟩ := xa_o_ok hrs hb
        have ra := xa_r64_ok hc.1.1
        have rb := xa_r64_ok hc.1.2
        have rc := xa_r64_ok hc.2
        dsimp only at rc
        obtain ⟨m1, m2⟩ := ck_mul_b a1 a2 b1 b2
        rw [if_pos (by omega)] at he
        simp only [List.map_cons, List.map_nil] at he
        rw [xa_sem22, Int64.toInt_mul, ck_ofInt64 (by omega) (by omega), ck_ofInt64 (by omega) (by omega), xa_b64 (by omega) (by omega)] at he
        refine ⟨⟨by dsimp only; rw [he]; exact m1, by dsimp only; rw [he]; exact m2, by dsimp only; rw [xa_mul_ok ρ hq, he, ← a3, ← b3]⟩, trivial⟩
      · cases h
    · cases h
  · rename_i x y
    split at h
    · rename_i a b ha hb
      split at h
      · rename_i hc
        simp only [Bool.and_eq_true, decide_eq_true_eq] at hc
        obtain ⟨b1, b2, b3⟩ := xa_o_ok hrs hb
        have rb := xa_r64_ok hc.1.2
        rw [if_pos (by omega)] at he
        simp only [List.map_cons, List.map_nil] at he
        have he : ρ g = (Int64.ofInt (xk_ov ρ x) &&& Int64.ofInt (xk_ov ρ y)).toInt := he
        have ey := ck_ofInt64 (n := xk_ov ρ y) (by omega) (by omega)
        have := xa_and64 (x := Int64.ofInt (xk_ov ρ x)) (y := Int64.ofInt (xk_ov ρ y)) (by omega)
        refine ⟨xa_atom_ok h ?_ ?_, trivial⟩ <;> (dsimp only; omega)
      · cases h
    · cases h
  · rename_i x y
    split at h
    · rename_i a b t k ha hb hen
      split at h
      · rename_i n cc hk hcc
        obtain ⟨hc, rfl⟩ := xa_if_ok h
        simp only [Bool.and_eq_true, decide_eq_true_eq] at hc
        obtain ⟨⟨⟨⟨⟨⟨c1, c2⟩, c3⟩, c4⟩, c5⟩, c6⟩, c7⟩ := hc
        obtain ⟨a1, a2, a3⟩ := xa_o_ok hrs ha
        obtain ⟨b1, b2, b3⟩ := xa_o_ok hrs hb
        obtain ⟨d1, d2, d3⟩ := xa_o_ok hrs hcc
        have ra := xa_r64_ok c1
        have rb := xa_r64_ok c2
        have rc := xa_r64_ok c7
        dsimp only at rc
        have e1 : ρ y.1 = xk_ov ρ t * ((2 ^ n : Nat) : Int) := (xa_en_ok hx hen) n hk
        have ey : xk_ov ρ y = ρ y.1 := by unfold xk_ov; rw [if_neg c6]
        rw [if_pos (by omega)] at he
        simp only [List.map_cons, List.map_nil] at he
        have he : ρ g = (Int64.ofInt (xk_ov ρ x) ||| Int64.ofInt (xk_ov ρ y)).toInt := he
        have o1 := ck_ofInt64 (n := xk_ov ρ x) (by omega) (by omega)
        have o2 := ck_ofInt64 (n := xk_ov ρ y) (by omega) (by omega)
        rw [xa_or64 (n := n) (b := xk_ov ρ t) (by rw [o1]; omega) (by rw [o1]; omega) (by omega) (by rw [o2, ey, e1]) (by rw [o1, o2]; omega), o1, o2] at he
        refine ⟨⟨by dsimp only; rw [he]; omega, by dsimp only; rw [he]; omega, by dsimp only; rw [xa_add_ok, he, ← a3, ← b3]⟩, trivial⟩
      · cases h
    · cases h
  · rename_i x k
    split at h
    · rename_i a n ha hk
      obtain ⟨hc, rfl⟩ := xa_if_ok h
      simp only [Bool.and_eq_true] at hc
      obtain ⟨a1, a2, a3⟩ := xa_o_ok hrs ha
      have ra := xa_r64_ok hc.1
      have rc := xa_r64_ok hc.2
      dsimp only at rc
      obtain ⟨k1, k2, k3⟩ := xa_k_ok (ρ := ρ) hk
      rw [if_pos (by omega)] at he
      simp only [List.map_cons, List.map_nil, k1] at he
      have he : ρ g = (Int64.ofInt (xk_ov ρ x) <<< ((Int32.ofInt (n : Int)).toInt64 &&& 63)).toInt := he
      have o1 := ck_ofInt64 (n := xk_ov ρ x) (by omega) (by omega)
      have hp : (0 : Int) ≤ ((2 ^ n : Nat) : Int) := Int.natCast_nonneg _
      have m1 := Int.mul_le_mul_of_nonneg_right a1 hp
      have m2 := Int.mul_le_mul_of_nonneg_right a2 hp
      rw [xa_shl (by omega) (by rw [o1]; omega) (by rw [o1]; omega), o1] at he
      refine ⟨⟨by dsimp only; rw [he]; exact m1, by dsimp only; rw [he]; exact m2, by dsimp only; rw [xa_scl_ok, he, ← a3, Int.mul_comm]⟩, fun n' hn' => ?_⟩
      cases hk.symm.trans hn'
      exact he
    · cases h
  · rename_i x k
    split at h
    · rename_i a n ha hk
      split at h
      · rename_i hc
        obtain ⟨a1, a2, a3⟩ := xa_o_ok hrs ha
        have ra := xa_r64_ok hc
        obtain ⟨k1, k2, k3⟩ := xa_k_ok (ρ := ρ) hk
        rw [if_pos (by omega)] at he
        simp only [List.map_cons, List.map_nil, k1] at he
        have he : ρ g = (Int64.ofInt (xk_ov ρ x) >>> ((Int32.ofInt (n : Int)).toInt64 &&& 63)).toInt := he
        have o1 := ck_ofInt64 (n := xk_ov ρ x) (by omega) (by omega)
        have hp : (0 : Int) < ((2 ^ n : Nat) : Int) := by have := Nat.two_pow_pos n; omega
        rw [xa_shr (by omega), o1] at he
        refine ⟨xa_atom_ok h (by rw [he]; exact Int.ediv_le_ediv hp a1) (by rw [he]; exact Int.ediv_le_ediv hp a2), fun n' hn' => ?_⟩
        cases hk.symm.trans hn'
        exact he
      · cases h
    · cases h
  · rename_i x
    split at h
    · rename_i a ha
      obtain ⟨hc, rfl⟩ := xa_if_ok h
      obtain ⟨a1, a2, a3⟩ := xa_o_ok hrs ha
      have ra := xa_r32_ok hc
      rw [if_pos (by omega)] at he
      simp only [List.map_cons, List.map_nil] at he
      have he : ρ g = (Int64.ofInt (xk_ov ρ x)).toInt32.toInt := he
      have o1 := ck_ofInt64 (n := xk_ov ρ x) (by omega) (by omega)
      rw [Int64.toInt_toInt32, o1, ck_bm (by omega) (by omega)] at he
      exact ⟨by rw [he]; exact ⟨a1, a2, a3⟩, trivial⟩
    · cases h
  · rename_i x y
    split at h
    · rename_i a b ha hb
      obtain ⟨hc, rfl⟩ := xa_if_ok h
      simp only [Bool.and_eq_true] at hc
      obtain ⟨a1, a2, a3⟩ := xa_o_ok hrs ha
      obtain ⟨b1, b2, b3⟩ := xa_o_ok hrs hb
      have ra := xa_r32_ok hc.1.1
      have rb := xa_r32_ok hc.1.2
      have rc := xa_r32_ok hc.2
      dsimp only at rc
      rw [if_pos (by omega)] at he
      simp only [List.map_cons, List.map_nil] at he
      have he : ρ g = (Int32.ofInt (xk_ov ρ x) + Int32.ofInt (xk_ov ρ y)).toInt := he
      rw [Int32.toInt_add, ck_ofInt (by omega) (by omega), ck_ofInt (by omega) (by omega), ck_bm (by omega) (by omega)] at he
      refine ⟨⟨by dsimp only; rw [he]; omega, by dsimp only; rw [he]; omega, by dsimp only; rw [xa_add_ok, he, ← a3, ← b3]⟩, trivial⟩
    · cases h
  · rename_i x y
    split at h
    · rename_i a b ha hb
      split at h
      · rename_i hc
        simp only [Bool.and_eq_true, decide_eq_true_eq] at hc
        obtain ⟨b1, b2, b3⟩ := xa_o_ok hrs hb
        have rb := xa_r32_ok hc.1.2
        rw [if_pos (by omega)] at he
        simp only [List.map_cons, List.map_nil] at he
        have he : ρ g = (Int32.ofInt (xk_ov ρ x) &&& Int32.ofInt (xk_ov ρ y)).toInt := he
        have ey := ck_ofInt (n := xk_ov ρ y) (by omega) (by omega)
        have := xa_and32 (x := Int32.ofInt (xk_ov ρ x)) (y := Int32.ofInt (xk_ov ρ y)) (by omega)
        refine ⟨xa_atom_ok h ?_ ?_, trivial⟩ <;> (dsimp only; omega)
      · cases h
    · cases h
  · rename_i x y
    split at h
    · rename_i a b t k ha hb hen
      split at h
      · rename_i n cc hk hcc
        obtain ⟨hc, rfl⟩ := xa_if_ok h
        simp only [Bool.and_eq_true, decide_eq_true_eq] at hc
        obtain ⟨⟨⟨⟨⟨⟨c1, c2⟩, c3⟩, c4⟩, c5⟩, c6⟩, c7⟩ := hc
        obtain ⟨a1, a2, a3⟩ := xa_o_ok hrs ha
        obtain ⟨b1, b2, b3⟩ := xa_o_ok hrs hb
        obtain ⟨d1, d2, d3⟩ := xa_o_ok hrs hcc
        have ra := xa_r32_ok c1
        have rb := xa_r32_ok c2
        have rc := xa_r32_ok c7
        dsimp only at rc
        have e1 : ρ y.1 = xk_ov ρ t * ((2 ^ n : Nat) : Int) := (xa_en_ok hx hen) n hk
        have ey : xk_ov ρ y = ρ y.1 := by unfold xk_ov; rw [if_neg c6]
        rw [if_pos (by omega)] at he
        simp only [List.map_cons, List.map_nil] at he
        have he : ρ g = (Int32.ofInt (xk_ov ρ x) ||| Int32.ofInt (xk_ov ρ y)).toInt := he
        have o1 := ck_ofInt (n := xk_ov ρ x) (by omega) (by omega)
        have o2 := ck_ofInt (n := xk_ov ρ y) (by omega) (by omega)
        rw [xa_or32 (n := n) (b := xk_ov ρ t) (by rw [o1]; omega) (by rw [o1]; omega) (by omega) (by rw [o2, ey, e1]) (by rw [o1, o2]; omega), o1, o2] at he
        refine ⟨⟨by dsimp only; rw [he]; omega, by dsimp only; rw [he]; omega, by dsimp only; rw [xa_add_ok, he, ← a3, ← b3]⟩, trivial⟩
      · cases h
    · cases h
  · rename_i x k
    split at h
    · rename_i a n ha hk
      obtain ⟨hc, rfl⟩ := xa_if_ok h
      simp only [Bool.and_eq_true, decide_eq_true_eq] at hc
      obtain ⟨a1, a2, a3⟩ := xa_o_ok hrs ha
      have ra := xa_r32_ok hc.1.1
      have rc := xa_r32_ok hc.2
      dsimp only at rc
      obtain ⟨k1, k2, k3⟩ := xa_k_ok (ρ := ρ) hk
      rw [if_pos (by omega)] at he
      simp only [List.map_cons, List.map_nil, k1] at he
      have he : ρ g = (Int32.ofInt (xk_ov ρ x) <<< (Int32.ofInt (n : Int) &&& 31)).toInt := he
      have o1 := ck_ofInt (n := xk_ov ρ x) (by omega) (by omega)
      have hp : (0 : Int) ≤ ((2 ^ n : Nat) : Int) := Int.natCast_nonneg _
      have m1 := Int.mul_le_mul_of_nonneg_right a1 hp
      have m2 := Int.mul_le_mul_of_nonneg_right a2 hp
      rw [xa_shl32 (by omega) (by rw [o1]; omega) (by rw [o1]; omega), o1] at he
      refine ⟨⟨by dsimp only; rw [he]; exact m1, by dsimp only; rw [he]; exact m2, by dsimp only; rw [xa_scl_ok, he, ← a3, Int.mul_comm]⟩, fun n' hn' => ?_⟩
      cases hk.symm.trans hn'
      exact he
    · cases h
  · rename_i x k
    split at h
    · rename_i a n ha hk
      split at h
      · rename_i hc
        obtain ⟨a1, a2, a3⟩ := xa_o_ok hrs ha
        have ra := xa_r32_ok hc
        obtain ⟨k1, k2, k3⟩ := xa_k_ok (ρ := ρ) hk
        rw [if_pos (by omega)] at he
        simp only [List.map_cons, List.map_nil, k1] at he
        have he : ρ g = (Int32.ofInt (xk_ov ρ x) >>> (Int32.ofInt (n : Int) &&& 31)).toInt := he
        have o1 := ck_ofInt (n := xk_ov ρ x) (by omega) (by omega)
        have hp : (0 : Int) < ((2 ^ n : Nat) : Int) := by have := Nat.two_pow_pos n; omega
        rw [xa_shr32 (by omega), o1] at he
        exact ⟨xa_atom_ok h (by rw [he]; exact Int.ediv_le_ediv hp a1) (by rw [he]; exact Int.ediv_le_ediv hp a2), trivial⟩
      · cases h
    · cases h
  · rename_i x y
    rw [if_pos (by omega)] at he
    simp only [List.map_cons, List.map_nil] at he
    have he : ρ g = if xk_ov ρ y < xk_ov ρ x then 1 else if xk_ov ρ x = xk_ov ρ y then 0 else -1 := he
    refine ⟨xa_atom_ok h ?_ ?_, trivial⟩
    · rw [he]; split <;> (try split) <;> omega
    · rw [he]; split <;> (try split) <;> omega
  · rename_i op x y u v
    split at h
    · rename_i hop
      rw [if_pos (by omega)] at he
      simp only [List.map_cons, List.map_nil] at he
      have he : ρ g = if xk_hb (op + 40 - 40) (xk_ov ρ x) (xk_ov ρ y) then v else u := by
        rw [he]
        unfold xk_sem
        rw [if_neg (by omega), if_neg (by omega), if_neg (by omega), if_neg (by omega), if_neg (by omega)]
        rfl
      refine ⟨xa_atom_ok h ?_ ?_, ?_⟩
      · rw [he]; have := ck_min_l u v; have := ck_min_r u v; split <;> omega
      · rw [he]; have := ck_max_l u v; have := ck_max_r u v; split <;> omega
      · show xa_ex ρ (g, op + 40, [x, y, (0, u), (0, v)])
        unfold xa_ex
        split <;> first | trivial | (rename_i h1 h2; simp at h2)
    · cases h
  · cases h
/-- a whole table, from what came in -/
def xa_run : List xk_E → List xk_E → xa_S → Option xa_S
  | [], _, rs => some rs
  | e :: t, tb, rs => (match xa_st tb rs e with
    | some r => xa_run t (e :: tb) ((e.1, r) :: rs)
    | none => none)
theorem xa_run_ok : ∀ {t tb : List xk_E} {rs rs' : xa_S}, xa_run t tb rs = some rs' → xk_tok Φ wd ρ t → (∀ e ∈ tb, xa_ex ρ e) → xa_ok rs ρ → xa_ok rs' ρ
  | [], tb, rs, rs', h, _, _, hr => by cases h; exact hr
  | e :: t, tb, rs, rs', h, ht, hx, hr => by
    unfold xa_run at h
    split at h
    · rename_i r hs
      obtain ⟨s1, s2⟩ := xa_st_ok (ht e List.mem_cons_self) hr hx hs
      refine xa_run_ok h (fun e' he' => ht e' (List.mem_cons_of_mem _ he')) (fun e' he' => ?_) (fun q hq => ?_)
      · rcases List.mem_cons.mp he' with rfl | z
        · exact s2
        · exact hx e' z
      · rcases List.mem_cons.mp hq with rfl | z
        · exact s1
        · exact hr q z
    · cases h
end XAI
