/-! ===== what nodes are worth: bounds, and sums of products ===== -/
/-- a sum of products of two, coded by the two's numbers; the number 0 is one -/
abbrev xa_P : Type := List (Nat × Int)
def xa_v (ρ : Nat → Int) (i : Nat) : Int := if i = 0 then 1 else ρ i
def xa_m (ρ : Nat → Int) (c : Nat) : Int := xa_v ρ (c / 4096) * xa_v ρ (c % 4096)
def xa_e (ρ : Nat → Int) : xa_P → Int
  | [] => 0
  | (c, k) :: t => k * xa_m ρ c + xa_e ρ t
def xa_ins (c : Nat) (k : Int) : xa_P → xa_P
  | [] => [(c, k)]
  | (d, l) :: t => if c = d then (d, l + k) :: t else if d < c then (c, k) :: (d, l) :: t else (d, l) :: xa_ins c k t
theorem xa_ins_ok (ρ : Nat → Int) (c : Nat) (k : Int) : ∀ q : xa_P, xa_e ρ (xa_ins c k q) = k * xa_m ρ c + xa_e ρ q
  | [] => rfl
  | (d, l) :: t => by
    unfold xa_ins
    split
    · rename_i e
      subst e
      show (l + k) * xa_m ρ c + xa_e ρ t = k * xa_m ρ c + (l * xa_m ρ c + xa_e ρ t)
      rw [Int.add_mul]
      omega
    · split
      · rfl
      · show l * xa_m ρ d + xa_e ρ (xa_ins c k t) = k * xa_m ρ c + (l * xa_m ρ d + xa_e ρ t)
        rw [xa_ins_ok ρ c k t]
        omega
def xa_add : xa_P → xa_P → xa_P
  | [], q => q
  | (c, k) :: t, q => xa_ins c k (xa_add t q)
theorem xa_add_ok (ρ : Nat → Int) : ∀ p q : xa_P, xa_e ρ (xa_add p q) = xa_e ρ p + xa_e ρ q
  | [], q => by show xa_e ρ q = 0 + xa_e ρ q; omega
  | (c, k) :: t, q => by
    show xa_e ρ (xa_ins c k (xa_add t q)) = k * xa_m ρ c + xa_e ρ t + xa_e ρ q
    rw [xa_ins_ok, xa_add_ok ρ t q]
    omega
def xa_scl (n : Int) : xa_P → xa_P
  | [] => []
  | (c, k) :: t => (c, n * k) :: xa_scl n t
theorem xa_scl_ok (ρ : Nat → Int) (n : Int) : ∀ p : xa_P, xa_e ρ (xa_scl n p) = n * xa_e ρ p
  | [] => by show (0 : Int) = n * 0; omega
  | (c, k) :: t => by
    show n * k * xa_m ρ c + xa_e ρ (xa_scl n t) = n * (k * xa_m ρ c + xa_e ρ t)
    rw [xa_scl_ok ρ n t, Int.mul_add, Int.mul_assoc]
def xa_mc (a b : Nat) : Option Nat := if a = 0 then some b else if b = 0 then some a else if a % 4096 = 0 ∧ b % 4096 = 0 ∧ a / 4096 < 4096 ∧ b / 4096 < 4096 then (if a ≤ b then some (b + a / 4096) else some (a + b / 4096)) else none
theorem xa_m0 (ρ : Nat → Int) : xa_m ρ 0 = 1 := rfl
theorem xa_mc_ok (ρ : Nat → Int) {a b c : Nat} (h : xa_mc a b = some c) : xa_m ρ c = xa_m ρ a * xa_m ρ b := by
  unfold xa_mc at h
  split at h
  · rename_i e; cases h; rw [e, xa_m0]; omega
  · split at h
    · rename_i e; cases h; rw [e, xa_m0]; omega
    · split at h
      · rename_i hc
        obtain ⟨c1, c2, c3, c4⟩ := hc
        have v0 : xa_v ρ 0 = 1 := rfl
        split at h
        · cases h
          unfold xa_m
          rw [show (b + a / 4096) / 4096 = b / 4096 by omega, show (b + a / 4096) % 4096 = a / 4096 by omega, c1, c2, v0, Int.mul_one, Int.mul_one, Int.mul_comm]
        · cases h
          unfold xa_m
          rw [show (a + b / 4096) / 4096 = a / 4096 by omega, show (a + b / 4096) % 4096 = b / 4096 by omega, c1, c2, v0, Int.mul_one, Int.mul_one]
      · cases h
def xa_mul1 (c : Nat) (k : Int) : xa_P → Option xa_P
  | [] => some []
  | (d, l) :: t => (match xa_mc c d, xa_mul1 c k t with
    | some m, some q => some (xa_ins m (k * l) q)
    | _, _ => none)
theorem xa_mul1_ok (ρ : Nat → Int) {c : Nat} {k : Int} : ∀ {p q : xa_P}, xa_mul1 c k p = some q → xa_e ρ q = k * xa_m ρ c * xa_e ρ p
  | [], q, h => by cases h; show (0 : Int) = k * xa_m ρ c * 0; omega
  | (d, l) :: t, q, h => by
    unfold xa_mul1 at h
    split at h
    · rename_i m q' hm hq
      cases h
      rw [xa_ins_ok, xa_mul1_ok ρ hq, xa_mc_ok ρ hm]
      show k * l * (xa_m ρ c * xa_m ρ d) + k * xa_m ρ c * xa_e ρ t = k * xa_m ρ c * (l * xa_m ρ d + xa_e ρ t)
      rw [Int.mul_add]
      congr 1
      rw [Int.mul_assoc, Int.mul_assoc, Int.mul_left_comm l]
    · cases h
def xa_mul : xa_P → xa_P → Option xa_P
  | [], _ => some []
  | (c, k) :: t, p => (match xa_mul1 c k p, xa_mul t p with
    | some a, some b => some (xa_add a b)
    | _, _ => none)
theorem xa_mul_ok (ρ : Nat → Int) : ∀ {p q r : xa_P}, xa_mul p q = some r → xa_e ρ r = xa_e ρ p * xa_e ρ q
  | [], q, r, h => by cases h; show (0 : Int) = 0 * xa_e ρ q; omega
  | (c, k) :: t, q, r, h => by
    unfold xa_mul at h
    split at h
    · rename_i a b ha hb
      cases h
      rw [xa_add_ok, xa_mul1_ok ρ ha, xa_mul_ok ρ hb]
      show _ = (k * xa_m ρ c + xa_e ρ t) * xa_e ρ q
      rw [Int.add_mul]
    · cases h
/-- between two bounds, and a sum -/
abbrev xa_B : Type := Int × Int × xa_P
def xa_h (ρ : Nat → Int) (r : xa_B) (x : Int) : Prop := r.1 ≤ x ∧ x ≤ r.2.1 ∧ x = xa_e ρ r.2.2
/-- the nodes that came, the last one first -/
abbrev xa_S : Type := List (Nat × xa_B)
def xa_o (rs : xa_S) (o : xk_O) : Option xa_B := if o.1 = 0 then some (o.2, o.2, [(0, o.2)]) else ck_lk rs o.1
def xa_en (tb : List xk_E) (b : Nat) : Option (Nat × List xk_O) := ck_lk tb b
def xa_ok (rs : xa_S) (ρ : Nat → Int) : Prop := ∀ q ∈ rs, xa_h ρ q.2 (ρ q.1)
theorem xa_o_ok {rs : xa_S} {ρ : Nat → Int} {o : xk_O} {r : xa_B} (h : xa_ok rs ρ) (ho : xa_o rs o = some r) : xa_h ρ r (xk_ov ρ o) := by
  unfold xa_o at ho
  unfold xk_ov
  split at ho
  · rename_i e
    cases ho
    rw [if_pos e]
    exact ⟨Int.le_refl _, Int.le_refl _, by show o.2 = o.2 * 1 + 0; omega⟩
  · rename_i e
    rw [if_neg e]
    exact h _ (ck_lk_mem ho)
def xa_r64 (r : xa_B) : Bool := decide (-9223372036854775808 ≤ r.1) && decide (r.2.1 ≤ 9223372036854775807)
def xa_r32 (r : xa_B) : Bool := decide (-2147483648 ≤ r.1) && decide (r.2.1 ≤ 2147483647)
theorem xa_b64 {n : Int} (h1 : -9223372036854775808 ≤ n) (h2 : n ≤ 9223372036854775807) : n.bmod (2 ^ 64) = n := by
  show n.bmod 18446744073709551616 = n
  rw [Int.bmod_def]
  split <;> omega
/-- how far a constant shifts -/
def xa_k (o : xk_O) (n : Nat) : Option Nat := if o.1 = 0 ∧ 0 ≤ o.2 ∧ o.2 < (n : Int) then some o.2.toNat else none
/-- what is left when the higher part, or that of a sum, is taken away -/
def xa_rm (tb : List xk_E) (x y : xk_O) : Option (Int × Int) := match xa_en tb y.1 with
  | some (26, [t, k]) => (match xa_en tb t.1, xa_k k 63 with
    | some (27, [b, k']), some n => if k' = k ∧ y.1 ≠ 0 ∧ t.1 ≠ 0 then (if b = x then some (0, (2 : Int) ^ n - 1) else (match xa_en tb b.1 with
      | some (20, [x', c]) => if x' = x ∧ c.1 = 0 ∧ b.1 ≠ 0 then some (-c.2, (2 : Int) ^ n - 1 - c.2) else none
      | _ => none)) else none
    | _, _ => none)
  | _ => none
/-! shifts, masks, and putting bits together -/
theorem xa_sa : ∀ n : Nat, n < 64 → (((Int32.ofInt (n : Int)).toInt64 &&& 63).toBitVec.smod 64).toNat = n := by decide +kernel
theorem xa_sa32 : ∀ n : Nat, n < 32 → ((Int32.ofInt (n : Int) &&& 31).toBitVec.smod 32).toNat = n := by decide +kernel
theorem xa_shl {x : Int64} {n : Nat} (hn : n < 64) (h1 : -9223372036854775808 ≤ x.toInt * ((2 ^ n : Nat) : Int)) (h2 : x.toInt * ((2 ^ n : Nat) : Int) ≤ 9223372036854775807) : (x <<< ((Int32.ofInt (n : Int)).toInt64 &&& 63)).toInt = x.toInt * ((2 ^ n : Nat) : Int) := by
  show (x.toBitVec <<< (((Int32.ofInt (n : Int)).toInt64 &&& 63).toBitVec.smod 64).toNat).toInt = _
  rw [xa_sa n hn, BitVec.toInt_shiftLeft, Nat.shiftLeft_eq, Int.natCast_mul]
  have e : x.toInt = x.toBitVec.toInt := rfl
  have c := BitVec.toInt_eq_toNat_cond x.toBitVec
  rw [← e] at c
  generalize ((2 ^ n : Nat) : Int) = P at *
  have hm : ((x.toBitVec.toNat : Int) * P = x.toInt * P) ∨ ((x.toBitVec.toNat : Int) * P = x.toInt * P + 18446744073709551616 * P) := by
    split at c
    · exact Or.inl (by rw [c])
    · refine Or.inr ?_
      have : (x.toBitVec.toNat : Int) = x.toInt + 18446744073709551616 := by omega
      rw [this, Int.add_mul]
  generalize (x.toBitVec.toNat : Int) * P = b at *
  generalize x.toInt * P = a at *
  show b.bmod 18446744073709551616 = a
  rw [Int.bmod_def]
  split <;> omega
theorem xa_shr {x : Int64} {n : Nat} (hn : n < 64) : (x >>> ((Int32.ofInt (n : Int)).toInt64 &&& 63)).toInt = x.toInt / ((2 ^ n : Nat) : Int) := by
  show (x.toBitVec.sshiftRight (((Int32.ofInt (n : Int)).toInt64 &&& 63).toBitVec.smod 64).toNat).toInt = _
  rw [xa_sa n hn, BitVec.toInt_sshiftRight, Int.shiftRight_eq_div_pow]
  rfl
theorem xa_shr32 {x : Int32} {n : Nat} (hn : n < 32) : (x >>> (Int32.ofInt (n : Int) &&& 31)).toInt = x.toInt / ((2 ^ n : Nat) : Int) := by
  rw [pk_shr x _ n (xa_sa32 n hn), Int.shiftRight_eq_div_pow]
theorem xa_shl32 {x : Int32} {n : Nat} (hn : n < 32) (h0 : 0 ≤ x.toInt) (h2 : x.toInt * ((2 ^ n : Nat) : Int) ≤ 2147483647) : (x <<< (Int32.ofInt (n : Int) &&& 31)).toInt = x.toInt * ((2 ^ n : Nat) : Int) := by
  have ex := ck_nat (x := x) h0
  have e := pk_shl x _ n (xa_sa32 n hn)
  have m3 : ((x.toBitVec.toNat * 2 ^ n : Nat) : Int) = (x.toBitVec.toNat : Int) * ((2 ^ n : Nat) : Int) := Int.natCast_mul _ _
  rw [ex] at m3
  rw [Nat.mod_eq_of_lt (by omega)] at e
  rw [ck_ofnat e (by omega), m3]
theorem xa_nat64 {x : Int64} (h : 0 ≤ x.toInt) : ((x.toBitVec.toNat : Nat) : Int) = x.toInt := by
  have e : x.toInt = x.toBitVec.toInt := rfl
  have c := BitVec.toInt_eq_toNat_cond x.toBitVec
  have hl := x.toBitVec.isLt
  rw [e] at h ⊢
  split at c <;> omega
theorem xa_ofnat64 {x : Int64} {n : Nat} (h : x.toBitVec.toNat = n) (hn : n < 9223372036854775808) : x.toInt = (n : Int) := by
  have e : x.toInt = x.toBitVec.toInt := rfl
  rw [e, BitVec.toInt_eq_toNat_cond, if_pos (by omega), h]
theorem xa_and64 {x y : Int64} (h : 0 ≤ y.toInt) : 0 ≤ (x &&& y).toInt ∧ (x &&& y).toInt ≤ y.toInt := by
  have e : (x &&& y).toBitVec.toNat = x.toBitVec.toNat &&& y.toBitVec.toNat := by rw [Int64.toBitVec_and, BitVec.toNat_and]
  have hl : x.toBitVec.toNat &&& y.toBitVec.toNat ≤ y.toBitVec.toNat := Nat.and_le_right
  have ey := xa_nat64 h
  have hy := ck_i64 y
  rw [xa_ofnat64 e (by omega)]
  omega
theorem xa_and32 {x y : Int32} (h : 0 ≤ y.toInt) : 0 ≤ (x &&& y).toInt ∧ (x &&& y).toInt ≤ y.toInt := by
  have e := ck_and_nat x y
  have hl : x.toBitVec.toNat &&& y.toBitVec.toNat ≤ y.toBitVec.toNat := Nat.and_le_right
  have ey := ck_nat h
  have hy := ck_i32 y
  rw [ck_ofnat e (by omega)]
  omega
theorem xa_orN {x y n : Nat} (hx : x < 2 ^ n) (hy : 2 ^ n ∣ y) : x ||| y = x + y := by
  obtain ⟨b, rfl⟩ := hy
  have := Nat.shiftLeft_add_eq_or_of_lt hx b
  rw [Nat.shiftLeft_eq, Nat.mul_comm b] at this
  rw [Nat.or_comm, ← this, Nat.add_comm]
theorem xa_or64 {x y : Int64} {n : Nat} {b : Int} (hx0 : 0 ≤ x.toInt) (hx : x.toInt < ((2 ^ n : Nat) : Int)) (hb : 0 ≤ b) (hy : y.toInt = b * ((2 ^ n : Nat) : Int)) (hs : x.toInt + y.toInt ≤ 9223372036854775807) : (x ||| y).toInt = x.toInt + y.toInt := by
  have e : (x ||| y).toBitVec.toNat = x.toBitVec.toNat ||| y.toBitVec.toNat := by rw [Int64.toBitVec_or, BitVec.toNat_or]
  have hy0 : 0 ≤ y.toInt := by rw [hy]; exact Int.mul_nonneg hb (Int.natCast_nonneg _)
  have ex := xa_nat64 hx0
  have ey := xa_nat64 hy0
  have hd : 2 ^ n ∣ y.toBitVec.toNat := by
    refine ⟨b.toNat, ?_⟩
    have h1 : ((2 ^ n * b.toNat : Nat) : Int) = b * ((2 ^ n : Nat) : Int) := by
      rw [Int.natCast_mul, Int.toNat_of_nonneg hb, Int.mul_comm]
    omega
  rw [xa_orN (by omega) hd] at e
  rw [xa_ofnat64 e (by omega)]
  omega
theorem xa_or32 {x y : Int32} {n : Nat} {b : Int} (hx0 : 0 ≤ x.toInt) (hx : x.toInt < ((2 ^ n : Nat) : Int)) (hb : 0 ≤ b) (hy : y.toInt = b * ((2 ^ n : Nat) : Int)) (hs : x.toInt + y.toInt ≤ 2147483647) : (x ||| y).toInt = x.toInt + y.toInt := by
  have e : (x ||| y).toBitVec.toNat = x.toBitVec.toNat ||| y.toBitVec.toNat := by rw [Int32.toBitVec_or, BitVec.toNat_or]
  have hy0 : 0 ≤ y.toInt := by rw [hy]; exact Int.mul_nonneg hb (Int.natCast_nonneg _)
  have ex := ck_nat hx0
  have ey := ck_nat hy0
  have hd : 2 ^ n ∣ y.toBitVec.toNat := by
    refine ⟨b.toNat, ?_⟩
    have h1 : ((2 ^ n * b.toNat : Nat) : Int) = b * ((2 ^ n : Nat) : Int) := by
      rw [Int.natCast_mul, Int.toNat_of_nonneg hb, Int.mul_comm]
    omega
  rw [xa_orN (by omega) hd] at e
  rw [ck_ofnat e (by omega)]
  omega
