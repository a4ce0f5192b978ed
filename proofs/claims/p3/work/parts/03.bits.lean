/-! ===== bits: and, or, xor, shifts ===== -/
theorem ck_nat {x : Int32} (h : 0 ≤ x.toInt) : ((x.toBitVec.toNat : Nat) : Int) = x.toInt := by
  have e : x.toInt = x.toBitVec.toInt := rfl
  have c := BitVec.toInt_eq_toNat_cond x.toBitVec
  have hl := x.toBitVec.isLt
  rw [e] at h ⊢
  split at c <;> omega
theorem ck_ofnat {x : Int32} {n : Nat} (h : x.toBitVec.toNat = n) (hn : n < 2147483648) : x.toInt = (n : Int) := by
  have e : x.toInt = x.toBitVec.toInt := rfl
  rw [e, BitVec.toInt_eq_toNat_cond, if_pos (by omega), h]
def ck_and (x y : ck_Q) : ck_V :=
  if x.1 = x.2.1 ∧ y.1 = y.2.1 ∧ 0 ≤ x.1 ∧ 0 ≤ y.1 then ck_rng (x.1.toNat &&& y.1.toNat : Nat) (x.1.toNat &&& y.1.toNat : Nat)
  else if 0 ≤ x.1 ∧ 0 ≤ y.1 then ck_rng 0 (ck_min x.2.1 y.2.1)
  else if 0 ≤ y.1 then ck_rng 0 y.2.1 else if 0 ≤ x.1 then ck_rng 0 x.2.1 else ck_full
theorem ck_and_nat (x y : Int32) : (x &&& y).toBitVec.toNat = x.toBitVec.toNat &&& y.toBitVec.toNat := by
  rw [Int32.toBitVec_and, BitVec.toNat_and]
theorem ck_and_ok {ρ : Nat → Int} {p q : ck_Q} {x y : Int32} (hx : ck_in ρ p x) (hy : ck_in ρ q y) : ck_isI ρ (ck_and p q) (x &&& y) := by
  obtain ⟨a1, a2, -⟩ := hx
  obtain ⟨b1, b2, -⟩ := hy
  have e := ck_and_nat x y
  have hl1 : x.toBitVec.toNat &&& y.toBitVec.toNat ≤ x.toBitVec.toNat := Nat.and_le_left
  have hl2 : x.toBitVec.toNat &&& y.toBitVec.toNat ≤ y.toBitVec.toNat := Nat.and_le_right
  have hx3 := ck_i32 x
  have hy3 := ck_i32 y
  unfold ck_and
  split
  · rename_i h
    refine ck_isI_rng fun _ => ?_
    have ex := ck_nat (x := x) (by omega)
    have ey := ck_nat (x := y) (by omega)
    have h1 : p.1.toNat = x.toBitVec.toNat := by omega
    have h2 : q.1.toNat = y.toBitVec.toNat := by omega
    rw [h1, h2, ck_ofnat e (by omega)]
    exact ⟨Int.le_refl _, Int.le_refl _⟩
  · split
    · rename_i h
      refine ck_isI_rng fun _ => ?_
      have ex := ck_nat (x := x) (by omega)
      have ey := ck_nat (x := y) (by omega)
      rw [ck_ofnat e (by omega)]
      exact ⟨by omega, ck_le_min (by omega) (by omega)⟩
    · split
      · refine ck_isI_rng fun _ => ?_
        have ey := ck_nat (x := y) (by omega)
        rw [ck_ofnat e (by omega)]
        omega
      · split
        · refine ck_isI_rng fun _ => ?_
          have ex := ck_nat (x := x) (by omega)
          rw [ck_ofnat e (by omega)]
          omega
        · exact ck_isI_full ρ _
/-! or, xor of two that are not below 0: below the next power of two of both -/
def ck_p2 (n : Int) : Option Nat := if n < 256 then some 8 else if n < 65536 then some 16 else if n < 16777216 then some 24 else if n < 2147483648 then some 31 else none
def ck_orx (x y : ck_Q) : ck_V := if 0 ≤ x.1 ∧ 0 ≤ y.1 then (match ck_p2 (ck_max x.2.1 y.2.1) with
  | some k => ck_rng 0 ((2 ^ k - 1 : Nat) : Int)
  | none => ck_full) else ck_full
theorem ck_p2_ok {n : Int} {k : Nat} (h : ck_p2 n = some k) : n < ((2 ^ k : Nat) : Int) ∧ k ≤ 31 := by
  unfold ck_p2 at h
  split at h
  · cases h; exact ⟨by simpa using by assumption, by omega⟩
  · split at h
    · cases h; exact ⟨by simpa using by assumption, by omega⟩
    · split at h
      · cases h; exact ⟨by simpa using by assumption, by omega⟩
      · split at h
        · cases h; exact ⟨by simpa using by assumption, by omega⟩
        · cases h
theorem ck_orx_ok {ρ : Nat → Int} {p q : ck_Q} {x y z : Int32} (hx : ck_in ρ p x) (hy : ck_in ρ q y) (hz : ∀ k : Nat, x.toBitVec.toNat < 2 ^ k → y.toBitVec.toNat < 2 ^ k → z.toBitVec.toNat < 2 ^ k) : ck_isI ρ (ck_orx p q) z := by
  obtain ⟨a1, a2, -⟩ := hx
  obtain ⟨b1, b2, -⟩ := hy
  unfold ck_orx
  split
  · rename_i h
    split
    · rename_i k hk
      obtain ⟨h1, h2⟩ := ck_p2_ok hk
      refine ck_isI_rng fun _ => ?_
      have ex := ck_nat (x := x) (by omega)
      have ey := ck_nat (x := y) (by omega)
      have m1 := ck_max_l p.2.1 q.2.1
      have m2 := ck_max_r p.2.1 q.2.1
      have hzk := hz k (by omega) (by omega)
      have hp : 2 ^ k ≤ 2 ^ 31 := Nat.pow_le_pow_right (by omega) h2
      rw [ck_ofnat (x := z) rfl (by omega)]
      omega
    · exact ck_isI_full ρ _
  · exact ck_isI_full ρ _
theorem ck_or_ok {ρ : Nat → Int} {p q : ck_Q} {x y : Int32} (hx : ck_in ρ p x) (hy : ck_in ρ q y) : ck_isI ρ (ck_orx p q) (x ||| y) :=
  ck_orx_ok hx hy fun k h1 h2 => by rw [Int32.toBitVec_or, BitVec.toNat_or]; exact Nat.or_lt_two_pow h1 h2
theorem ck_xor_ok {ρ : Nat → Int} {p q : ck_Q} {x y : Int32} (hx : ck_in ρ p x) (hy : ck_in ρ q y) : ck_isI ρ (ck_orx p q) (x ^^^ y) :=
  ck_orx_ok hx hy fun k h1 h2 => by rw [Int32.toBitVec_xor, BitVec.toNat_xor]; exact Nat.xor_lt_two_pow h1 h2
/-! shifts -/
theorem ck_sl : ∀ n, n < 32 → ((nI n &&& 31).toBitVec.smod 32).toNat = n := by decide +kernel
theorem ck_su : ∀ n, n < 32 → (((nI n).toUInt32 &&& Int32.toUInt32 31).toBitVec % 32).toNat = n := by decide +kernel
theorem ck_nI_of {x : Int32} {n : Nat} (h : x.toInt = (n : Int)) : x = nI n := by
  have hx := ck_i32 x
  apply Int32.toInt_inj.mp
  rw [h, nI_toInt (by omega)]
def ck_sh (y : ck_Q) : Option Nat := if y.1 = y.2.1 ∧ 0 ≤ y.1 ∧ y.1 < 32 then some y.1.toNat else none
theorem ck_sh_ok {ρ : Nat → Int} {q : ck_Q} {y : Int32} {n : Nat} (hy : ck_in ρ q y) (h : ck_sh q = some n) : n < 32 ∧ y = nI n := by
  obtain ⟨b1, b2, -⟩ := hy
  unfold ck_sh at h
  split at h
  · cases h
    exact ⟨by omega, ck_nI_of (by omega)⟩
  · cases h
def ck_shl (x y : ck_Q) : ck_V := match ck_sh y with
  | some n => if 0 ≤ x.1 then ck_rng (x.1 * ((2 ^ n : Nat) : Int)) (x.2.1 * ((2 ^ n : Nat) : Int)) else ck_full
  | none => ck_full
theorem ck_shl_ok {ρ : Nat → Int} {p q : ck_Q} {x y : Int32} (hx : ck_in ρ p x) (hy : ck_in ρ q y) : ck_isI ρ (ck_shl p q) (x <<< (y &&& 31)) := by
  unfold ck_shl
  split
  · rename_i n hn
    obtain ⟨h1, rfl⟩ := ck_sh_ok hy hn
    obtain ⟨a1, a2, -⟩ := hx
    split
    · refine ck_isI_rng fun h => ?_
      obtain ⟨h3, h4⟩ := ck_iok_of h
      have ex := ck_nat (x := x) (by omega)
      have e := pk_shl x (nI n &&& 31) n (ck_sl n h1)
      have m1 : p.1 * ((2 ^ n : Nat) : Int) ≤ x.toInt * ((2 ^ n : Nat) : Int) := Int.mul_le_mul_of_nonneg_right a1 (Int.natCast_nonneg _)
      have m2 : x.toInt * ((2 ^ n : Nat) : Int) ≤ p.2.1 * ((2 ^ n : Nat) : Int) := Int.mul_le_mul_of_nonneg_right a2 (Int.natCast_nonneg _)
      rw [← ex] at m1 m2
      have m3 : ((x.toBitVec.toNat * 2 ^ n : Nat) : Int) = (x.toBitVec.toNat : Int) * ((2 ^ n : Nat) : Int) := Int.natCast_mul _ _
      rw [← m3] at m1 m2
      rw [Nat.mod_eq_of_lt (by omega)] at e
      rw [ck_ofnat e (by omega)]
      exact ⟨m1, m2⟩
    · exact ck_isI_full ρ _
  · exact ck_isI_full ρ _
def ck_shr (x y : ck_Q) : ck_V := match ck_sh y with
  | some n => ck_rng (x.1 / ((2 ^ n : Nat) : Int)) (x.2.1 / ((2 ^ n : Nat) : Int))
  | none => if 0 ≤ x.1 then ck_rng 0 x.2.1 else ck_full
theorem ck_shr_ok {ρ : Nat → Int} {p q : ck_Q} {x y : Int32} (hx : ck_in ρ p x) (hy : ck_in ρ q y) : ck_isI ρ (ck_shr p q) (x >>> (y &&& 31)) := by
  unfold ck_shr
  obtain ⟨a1, a2, -⟩ := id hx
  split
  · rename_i n hn
    obtain ⟨h1, rfl⟩ := ck_sh_ok hy hn
    refine ck_isI_rng fun h => ?_
    rw [pk_shr x (nI n &&& 31) n (ck_sl n h1), Int.shiftRight_eq_div_pow]
    have hp : (0 : Int) < ((2 ^ n : Nat) : Int) := by have := Nat.two_pow_pos n; omega
    exact ⟨Int.ediv_le_ediv hp a1, Int.ediv_le_ediv hp a2⟩
  · split
    · refine ck_isI_rng fun h => ?_
      rw [pk_shr x (y &&& 31) _ rfl, Int.shiftRight_eq_div_pow]
      have h0 : 0 ≤ x.toInt := by omega
      have := Int.ediv_nonneg h0 (show (0 : Int) ≤ ((2 ^ ((y &&& 31).toBitVec.smod 32).toNat : Nat) : Int) from Int.natCast_nonneg _)
      have := Int.ediv_le_self ((2 ^ ((y &&& 31).toBitVec.smod 32).toNat : Nat) : Int) h0
      omega
    · exact ck_isI_full ρ _
def ck_ushr (x y : ck_Q) : ck_V := match ck_sh y with
  | some n => if 0 ≤ x.1 then ck_rng (x.1 / ((2 ^ n : Nat) : Int)) (x.2.1 / ((2 ^ n : Nat) : Int)) else if 0 < n then ck_rng 0 ((2 ^ (32 - n) : Nat) : Int) else ck_full
  | none => ck_full
theorem ck_ushr_ok {ρ : Nat → Int} {p q : ck_Q} {x y : Int32} (hx : ck_in ρ p x) (hy : ck_in ρ q y) : ck_isI ρ (ck_ushr p q) ((x.toUInt32 >>> (y.toUInt32 &&& Int32.toUInt32 31)).toInt32) := by
  unfold ck_ushr
  obtain ⟨a1, a2, -⟩ := id hx
  split
  · rename_i n hn
    obtain ⟨h1, rfl⟩ := ck_sh_ok hy hn
    have e := pk_ushr x (nI n) n (ck_su n h1)
    have hl := x.toBitVec.isLt
    have hp : (0 : Int) < ((2 ^ n : Nat) : Int) := by have := Nat.two_pow_pos n; omega
    split
    · refine ck_isI_rng fun h => ?_
      have ex := ck_nat (x := x) (by omega)
      have hx3 := ck_i32 x
      have hd : x.toBitVec.toNat / 2 ^ n ≤ x.toBitVec.toNat := Nat.div_le_self _ _
      rw [ck_ofnat e (by omega), Int.natCast_ediv, ex]
      exact ⟨Int.ediv_le_ediv hp a1, Int.ediv_le_ediv hp a2⟩
    · split
      · rename_i hn0
        refine ck_isI_rng fun h => ?_
        have hq : x.toBitVec.toNat / 2 ^ n < 2 ^ (32 - n) := by
          rw [Nat.div_lt_iff_lt_mul (Nat.two_pow_pos n), ← Nat.pow_add, show 32 - n + n = 32 by omega]
          exact hl
        have h31 : 2 ^ (32 - n) ≤ 2 ^ 31 := Nat.pow_le_pow_right (by omega) (by omega)
        rw [ck_ofnat e (by omega)]
        omega
      · exact ck_isI_full ρ _
  · exact ck_isI_full ρ _
/-! comparing: what the branch tells of both -/
def ck_ref (k : ClassFile.Cond) (x y : Int × Int) : Option ((Int × Int) × (Int × Int)) :=
  let r := match k with
    | .eq => ((ck_max x.1 y.1, ck_min x.2 y.2), (ck_max x.1 y.1, ck_min x.2 y.2))
    | .ne => if y.1 = y.2 ∧ x.1 = y.1 then ((x.1 + 1, x.2), y) else if y.1 = y.2 ∧ x.2 = y.1 then ((x.1, x.2 - 1), y) else (x, y)
    | .lt => ((x.1, ck_min x.2 (y.2 - 1)), (ck_max y.1 (x.1 + 1), y.2))
    | .ge => ((ck_max x.1 y.1, x.2), (y.1, ck_min y.2 x.2))
    | .gt => ((ck_max x.1 (y.1 + 1), x.2), (y.1, ck_min y.2 (x.2 - 1)))
    | .le => ((x.1, ck_min x.2 y.2), (ck_max y.1 x.1, y.2))
  if r.1.1 ≤ r.1.2 ∧ r.2.1 ≤ r.2.2 then some r else none
def ck_hold (k : ClassFile.Cond) (u v : Int) : Prop := match k with
  | .eq => u = v | .ne => u ≠ v | .lt => u < v | .ge => v ≤ u | .gt => v < u | .le => u ≤ v
theorem ck_ref_ok {k : ClassFile.Cond} {x y : Int × Int} {u v : Int} (h : ck_hold k u v) (a1 : x.1 ≤ u) (a2 : u ≤ x.2) (b1 : y.1 ≤ v) (b2 : v ≤ y.2) :
    ∃ r, ck_ref k x y = some r ∧ r.1.1 ≤ u ∧ u ≤ r.1.2 ∧ r.2.1 ≤ v ∧ v ≤ r.2.2 := by
  have key : ∀ r : (Int × Int) × (Int × Int), (r.1.1 ≤ u ∧ u ≤ r.1.2 ∧ r.2.1 ≤ v ∧ v ≤ r.2.2) → ∃ r', (if r.1.1 ≤ r.1.2 ∧ r.2.1 ≤ r.2.2 then some r else none) = some r' ∧ r'.1.1 ≤ u ∧ u ≤ r'.1.2 ∧ r'.2.1 ≤ v ∧ v ≤ r'.2.2 := by
    intro r hr
    refine ⟨r, if_pos ⟨by omega, by omega⟩, hr⟩
  unfold ck_ref
  refine key _ ?_
  cases k <;> simp only [ck_hold] at h <;> dsimp only
  · exact ⟨ck_max_le (by omega) (by omega), ck_le_min (by omega) (by omega), ck_max_le (by omega) (by omega), ck_le_min (by omega) (by omega)⟩
  · split
    · exact ⟨by dsimp only; omega, a2, b1, b2⟩
    · split
      · exact ⟨a1, by dsimp only; omega, b1, b2⟩
      · exact ⟨a1, a2, b1, b2⟩
  · exact ⟨a1, ck_le_min (by omega) (by omega), ck_max_le (by omega) (by omega), b2⟩
  · exact ⟨ck_max_le (by omega) (by omega), a2, b1, ck_le_min (by omega) (by omega)⟩
  · exact ⟨ck_max_le (by omega) (by omega), a2, b1, ck_le_min (by omega) (by omega)⟩
  · exact ⟨a1, ck_le_min (by omega) (by omega), ck_max_le (by omega) (by omega), b2⟩
def ck_neg (k : ClassFile.Cond) : ClassFile.Cond := match k with
  | .eq => .ne | .ne => .eq | .lt => .ge | .ge => .lt | .gt => .le | .le => .gt
theorem ck_neg_ok {k : ClassFile.Cond} {u v : Int} (h : ¬ ck_hold k u v) : ck_hold (ck_neg k) u v := by
  cases k <;> simp only [ck_hold, ck_neg] at h ⊢ <;> omega
