/-! ===== digits, bits, what a table is worth exactly ===== -/
section XAE
variable {Φ : Nat → Nat → List Int → Int} {wd : Nat → Nat} {ρ : Nat → Int}
theorem xa_run_ex : ∀ {t tb : List xk_E} {rs rs' : xa_S}, xa_run t tb rs = some rs' → xk_tok Φ wd ρ t → (∀ e ∈ tb, xa_ex ρ e) → xa_ok rs ρ → (∀ e ∈ t, xa_ex ρ e)
  | [], tb, rs, rs', h, _, _, hr => fun e he => by cases he
  | e :: t, tb, rs, rs', h, ht, hx, hr => by
    unfold xa_run at h
    split at h
    · rename_i r hs
      obtain ⟨s1, s2⟩ := xa_st_ok (ht e List.mem_cons_self) hr hx hs
      have ih := xa_run_ex h (fun e' he' => ht e' (List.mem_cons_of_mem _ he')) (fun e' he' => by
        rcases List.mem_cons.mp he' with rfl | z
        · exact s2
        · exact hx e' z) (fun q hq => by
        rcases List.mem_cons.mp hq with rfl | z
        · exact s1
        · exact hr q z)
      intro e' he'
      rcases List.mem_cons.mp he' with rfl | z
      · exact s2
      · exact ih e' z
    · cases h
/-- nothing is cut off in the whole table -/
def xc_ok (tb : List xk_E) (ins : List (Nat × Int × Int)) : Bool := ins.all (fun q => decide (0 < q.1)) && (xa_run tb [] (xc_in ins)).isSome
theorem xc_ok_ex {tb : List xk_E} {ins : List (Nat × Int × Int)} (h : xc_ok tb ins = true) (ht : xk_tok Φ wd ρ tb) (hin : ∀ q ∈ ins, q.2.1 ≤ ρ q.1 ∧ ρ q.1 ≤ q.2.2) : ∀ e ∈ tb, xa_ex ρ e := by
  unfold xc_ok at h
  simp only [Bool.and_eq_true] at h
  obtain ⟨h1, h2⟩ := h
  obtain ⟨rs, hrs⟩ := Option.isSome_iff_exists.mp h2
  exact xa_run_ex hrs ht (fun e he => by cases he) (xc_in_ok fun q hq => ⟨of_decide_eq_true (List.all_eq_true.mp h1 q hq), hin q hq⟩)
end XAE
theorem xc_zero {x y : Int} (h : (0 : Int) ∣ x - y) : x = y := by
  obtain ⟨k, hk⟩ := h
  rw [Int.zero_mul] at hk
  omega
def kn_bv : List Int → Int
  | [] => 0
  | a :: t => a + 256 * kn_bv t
def kn_dig : Nat → Int → List Int
  | 0, _ => []
  | n + 1, v => v % 256 :: kn_dig n (v / 256)
theorem kn_dig_ok : ∀ {l : List Int}, (∀ a ∈ l, 0 ≤ a ∧ a ≤ 255) → l = kn_dig l.length (kn_bv l)
  | [], _ => rfl
  | a :: t, h => by
    have ha := h a List.mem_cons_self
    have ih := kn_dig_ok (l := t) fun b hb => h b (List.mem_cons_of_mem _ hb)
    show a :: t = (a + 256 * kn_bv t) % 256 :: kn_dig t.length ((a + 256 * kn_bv t) / 256)
    have e1 : (a + 256 * kn_bv t) % 256 = a := by omega
    have e2 : (a + 256 * kn_bv t) / 256 = kn_bv t := by omega
    rw [e1, e2, ← ih]
/-- weights of bytes -/
def kn_es : Nat → Nat → List Nat
  | 0, _ => []
  | n + 1, k => 8 * k :: kn_es n (k + 1)
theorem kn_es_ok : ∀ (l : List Int) (k : Nat), xc_val l (kn_es l.length k) = ((2 ^ (8 * k) : Nat) : Int) * kn_bv l
  | [], k => by show (0 : Int) = _ * 0; omega
  | a :: t, k => by
    show ((2 ^ (8 * k) : Nat) : Int) * a + xc_val t (kn_es t.length (k + 1)) = ((2 ^ (8 * k) : Nat) : Int) * (a + 256 * kn_bv t)
    rw [kn_es_ok t (k + 1)]
    have e : ((2 ^ (8 * (k + 1)) : Nat) : Int) = ((2 ^ (8 * k) : Nat) : Int) * 256 := by
      rw [Nat.mul_add, Nat.pow_add, Int.natCast_mul]
      rfl
    rw [e, Int.mul_add, Int.mul_assoc]
theorem xc_val_snoc : ∀ {l : List Int} {es : List Nat} {a : Int} {e : Nat}, l.length = es.length → xc_val (l ++ [a]) (es ++ [e]) = xc_val l es + ((2 ^ e : Nat) : Int) * a
  | [], [], a, e, _ => by show ((2 ^ e : Nat) : Int) * a + 0 = 0 + _; omega
  | x :: t, y :: u, a, e, h => by
    show ((2 ^ y : Nat) : Int) * x + xc_val (t ++ [a]) (u ++ [e]) = ((2 ^ y : Nat) : Int) * x + xc_val t u + _
    rw [xc_val_snoc (by simpa using h)]
    omega
  | [], y :: u, _, _, h => by simp at h
  | x :: t, [], _, _, h => by simp at h
def kn_bit (y : Int) (j : Nat) : Int := y / ((2 ^ j : Nat) : Int) % 2
theorem kn_mod2 {y m : Int} (hm : 0 < m) : y % (m * 2) = y % m + m * (y / m % 2) := by
  have e1 : m * (y / m) + y % m = y := Int.mul_ediv_add_emod y m
  have e2 : y / m = 2 * (y / m / 2) + y / m % 2 := by omega
  have hr0 := Int.emod_nonneg y (show m ≠ 0 by omega)
  have hr1 := Int.emod_lt_of_pos y hm
  generalize hq : y / m = q at *
  generalize hr : y % m = r at *
  have hb : q % 2 = 0 ∨ q % 2 = 1 := by omega
  have e3 : y = r + m * (q % 2) + m * 2 * (q / 2) := by
    rw [← e1]
    have : m * q = m * (q % 2) + m * 2 * (q / 2) := by
      rw [Int.mul_assoc, ← Int.mul_add]
      congr 1
      omega
    omega
  rw [e3, Int.add_mul_emod_self_left]
  apply Int.emod_eq_of_lt
  · rcases hb with z | z <;> rw [z] <;> omega
  · rcases hb with z | z <;> rw [z] <;> omega
theorem kn_bits (y : Int) : ∀ n : Nat, xc_val ((List.range n).map (kn_bit y)) (List.range n) = y % ((2 ^ n : Nat) : Int)
  | 0 => by
    show (0 : Int) = y % 1
    omega
  | n + 1 => by
    rw [List.range_succ, List.map_append]
    show xc_val ((List.range n).map (kn_bit y) ++ [kn_bit y n]) _ = _
    rw [xc_val_snoc (by simp), kn_bits y n]
    have e : ((2 ^ (n + 1) : Nat) : Int) = ((2 ^ n : Nat) : Int) * 2 := by rw [Nat.pow_succ, Int.natCast_mul]; rfl
    have hp : (0 : Int) < ((2 ^ n : Nat) : Int) := by
      have := Nat.two_pow_pos n
      omega
    rw [e, kn_mod2 hp]
    rfl
theorem kn_and1 {v : Int} (h0 : 0 ≤ v) (h1 : v ≤ 9223372036854775807) : xk_sem 23 [v, 1] = v % 2 := by
  show (Int64.ofInt v &&& Int64.ofInt 1).toInt = v % 2
  have e : (Int64.ofInt v).toInt = v := ck_ofInt64 (by omega) (by omega)
  have n1 := xa_nat64 (x := Int64.ofInt v) (by rw [e]; exact h0)
  rw [e] at n1
  have n2 : (Int64.ofInt v &&& Int64.ofInt 1).toBitVec.toNat = (Int64.ofInt v).toBitVec.toNat % 2 := by
    rw [Int64.toBitVec_and, BitVec.toNat_and]
    show (Int64.ofInt v).toBitVec.toNat &&& 1 = _
    exact Nat.and_one_is_mod _
  rw [xa_ofnat64 n2 (by omega)]
  omega
/-- the number that 32 bytes are, but for the last bit -/
def kn_num (P : List Int) : Int := xc_val ((List.range 255).map (fun i => kb_x i (P.getD (i / 8) 0))) (List.range 255)
def kn_by (P : List Int) : Prop := P.length = 32 ∧ ∀ a ∈ P, 0 ≤ a ∧ a ≤ 255
theorem kn_by.get {P : List Int} (h : kn_by P) (i : Nat) : 0 ≤ P.getD i 0 ∧ P.getD i 0 ≤ 255 := by
  rw [List.getD_eq_getElem?_getD]
  by_cases hi : i < P.length
  · rw [List.getElem?_eq_getElem hi]
    exact h.2 _ (List.getElem_mem hi)
  · rw [List.getElem?_eq_none (by omega)]
    exact ⟨by decide, by decide⟩
/-- the ladder's outcome -/
def kn_q (B P : List Int) : Int × Int × Int × Int := xl_it (kn_num P) (fun j => B.getD j 0) 255 (1, 0, kn_num P, 1)
def kn_res (B P : List Int) : Int := (kn_q B P).1 * xl_inv (kn_q B P).2.1 254 (kn_q B P).2.1
def kn_ans (B P : List Int) : List Int := kn_dig 32 (kn_res B P % xc_p)
theorem xl_cg_mod {x y : Int} (h : xl_cg x y) : x % xc_p = y % xc_p := by
  obtain ⟨k, hk⟩ := h
  have : x = y + xc_p * k := by omega
  rw [this, Int.add_mul_emod_self_left]
