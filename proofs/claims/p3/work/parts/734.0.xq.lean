/-! ===== the reference: a number is brought to 0 .. p - 1 and written ===== -/
def xc_nd (tb : List xk_E) (ins : List (Nat × Int × Int)) (g : Nat) : Option xa_B := match xa_run tb [] (xc_in ins) with
  | some rs => ck_lk rs g
  | none => none
theorem xc_nd_ok {Φ : Nat → Nat → List Int → Int} {wd : Nat → Nat} {ρ : Nat → Int} {tb : List xk_E} {ins : List (Nat × Int × Int)} {g : Nat} {r : xa_B} (h : xc_nd tb ins g = some r) (h1 : ins.all (fun q => decide (0 < q.1)) = true) (ht : xk_tok Φ wd ρ tb) (hin : ∀ q ∈ ins, q.2.1 ≤ ρ q.1 ∧ ρ q.1 ≤ q.2.2) : xa_h ρ r (ρ g) := by
  unfold xc_nd at h
  split at h
  · rename_i rs hrs
    exact xa_run_ok hrs ht (fun e he => by cases he) (xc_in_ok fun q hq => ⟨of_decide_eq_true (List.all_eq_true.mp h1 q hq), hin q hq⟩) _ (ck_lk_mem h)
  · cases h
/-- sums of sixteen, weighed -/
def kp_sm (g : Nat → Int) : Nat → Int
  | 0 => 0
  | k + 1 => kp_sm g k + ((2 ^ (16 * k) : Nat) : Int) * g k
theorem kp_sm_le {g : Nat → Int} (h : ∀ k, 0 ≤ g k ∧ g k ≤ 65535 ∨ 16 ≤ k) : ∀ k, k ≤ 16 → 0 ≤ kp_sm g k ∧ kp_sm g k ≤ ((2 ^ (16 * k) : Nat) : Int) - 1
  | 0, _ => ⟨Int.le_refl _, by show (0 : Int) ≤ 1 - 1; decide⟩
  | k + 1, hk => by
    obtain ⟨a, b⟩ := kp_sm_le h k (by omega)
    have hg : 0 ≤ g k ∧ g k ≤ 65535 := by
      rcases h k with z | z
      · exact z
      · omega
    unfold kp_sm
    have e : ((2 ^ (16 * (k + 1)) : Nat) : Int) = ((2 ^ (16 * k) : Nat) : Int) * 65536 := by
      rw [Nat.mul_add, Nat.pow_add, Int.natCast_mul]
      rfl
    have hp : (0 : Int) < ((2 ^ (16 * k) : Nat) : Int) := by
      have := Nat.two_pow_pos (16 * k)
      omega
    rw [e]
    generalize ((2 ^ (16 * k) : Nat) : Int) = m at *
    have m1 : m * g k ≤ m * 65535 := Int.mul_le_mul_of_nonneg_left hg.2 (by omega)
    have m0 : 0 ≤ m * g k := Int.mul_nonneg (by omega) hg.1
    omega
theorem kp_sm_val (f : Nat → Int) : kp_sm f 16 = xc_val ((xn 0 16).map f) xc_E16 := by
  have key : ∀ k, k ≤ 16 → kp_sm f k = xc_val ((List.range k).map f) ((List.range k).map (fun j => 16 * j)) := by
    intro k
    induction k with
    | zero => intro _; rfl
    | succ k ih =>
      intro hk
      rw [List.range_succ, List.map_append, List.map_append]
      show _ = xc_val ((List.range k).map f ++ [f k]) ((List.range k).map (fun j => 16 * j) ++ [16 * k])
      rw [xc_val_snoc (by simp), ← ih (by omega)]
      rfl
  rw [key 16 (by omega)]
  rfl
/-- p's places -/
def kp_p (k : Nat) : Int := if k = 0 then 65517 else if k = 15 then 32767 else 65535
/-- once: what is taken away, what is borrowed -/
theorem kp_one {f p b v1 v c b' m d : Int} (hf : 0 ≤ f ∧ f ≤ 65535) (hp : 0 ≤ p ∧ p ≤ 65535) (hb : b = 0 ∨ b = 1) (e1 : v1 = xk_sem 21 [f, p]) (e2 : v = xk_sem 21 [v1, b]) (e3 : c = xk_sem 31 [v, 0]) (e4 : b' = xk_sem 43 [c, 0, 1, 0]) (e5 : m = xk_sem 22 [65536, b']) (e6 : d = xk_sem 20 [v, m]) : (b' = 0 ∨ b' = 1) ∧ 0 ≤ d ∧ d ≤ 65535 ∧ d = f - p - b + 65536 * b' := by
  have w : ∀ {n : Int}, -1000000000 ≤ n → n ≤ 1000000000 → (Int64.ofInt n).toInt = n := fun h1 h2 => ck_ofInt64 (by omega) (by omega)
  have hv1 : v1 = f - p := by
    rw [e1]
    show (Int64.ofInt f - Int64.ofInt p).toInt = _
    rw [Int64.toInt_sub, w (by omega) (by omega), w (by omega) (by omega)]
    exact xa_b64 (by omega) (by omega)
  have hv : v = f - p - b := by
    rw [e2, hv1]
    show (Int64.ofInt (f - p) - Int64.ofInt b).toInt = _
    rw [Int64.toInt_sub, w (by omega) (by omega), w (by omega) (by omega)]
    exact xa_b64 (by omega) (by omega)
  have hc : c = if (0 : Int) < v then 1 else if v = 0 then 0 else -1 := by rw [e3]; rfl
  have hb' : b' = if v < 0 then 1 else 0 := by
    have h : b' = if decide ((0 : Int) ≤ c) then 0 else 1 := by rw [e4]; rfl
    by_cases z : v < 0
    · have hc' : c = -1 := by rw [hc, if_neg (by omega), if_neg (by omega)]
      rw [if_pos z, h, hc']
      rfl
    · have hc' : (0 : Int) ≤ c := by
        rw [hc]
        split
        · decide
        · split
          · decide
          · omega
      rw [if_neg z, h, decide_eq_true hc']
      rfl
  have hbb : b' = 0 ∨ b' = 1 := by
    rw [hb']
    split
    · exact Or.inr rfl
    · exact Or.inl rfl
  have hm : m = 65536 * b' := by
    rw [e5]
    show (Int64.ofInt 65536 * Int64.ofInt b').toInt = _
    rw [Int64.toInt_mul, w (by omega) (by omega), w (by omega) (by omega)]
    exact xa_b64 (by omega) (by omega)
  have hd : d = v + m := by
    rw [e6]
    show (Int64.ofInt v + Int64.ofInt m).toInt = _
    rw [Int64.toInt_add, w (by omega) (by omega), w (by omega) (by omega)]
    exact xa_b64 (by omega) (by omega)
  refine ⟨hbb, ?_, ?_, by omega⟩
  · rw [hd, hm, hb']
    split <;> omega
  · rw [hd, hm, hb']
    split <;> omega
/-- the whole of it -/
theorem kp_chain {f N : Nat → Int} (hf : ∀ k, k < 16 → 0 ≤ f k ∧ f k ≤ 65535) (e1 : ∀ k, k < 16 → N (6 * k) = xk_sem 21 [f k, kp_p k]) (e2 : ∀ k, k < 16 → N (6 * k + 1) = xk_sem 21 [N (6 * k), if k = 0 then 0 else N (6 * (k - 1) + 3)]) (e3 : ∀ k, k < 16 → N (6 * k + 2) = xk_sem 31 [N (6 * k + 1), 0]) (e4 : ∀ k, k < 16 → N (6 * k + 3) = xk_sem 43 [N (6 * k + 2), 0, 1, 0]) (e5 : ∀ k, k < 16 → N (6 * k + 4) = xk_sem 22 [65536, N (6 * k + 3)]) (e6 : ∀ k, k < 16 → N (6 * k + 5) = xk_sem 20 [N (6 * k + 1), N (6 * k + 4)]) :
    (N 93 = 0 ∨ N 93 = 1) ∧ (∀ k, k < 16 → 0 ≤ N (6 * k + 5) ∧ N (6 * k + 5) ≤ 65535) ∧ kp_sm (fun k => N (6 * k + 5)) 16 = kp_sm f 16 - xc_p + ((2 ^ 256 : Nat) : Int) * N 93 := by
  have key : ∀ k, k ≤ 16 → ((if k = 0 then 0 else N (6 * (k - 1) + 3)) = 0 ∨ (if k = 0 then 0 else N (6 * (k - 1) + 3)) = 1) ∧ (∀ i, i < k → 0 ≤ N (6 * i + 5) ∧ N (6 * i + 5) ≤ 65535) ∧ kp_sm (fun k => N (6 * k + 5)) k = kp_sm f k - kp_sm kp_p k + ((2 ^ (16 * k) : Nat) : Int) * (if k = 0 then 0 else N (6 * (k - 1) + 3)) := by
    intro k
    induction k with
    | zero => intro _; exact ⟨Or.inl rfl, fun i hi => by omega, rfl⟩
    | succ k ih =>
      intro hk
      obtain ⟨h1, h2, h3⟩ := ih (by omega)
      have hpk : 0 ≤ kp_p k ∧ kp_p k ≤ 65535 := by
        unfold kp_p
        split
        · exact ⟨by decide, by decide⟩
        · split
          · exact ⟨by decide, by decide⟩
          · exact ⟨by decide, by decide⟩
      obtain ⟨g1, g2, g3, g4⟩ := kp_one (hf k (by omega)) hpk h1 (e1 k (by omega)) (e2 k (by omega)) (e3 k (by omega)) (e4 k (by omega)) (e5 k (by omega)) (e6 k (by omega))
      rw [if_neg (Nat.succ_ne_zero k), Nat.add_sub_cancel]
      refine ⟨g1, fun i hi => ?_, ?_⟩
      · by_cases e : i = k
        · subst e
          exact ⟨g2, g3⟩
        · exact h2 i (by omega)
      · have u1 : kp_sm (fun k => N (6 * k + 5)) (k + 1) = kp_sm (fun k => N (6 * k + 5)) k + ((2 ^ (16 * k) : Nat) : Int) * N (6 * k + 5) := rfl
        have u2 : kp_sm f (k + 1) = kp_sm f k + ((2 ^ (16 * k) : Nat) : Int) * f k := rfl
        have u3 : kp_sm kp_p (k + 1) = kp_sm kp_p k + ((2 ^ (16 * k) : Nat) : Int) * kp_p k := rfl
        have e : ((2 ^ (16 * (k + 1)) : Nat) : Int) = ((2 ^ (16 * k) : Nat) : Int) * 65536 := by
          rw [Nat.mul_add, Nat.pow_add, Int.natCast_mul]
          rfl
        rw [u1, u2, u3, e, h3, g4]
        generalize ((2 ^ (16 * k) : Nat) : Int) = m
        generalize (if k = 0 then 0 else N (6 * (k - 1) + 3)) = b
        generalize N (6 * k + 3) = b'
        generalize f k = x
        generalize kp_p k = y
        rw [Int.mul_add, Int.mul_sub, Int.mul_sub, Int.mul_assoc]
        omega
  obtain ⟨h1, h2, h3⟩ := key 16 (Nat.le_refl _)
  refine ⟨h1, h2, ?_⟩
  rw [h3]
  have : kp_sm kp_p 16 = xc_p := by decide
  rw [this]
  rfl
/-- places between 0 and 65535, and their number -/
def kp_D (f : List Int) (v : Int) : Prop := f.length = 16 ∧ (∀ a ∈ f, 0 ≤ a ∧ a ≤ 65535) ∧ xc_val f xc_E16 = v
def kp_ci : List (Nat × Int × Int) := xc_b16 1
def kp_co : List (Nat × Int × Int) := (321, -100000, 100000) :: (List.range 15).map (fun i => (263 + 4 * i, 0, 65535))
theorem kp_cck : xc_ck kr_carry0_g kp_ci kp_co xc_E16 0 (some (xa_add (xa_lin (xn 1 16) xc_E16) [(317 * 4096, 38 - 115792089237316195423570985008687907853269984665640564039457584007913129639936)])) = true := by decide +kernel
theorem kp_cok : xc_ok kr_carry0_g kp_ci = true := by decide +kernel
def kp_oc : List Nat := 64 :: (List.range 15).map (fun i => 6 + 4 * i)
def kp_r259 : xa_B := (xc_nd kr_carry0_g kp_ci 259).getD (0, 0, [])
def kp_r320 : xa_B := (xc_nd kr_carry0_g kp_ci 320).getD (0, 0, [])
theorem kp_n259 : xc_nd kr_carry0_g kp_ci 259 = some kp_r259 := by decide +kernel
theorem kp_n320 : xc_nd kr_carry0_g kp_ci 320 = some kp_r320 := by decide +kernel
theorem kp_b259 : kp_r259.1 = 0 ∧ kp_r259.2.1 = 65535 := by decide +kernel
theorem kp_b320 : kp_r320.2.2 = [(317 * 4096, 38)] := by decide +kernel
theorem kp_e321 {ν : Nat → Int} (hx : ∀ e ∈ kr_carry0_g, xa_ex ν e) : ν 321 = ν 259 + ν 320 := hx (321, 20, [(259, 0), (320, 0)]) (List.mem_of_getElem? (i := 64) rfl)
theorem kp_e320 {ν : Nat → Int} (h : xa_h ν kp_r320 (ν 320)) : ν 320 = 38 * ν 317 := by
  rw [h.2.2, kp_b320]
  show 38 * xa_m ν (317 * 4096) + 0 = _
  rw [xa_m1 ν (by decide), Int.add_zero]
theorem kp_wv {ν : Nat → Int} : xa_e ν [(317 * 4096, 38 - 115792089237316195423570985008687907853269984665640564039457584007913129639936)] = (38 - ((2 ^ 256 : Nat) : Int)) * ν 317 := by
  show (38 - 115792089237316195423570985008687907853269984665640564039457584007913129639936) * xa_m ν (317 * 4096) + 0 = _
  rw [xa_m1 ν (by decide), Int.add_zero]
  rfl
