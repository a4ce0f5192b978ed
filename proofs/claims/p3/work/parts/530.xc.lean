/-! ===== the curve: what a table is worth, mod p ===== -/
def xc_val : List Int → List Nat → Int
  | v :: t, e :: u => ((2 ^ e : Nat) : Int) * v + xc_val t u
  | _, _ => 0
def xa_sum (rs : xa_S) : List Nat → List Nat → Option xa_P
  | g :: t, e :: u => (match ck_lk rs g, xa_sum rs t u with
    | some r, some q => some (xa_add (xa_scl ((2 ^ e : Nat) : Int) r.2.2) q)
    | _, _ => none)
  | _, _ => some []
theorem xa_sum_ok {ρ : Nat → Int} {rs : xa_S} (h : xa_ok rs ρ) : ∀ {ns es : List Nat} {q : xa_P}, xa_sum rs ns es = some q → xa_e ρ q = xc_val (ns.map ρ) es
  | [], es, q, hs => by
    have hs : some [] = some q := by cases es <;> exact hs
    cases hs
    rfl
  | g :: t, [], q, hs => by
    have hs : some [] = some q := hs
    cases hs
    rfl
  | g :: t, e :: u, q, hs => by
    unfold xa_sum at hs
    split at hs
    · rename_i r q' hr hq
      cases hs
      rw [xa_add_ok, xa_scl_ok, xa_sum_ok h hq, ← (h _ (ck_lk_mem hr)).2.2]
      rfl
    · cases hs
/-- the weighted sum of nodes that came in -/
def xa_lin : List Nat → List Nat → xa_P
  | g :: t, e :: u => xa_add [(g * 4096, ((2 ^ e : Nat) : Int))] (xa_lin t u)
  | _, _ => []
theorem xa_m1 (ρ : Nat → Int) {g : Nat} (h : 0 < g) : xa_m ρ (g * 4096) = ρ g := by
  unfold xa_m
  rw [Nat.mul_div_cancel _ (by omega), Nat.mul_mod_left]
  unfold xa_v
  rw [if_neg (by omega), if_pos rfl, Int.mul_one]
theorem xa_lin_ok (ρ : Nat → Int) : ∀ {ns es : List Nat}, (∀ g ∈ ns, 0 < g) → xa_e ρ (xa_lin ns es) = xc_val (ns.map ρ) es
  | [], es, _ => by cases es <;> rfl
  | g :: t, [], _ => rfl
  | g :: t, e :: u, h => by
    unfold xa_lin
    rw [xa_add_ok, xa_lin_ok ρ fun g hg => h g (List.mem_cons_of_mem _ hg)]
    show ((2 ^ e : Nat) : Int) * xa_m ρ (g * 4096) + 0 + _ = _
    rw [xa_m1 ρ (h g List.mem_cons_self), Int.add_zero]
    rfl
def xa_dvd (m : Int) (q : xa_P) : Bool := q.all (fun c => decide (c.2 % m = 0))
theorem xa_dvd_ok (ρ : Nat → Int) {m : Int} : ∀ {q : xa_P}, xa_dvd m q = true → m ∣ xa_e ρ q
  | [], _ => Int.dvd_zero m
  | (c, k) :: t, h => by
    unfold xa_dvd at h
    simp only [List.all_cons, Bool.and_eq_true, decide_eq_true_eq] at h
    exact Int.dvd_add (Int.dvd_mul_of_dvd_left (Int.dvd_of_emod_eq_zero h.1)) (xa_dvd_ok ρ (by unfold xa_dvd; exact h.2))
/-- what comes in lies between bounds -/
def xc_in : List (Nat × Int × Int) → xa_S
  | [] => []
  | (g, lo, hi) :: t => (g, lo, hi, [(g * 4096, 1)]) :: xc_in t
theorem xc_in_ok {ρ : Nat → Int} : ∀ {l : List (Nat × Int × Int)}, (∀ q ∈ l, 0 < q.1 ∧ q.2.1 ≤ ρ q.1 ∧ ρ q.1 ≤ q.2.2) → xa_ok (xc_in l) ρ
  | [], _ => fun q hq => by cases hq
  | (g, lo, hi) :: t, h => fun q hq => by
    rcases List.mem_cons.mp hq with rfl | hq
    · obtain ⟨h1, h2, h3⟩ := h (g, lo, hi) List.mem_cons_self
      refine ⟨h2, h3, ?_⟩
      show ρ g = 1 * xa_m ρ (g * 4096) + 0
      rw [xa_m1 ρ h1, Int.one_mul, Int.add_zero]
    · exact xc_in_ok (fun q hq => h q (List.mem_cons_of_mem _ hq)) q hq
/-- a table's outcome: its weighted sum is what it should be, but for a multiple of m; and its bounds -/
def xc_ck (tb : List xk_E) (ins : List (Nat × Int × Int)) (outs : List (Nat × Int × Int)) (es : List Nat) (m : Int) (want : Option xa_P) : Bool := ins.all (fun q => decide (0 < q.1)) && (match xa_run tb [] (xc_in ins), want with
  | some rs, some w => (match xa_sum rs (outs.map Prod.fst) es with
    | some o => xa_dvd m (xa_add o (xa_scl (-1) w)) && outs.all (fun q => match ck_lk rs q.1 with
      | some r => decide (q.2.1 ≤ r.1) && decide (r.2.1 ≤ q.2.2)
      | none => false)
    | none => false)
  | _, _ => false)
theorem xc_ck_ok {Φ : Nat → Nat → List Int → Int} {wd : Nat → Nat} {ρ : Nat → Int} {tb : List xk_E} {ins outs : List (Nat × Int × Int)} {es : List Nat} {m : Int} {want : Option xa_P} (h : xc_ck tb ins outs es m want = true) (ht : xk_tok Φ wd ρ tb) (hin : ∀ q ∈ ins, q.2.1 ≤ ρ q.1 ∧ ρ q.1 ≤ q.2.2) : ∃ w, want = some w ∧ m ∣ xc_val ((outs.map Prod.fst).map ρ) es - xa_e ρ w ∧ ∀ q ∈ outs, q.2.1 ≤ ρ q.1 ∧ ρ q.1 ≤ q.2.2 := by
  unfold xc_ck at h
  simp only [Bool.and_eq_true] at h
  obtain ⟨h1, h⟩ := h
  split at h
  · rename_i rs w hrs
    have hok := xa_run_ok hrs ht (fun e he => by cases he) (xc_in_ok fun q hq => ⟨of_decide_eq_true (List.all_eq_true.mp h1 q hq), hin q hq⟩)
    split at h
    · rename_i o ho
      simp only [Bool.and_eq_true] at h
      obtain ⟨h2, h3⟩ := h
      refine ⟨w, rfl, ?_, fun q hq => ?_⟩
      · have := xa_dvd_ok ρ h2
        rw [xa_add_ok, xa_scl_ok, xa_sum_ok hok ho] at this
        have e : xc_val ((outs.map Prod.fst).map ρ) es - xa_e ρ w = xc_val ((outs.map Prod.fst).map ρ) es + -1 * xa_e ρ w := by omega
        rw [e]
        exact this
      · have := List.all_eq_true.mp h3 q hq
        split at this
        · rename_i r hr
          simp only [Bool.and_eq_true, decide_eq_true_eq] at this
          obtain ⟨a, b, _⟩ := hok _ (ck_lk_mem hr)
          dsimp only at a b
          omega
        · cases this
    · cases h
  · cases h
def xc_p : Int := 57896044618658097711785492504343953926634992332820282019728792003956564819949
def xc_E10 : List Nat := [0, 26, 51, 77, 102, 128, 153, 179, 204, 230]
def xc_E16 : List Nat := [0, 16, 32, 48, 64, 80, 96, 112, 128, 144, 160, 176, 192, 208, 224, 240]
/-- limbs from node n on, even ones up to k, odd ones up to half of it -/
def xc_b10 (n : Nat) (k : Int) : List (Nat × Int × Int) := (List.range 10).map (fun i => if i % 2 = 0 then (n + i, -k, k) else (n + i, -(k / 2), k / 2))
def xc_o10 (l : List xk_V) (k : Int) : List (Nat × Int × Int) := (List.range 10).map (fun i => if i % 2 = 0 then ((l.getD i (0, 0, 0)).2.1, -k, k) else ((l.getD i (0, 0, 0)).2.1, -(k / 2), k / 2))
