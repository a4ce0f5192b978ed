/-! ===== functions by tables: there are such ones ===== -/
theorem xk_val_congr {Φ Φ' : Nat → Nat → List Int → Int} {wd : Nat → Nat} : ∀ {tb : List xk_E} {ρ : Nat → Int}, (∀ e ∈ tb, ¬ e.2.1 < 1000 → Φ (e.2.1 - 1000) = Φ' (e.2.1 - 1000)) → xk_val Φ wd tb ρ = xk_val Φ' wd tb ρ
  | [], ρ, _ => rfl
  | (b, op, a) :: t, ρ, h => by
    unfold xk_val
    have h1 := h (b, op, a) List.mem_cons_self
    dsimp only at h1
    by_cases hop : op < 1000
    · rw [if_pos hop, if_pos hop]
      exact xk_val_congr fun e he => h e (List.mem_cons_of_mem _ he)
    · rw [if_neg hop, if_neg hop, h1 hop]
      exact xk_val_congr fun e he => h e (List.mem_cons_of_mem _ he)
theorem xk_fn_congr {Φ Φ' : Nat → Nat → List Int → Int} {wd : Nat → Nat} {tb : List xk_E} {n : Nat} {ag : List Nat} (h : ∀ e ∈ tb, ¬ e.2.1 < 1000 → Φ (e.2.1 - 1000) = Φ' (e.2.1 - 1000)) : xk_fn Φ wd tb n ag = xk_fn Φ' wd tb n ag := by
  funext r inp
  unfold xk_fn
  rw [xk_val_congr h]
/-- a function by its table, or as it is -/
abbrev xk_TB : Type := Nat → xk_G ⊕ (Nat → List Int → Int)
def xk_Φk (TB : xk_TB) (wd : Nat → Nat) : Nat → Nat → Nat → List Int → Int
  | 0, _, _, _ => 0
  | k + 1, t, r, inp => match TB t with
    | .inl q => xk_fn (xk_Φk TB wd k) wd q.2.2 q.1 q.2.1 r inp
    | .inr f => f r inp
def xk_Φ (TB : xk_TB) (wd : Nat → Nat) : Nat → Nat → List Int → Int := fun t => xk_Φk TB wd (t + 1) t
/-- only earlier ones are called -/
def xk_low (TB : xk_TB) : Prop := ∀ t, match TB t with
  | .inl q => ∀ e ∈ q.2.2, ¬ e.2.1 < 1000 → e.2.1 - 1000 < t
  | .inr _ => True
theorem xk_Φk_eq {TB : xk_TB} {wd : Nat → Nat} (hl : xk_low TB) : ∀ (t k k' : Nat), t < k → t < k' → xk_Φk TB wd k t = xk_Φk TB wd k' t := by
  intro t
  induction t using Nat.strongRecOn with
  | ind t ih =>
    intro k k' h1 h2
    obtain ⟨k, rfl⟩ : ∃ j, k = j + 1 := ⟨k - 1, by omega⟩
    obtain ⟨k', rfl⟩ : ∃ j, k' = j + 1 := ⟨k' - 1, by omega⟩
    funext r inp
    unfold xk_Φk
    have hlt := hl t
    split
    · rename_i q hq
      rw [hq] at hlt
      dsimp only at hlt
      rw [xk_fn_congr fun e he hop => ih _ (hlt e he hop) k k' (by have := hlt e he hop; omega) (by have := hlt e he hop; omega)]
    · rfl
theorem xk_Φ_ok {TB : xk_TB} {wd : Nat → Nat} (hl : xk_low TB) {t : Nat} {q : xk_G} (hq : TB t = .inl q) (r : Nat) (inp : List Int) : xk_Φ TB wd t r inp = xk_fn (xk_Φ TB wd) wd q.2.2 q.1 q.2.1 r inp := by
  show xk_Φk TB wd (t + 1) t r inp = _
  unfold xk_Φk
  rw [hq]
  dsimp only
  have hlt := hl t
  rw [hq] at hlt
  dsimp only at hlt
  exact congrFun (congrFun (xk_fn_congr (Φ' := xk_Φ TB wd) fun e he hop => xk_Φk_eq hl (e.2.1 - 1000) t (e.2.1 - 1000 + 1) (hlt e he hop) (Nat.lt_succ_self _)) r) inp
theorem xk_Φ_in {TB : xk_TB} {wd : Nat → Nat} {t : Nat} {f : Nat → List Int → Int} (hq : TB t = .inr f) (r : Nat) (inp : List Int) : xk_Φ TB wd t r inp = f r inp := by
  unfold xk_Φ xk_Φk
  rw [hq]
/-- a run's table -/
def xk_tb (o : Option xk_X) : List xk_E := match o with
  | some y => y.2.2.2.2.1.reverse
  | none => []
def xk_go (E : ck_E) (ms : List ck_MM) (cts : List xk_Q) (cod : List (List (Nat × Instr × Nat))) (M : ck_M) (wd : Nat → Nat) (stops : List Nat) (f : Nat) (K : xk_K) : Option xk_X := xk_run E ms cts cod M.2.2.1 K.2.2.2.2.2.1 K.2.2.2.2.2.2 M.1.name wd stops f (0, xk_largs 0 K.1, [], K.2.1, [], K.2.2.2.2.1.2.1 + 1)
def xi (n k : Nat) : List xk_V := (List.range k).map (fun i => (0, n + i, 0))
def xl (n k : Nat) : List xk_V := (List.range k).map (fun i => (1, n + i, 0))
def xn (n k : Nat) : List Nat := (List.range k).map (fun i => n + i)
/-- all that a contract needs, by a run -/
def xk_all1 (E : ck_E) (ms : List ck_MM) (cts : List xk_Q) (cod : List (List (Nat × Instr × Nat))) (M : ck_M) (wd : Nat → Nat) (stops : List Nat) (f : Nat) (K : xk_K) (tb : List xk_E) : Bool :=
  xk_meth E ms cts cod M wd stops f K tb && K.2.1.all (fun c => c.2.all (fun v => decide (v.1 < 2 → v.2.1 ≤ K.2.2.2.2.1.2.1))) && K.1.all (xk_lw K.2.2.2.2.1.2.1) && xk_gd wd K
/-- it may be called -/
def xk_Cd (l : Launch) (Φ : Nat → Nat → List Int → Int) (wd : Nat → Nat) (nb : Nat × Nat) (M : ck_M) (K : xk_K) : Prop := xk_Ok l Φ nb M K ∧ xk_gd wd K = true ∧ K.2.1.all (fun c => c.2.all (fun v => decide (v.1 < 2 → v.2.1 ≤ K.2.2.2.2.1.2.1))) = true
def xk_Cts (l : Launch) (Φ : Nat → Nat → List Int → Int) (wd : Nat → Nat) (nb : Nat × Nat) (ms : List ck_MM) (cts : List xk_Q) : Prop := ∀ q ∈ cts, ∃ M' : ck_MM, ms[q.1]? = some M' ∧ xk_Ok l Φ nb M'.1 q.2.2 ∧ xk_gd wd q.2.2 = true ∧ q.2.2.2.1.all (fun c => c.2.all (fun v => decide (v.1 < 2 → v.2.1 ≤ q.2.2.2.2.2.2.1.2.1))) = true
theorem xk_Cts.nil {l : Launch} {Φ : Nat → Nat → List Int → Int} {wd : Nat → Nat} {nb : Nat × Nat} {ms : List ck_MM} : xk_Cts l Φ wd nb ms [] := fun q hq => by cases hq
theorem xk_Cts.one {l : Launch} {Φ : Nat → Nat → List Int → Int} {wd : Nat → Nat} {nb : Nat × Nat} {ms : List ck_MM} {cts : List xk_Q} {i : Nat} {ky : Nat × Int} {M : ck_MM} {K : xk_K} (hM : ms[i]? = some M) (h : xk_Cd l Φ wd nb M.1 K) (ht : xk_Cts l Φ wd nb ms cts) : xk_Cts l Φ wd nb ms ((i, ky, K) :: cts) := fun q hq => by
  rcases List.mem_cons.mp hq with rfl | hq
  · exact ⟨M, hM, h.1, h.2.1, h.2.2⟩
  · exact ht q hq
theorem xk_Cts.fam {l : Launch} {Φ : Nat → Nat → List Int → Int} {wd : Nat → Nat} {nb : Nat × Nat} {ms : List ck_MM} {cts : List xk_Q} {i n : Nat} {ky : Nat → Nat × Int} {M : ck_MM} {K : Nat → xk_K} (hM : ms[i]? = some M) (h : ∀ c, c < n → xk_Cd l Φ wd nb M.1 (K c)) (ht : xk_Cts l Φ wd nb ms cts) : xk_Cts l Φ wd nb ms ((List.range n).map (fun c => (i, ky c, K c)) ++ cts) := fun q hq => by
  rcases List.mem_append.mp hq with hq | hq
  · obtain ⟨c, hc, rfl⟩ := List.mem_map.mp hq
    have := h c (List.mem_range.mp hc)
    exact ⟨M, hM, this.1, this.2.1, this.2.2⟩
  · exact ht q hq
theorem xk_done2 {l : Launch} {Φ : Nat → Nat → List Int → Int} {wd : Nat → Nat} {nb : Nat × Nat} {E : ck_E} {ms : List ck_MM} {cts : List xk_Q} {cod : List (List (Nat × Instr × Nat))} {M : ck_M} {stops : List Nat} {f : Nat} {K : xk_K} {tb : List xk_E} (h : xk_all1 E ms cts cod M wd stops f K tb = true) (hΦ : ∀ r inp, Φ K.2.2.2.2.1.1 r inp = xk_fn Φ wd tb K.2.2.2.2.1.2.1 K.2.2.2.2.1.2.2 r inp)
    (hE : ck_Eok ms E) (hEM : E.1 = M.1.cls) (hms : ∀ q ∈ ms, ck_Mok q) (hcts : xk_Cts l Φ wd nb ms cts) (hg : ck_Glob) (hcod : ∀ pc i n, ck_cdAt cod pc = some (i, n) → decode M.2.1 pc = .ok (i, n)) : xk_Cd l Φ wd nb M K := by
  unfold xk_all1 at h
  simp only [Bool.and_eq_true] at h
  obtain ⟨⟨⟨h1, h2⟩, h3⟩, h4⟩ := h
  exact ⟨xk_done h1 h2 h3 hΦ hE hEM hms hcts hg hcod, h4, h2⟩
def kP (Φ : Nat → Nat → List Int → Int) (wd : Nat → Nat) (t n : Nat) (ag : List Nat) (tb : List xk_E) : Prop := ∀ r inp, Φ t r inp = xk_fn Φ wd tb n ag r inp
