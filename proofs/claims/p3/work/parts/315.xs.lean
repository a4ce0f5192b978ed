/-! ===== two tables that are one but for their numbers; a function's table in its place ===== -/
/-- numbers of one table in the other: those that came in, and the others by a step -/
def xs_rn (n : Nat) (ag : List xk_O) (n2 : Nat) (o : xk_O) : xk_O := if o.1 = 0 then o else if o.1 ≤ n then ag.getD (o.1 - 1) (0, 0) else (n2 + (o.1 - n), 0)
def xs_re (n : Nat) (ag : List xk_O) (n2 : Nat) (e : xk_E) : xk_E := (n2 + (e.1 - n), e.2.1, e.2.2.map (xs_rn n ag n2))
/-- one node behind the other, from lo on; no calls -/
def xs_c : Nat → List xk_E → Bool
  | _, [] => true
  | lo, (b, op, a) :: t => decide (b = lo) && decide (op < 1000) && a.all (fun o => decide (o.1 < b)) && xs_c (lo + 1) t
section XS
variable {Φ : Nat → Nat → List Int → Int} {wd : Nat → Nat}
theorem xs_rn_lt {n n2 : Nat} {ag : List xk_O} (hag : ag.all (fun o => decide (o.1 ≤ n2)) = true) {lo : Nat} {o : xk_O} (hn : n < lo) (ho : o.1 < lo) : (xs_rn n ag n2 o).1 < n2 + (lo - n) := by
  unfold xs_rn
  split
  · omega
  · split
    · rw [List.getD_eq_getElem?_getD]
      cases hg : ag[o.1 - 1]? with
      | none => show (0 : Nat) < _; omega
      | some v =>
        have := of_decide_eq_true (List.all_eq_true.mp hag v (List.mem_of_getElem? hg))
        show v.1 < _
        omega
    · show n2 + (o.1 - n) < _
      omega
theorem xs_val {n n2 : Nat} {ag : List xk_O} (hag : ag.all (fun o => decide (o.1 ≤ n2)) = true) : ∀ {A : List xk_E} {lo : Nat} {ν ν2 : Nat → Int}, xs_c lo A = true → n < lo → (∀ o : xk_O, o.1 < lo → xk_ov ν2 (xs_rn n ag n2 o) = xk_ov ν o) →
    (∀ o : xk_O, o.1 < lo + A.length → xk_ov (xk_val Φ wd (A.map (xs_re n ag n2)) ν2) (xs_rn n ag n2 o) = xk_ov (xk_val Φ wd A ν) o) ∧ (∀ g, g < n2 + (lo - n) ∨ n2 + (lo - n) + A.length ≤ g → xk_val Φ wd (A.map (xs_re n ag n2)) ν2 g = ν2 g)
  | [], lo, ν, ν2, _, _, h => ⟨fun o ho => h o (by simpa using ho), fun g _ => rfl⟩
  | (b, op, a) :: t, lo, ν, ν2, hc, hn, h => by
    unfold xs_c at hc
    simp only [Bool.and_eq_true, decide_eq_true_eq] at hc
    obtain ⟨⟨⟨rfl, c2⟩, c3⟩, c4⟩ := hc
    have hargs : (a.map (xs_rn n ag n2)).map (xk_ov ν2) = a.map (xk_ov ν) := by
      rw [List.map_map]
      exact List.map_congr_left fun o ho => h o (of_decide_eq_true (List.all_eq_true.mp c3 o ho))
    have e1 : xk_val Φ wd ((b, op, a) :: t) ν = xk_val Φ wd t (fun g => if g = b then xk_sem op (a.map (xk_ov ν)) else ν g) := by
      show xk_val Φ wd t _ = _
      rw [if_pos c2]
    have e2 : xk_val Φ wd (((b, op, a) :: t).map (xs_re n ag n2)) ν2 = xk_val Φ wd (t.map (xs_re n ag n2)) (fun g => if g = n2 + (b - n) then xk_sem op (a.map (xk_ov ν)) else ν2 g) := by
      show xk_val Φ wd (t.map (xs_re n ag n2)) (if op < 1000 then fun g => if g = n2 + (b - n) then xk_sem op ((a.map (xs_rn n ag n2)).map (xk_ov ν2)) else ν2 g else _) = _
      rw [if_pos c2, hargs]
    have hstep : ∀ o : xk_O, o.1 < b + 1 → xk_ov (fun g => if g = n2 + (b - n) then xk_sem op (a.map (xk_ov ν)) else ν2 g) (xs_rn n ag n2 o) = xk_ov (fun g => if g = b then xk_sem op (a.map (xk_ov ν)) else ν g) o := by
      intro o ho
      by_cases hb : o.1 = b
      · have er : xs_rn n ag n2 o = (n2 + (b - n), 0) := by
          unfold xs_rn
          rw [if_neg (by omega), if_neg (by omega), hb]
        rw [er]
        unfold xk_ov
        dsimp only
        rw [if_neg (by omega), if_pos rfl, if_neg (by omega), if_pos hb]
      · have h0 := h o (by omega)
        have hl := xs_rn_lt hag hn (show o.1 < b by omega)
        unfold xk_ov at h0 ⊢
        dsimp only
        rw [if_neg (show ¬ (xs_rn n ag n2 o).1 = n2 + (b - n) by omega), if_neg hb]
        exact h0
    obtain ⟨i1, i2⟩ := xs_val hag (lo := b + 1) c4 (by omega) hstep
    rw [e1, e2]
    refine ⟨fun o ho => i1 o (by simp at ho; omega), fun g hg => ?_⟩
    simp only [List.length_cons] at hg
    rw [i2 g (by omega)]
    rw [if_neg (by omega)]
/-- the same function -/
theorem xs_fn {n n2 : Nat} {ag : List xk_O} {A B : List xk_E} {ag1 ag2 : List Nat} {inp inp2 : List Int} {r : Nat} (hag : ag.all (fun o => decide (o.1 ≤ n2)) = true) (hc : xs_c (n + 1) A = true) (hB : B = A.map (xs_re n ag n2)) (hin : ∀ g, 0 < g → g ≤ n → xk_ov (fun g => xk_pos ag2 inp2 g) (ag.getD (g - 1) (0, 0)) = xk_pos ag1 inp g) (hr : r < A.length) : xk_fn Φ wd A n ag1 r inp = xk_fn Φ wd B n2 ag2 r inp2 := by
  unfold xk_fn
  have := (xs_val (Φ := Φ) (wd := wd) (ν := fun g => xk_pos ag1 inp g) (ν2 := fun g => xk_pos ag2 inp2 g) hag hc (Nat.lt_succ_self n) (fun o ho => by
    unfold xs_rn
    split
    · rename_i h0; unfold xk_ov; rw [if_pos h0, if_pos h0]
    · rename_i h0
      rw [if_pos (by omega), hin o.1 (by omega) (by omega)]
      unfold xk_ov
      rw [if_neg h0])).1 (n + 1 + r, 0) (by dsimp only; omega)
  rw [← hB] at this
  have er : xs_rn n ag n2 (n + 1 + r, 0) = (n2 + 1 + r, 0) := by
    unfold xs_rn
    dsimp only
    rw [if_neg (by omega), if_neg (by omega)]
    congr 1
    omega
  rw [er] at this
  unfold xk_ov at this
  dsimp only at this
  rw [if_neg (by omega), if_neg (by omega)] at this
  exact this.symm
theorem xk_val_append : ∀ (A B : List xk_E) (ν : Nat → Int), xk_val Φ wd (A ++ B) ν = xk_val Φ wd B (xk_val Φ wd A ν)
  | [], B, ν => rfl
  | (b, op, a) :: t, B, ν => xk_val_append t B _
/-- a call's nodes, by its function's table -/
def xs_f1 (fs : List (Nat × xk_G)) (e : xk_E) : List xk_E := if e.2.1 < 1000 then [e] else (match ck_lk fs (e.2.1 - 1000) with
  | some q => q.2.2.map (xs_re q.1 ((List.range q.1).map (fun i => xk_ps q.2.1 e.2.2 (i + 1))) (e.1 - 1))
  | none => [e])
def xs_flat (fs : List (Nat × xk_G)) (tb : List xk_E) : List xk_E := tb.flatMap (xs_f1 fs)
def xs_fok (wd : Nat → Nat) (q : Nat × xk_G) : Bool := xs_c (q.2.1 + 1) q.2.2.2 && decide (q.2.2.2.length = wd q.1)
def xs_tok (fs : List (Nat × xk_G)) (e : xk_E) : Bool := match ck_lk fs (e.2.1 - 1000) with
  | some q => decide (0 < e.1) && e.2.2.all (fun o => decide (o.1 < e.1)) && decide (q.2.1.length = e.2.2.length)
  | none => true
theorem xk_ps_mem : ∀ {l : List Nat} {args : List xk_O} {g m : Nat}, args.all (fun o => decide (o.1 < m)) = true → 0 < m → (xk_ps l args g).1 < m
  | [], _, g, m, _, h => h
  | g' :: t, [], g, m, _, h => h
  | g' :: t, v :: u, g, m, ha, h => by
    show (if g' = g then v else xk_ps t u g).1 < m
    simp only [List.all_cons, Bool.and_eq_true, decide_eq_true_eq] at ha
    split
    · exact ha.1
    · exact xk_ps_mem ha.2 h
theorem xk_ps_all {ρ : Nat → Int} : ∀ {l : List Nat} {args : List xk_O} {g : Nat}, l.length = args.length → xk_ov ρ (xk_ps l args g) = xk_pos l (args.map (xk_ov ρ)) g
  | [], _, g, _ => rfl
  | g' :: t, [], g, hl => by simp at hl
  | g' :: t, v :: u, g, hl => by
    show xk_ov ρ (if g' = g then v else xk_ps t u g) = if g' = g then xk_ov ρ v else xk_pos t (u.map (xk_ov ρ)) g
    split
    · rfl
    · exact xk_ps_all (by simpa using hl)
theorem xs_flat_ok {fs : List (Nat × xk_G)} (hf : ∀ q ∈ fs, xs_fok wd q = true ∧ ∀ r inp, Φ q.1 r inp = xk_fn Φ wd q.2.2.2 q.2.1 q.2.2.1 r inp) : ∀ {tb : List xk_E} {ν : Nat → Int}, tb.all (xs_tok fs) = true → xk_val Φ wd (xs_flat fs tb) ν = xk_val Φ wd tb ν
  | [], ν, _ => rfl
  | (b, op, a) :: t, ν, h => by
    simp only [List.all_cons, Bool.and_eq_true] at h
    have ih := fun ν => xs_flat_ok hf (tb := t) (ν := ν) h.2
    show xk_val Φ wd (xs_f1 fs (b, op, a) ++ xs_flat fs t) ν = _
    rw [xk_val_append, ih]
    show _ = xk_val Φ wd t _
    congr 1
    unfold xs_f1
    dsimp only
    split
    · rename_i hop
      show (if op < 1000 then _ else _) = _
      rw [if_pos hop]
    · rename_i hop
      split
      · rename_i q hq
        have h1 := h.1
        unfold xs_tok at h1
        dsimp only at h1
        rw [hq] at h1
        simp only [Bool.and_eq_true, decide_eq_true_eq] at h1
        obtain ⟨⟨h1, h2⟩, h3⟩ := h1
        obtain ⟨f1, f2⟩ := hf _ (ck_lk_mem hq)
        unfold xs_fok at f1
        simp only [Bool.and_eq_true, decide_eq_true_eq] at f1
        obtain ⟨f1, f3⟩ := f1
        dsimp only at f1 f2 f3
        have hag : ((List.range q.1).map (fun i => xk_ps q.2.1 a (i + 1))).all (fun o => decide (o.1 ≤ b - 1)) = true := by
          rw [List.all_map, List.all_eq_true]
          intro i _
          have := xk_ps_mem (l := q.2.1) (g := i + 1) h2 h1
          show decide ((xk_ps q.2.1 a (i + 1)).1 ≤ b - 1) = true
          rw [decide_eq_true_eq]
          omega
        obtain ⟨v1, v2⟩ := xs_val (Φ := Φ) (wd := wd) (n := q.1) (n2 := b - 1) (ν := fun g => xk_pos q.2.1 (a.map (xk_ov ν)) g) (ν2 := ν) hag f1 (Nat.lt_succ_self _) (fun o ho => by
          unfold xs_rn
          split
          · rename_i h0; unfold xk_ov; rw [if_pos h0, if_pos h0]
          · rename_i h0
            rw [if_pos (by omega), List.getD_eq_getElem?_getD, List.getElem?_map, List.getElem?_range (by omega)]
            show xk_ov ν (xk_ps q.2.1 a (o.1 - 1 + 1)) = _
            rw [Nat.sub_add_cancel (by omega), xk_ps_all h3]
            unfold xk_ov
            rw [if_neg h0])
        funext g
        split
        · rename_i hg
          rw [f2]
          unfold xk_fn
          have := v1 (q.1 + 1 + (g - b), 0) (by dsimp only; rw [f3]; omega)
          have er : xs_rn q.1 ((List.range q.1).map (fun i => xk_ps q.2.1 a (i + 1))) (b - 1) (q.1 + 1 + (g - b), 0) = (g, 0) := by
            unfold xs_rn
            dsimp only
            rw [if_neg (by omega), if_neg (by omega)]
            congr 1
            omega
          rw [er] at this
          unfold xk_ov at this
          dsimp only at this
          rw [if_neg (by omega), if_neg (by omega)] at this
          exact this
        · rename_i hg
          rw [v2 g (by rw [f3]; omega)]
      · rename_i hq
        show (if op < 1000 then _ else _) = _
        rw [if_neg hop]
end XS
