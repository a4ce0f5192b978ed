/-! ===== behind a call: the caller's state again ===== -/
section CKP
variable {D : va_G} {AC : Nat → ClassId} {S : Nat → Nat} {tab : List ck_D} {L : Heap} {ρ : Nat → Int} {G : Nat → Nat} {N : List Nat} {T : List ck_C} {H H' : Heap}
theorem ck_mu_lo {T : List ck_C} {μ : List Nat} {post : List ck_C} {j i : Nat} (h : μ[j]? = some i) : (ck_mu T μ post)[j]? = some i := by
  unfold ck_mu
  rw [List.getElem?_append_left (List.getElem?_eq_some_iff.mp h).1]
  exact h
theorem ck_mu_hi {T : List ck_C} {μ : List Nat} {post : List ck_C} {j : Nat} (h1 : μ.length ≤ j) (h2 : j < post.length) : (ck_mu T μ post)[j]? = some (T.length + (j - μ.length)) := by
  unfold ck_mu
  rw [List.getElem?_append_right h1, List.getElem?_map, List.getElem?_range (by omega)]
  rfl
theorem ck_isc_ok {G1 : Nat → Nat} {N' : List Nat} {lo hi : Int} {k : ck_V} {x : Int32} (h1 : lo ≤ x.toInt) (h2 : x.toInt ≤ hi) (h : ck_R S ρ G1 N' k (.int x)) : ck_R S ρ G1 N' (ck_isc lo hi k) (.int x) := by
  match k, h with
  | .inl (a, b, t), h =>
    obtain ⟨y, e, y1, y2, y3⟩ := h
    cases e
    exact ⟨x, rfl, ck_max_le h1 y1, ck_le_min h2 y2, y3⟩
  | .inr z, h => exact h
/-- a value that the called one leaves, as the caller sees it -/
theorem ck_pv_ok {ρ1 : Nat → Int} {G1 : Nat → Nat} {N1 N' : List Nat} {f0 : List ck_V} {μ : List Nat} (hN : ∀ (j a : Nat), N1[j]? = some a → ∃ i, μ[j]? = some i ∧ N'[i]? = some a) (hf : ∀ (k : Nat) (v : ck_V), f0[k]? = some v → k < 100 → ∃ w : Value, ck_R S ρ G N v w ∧ ρ1 (100 + k) = ck_iv (some w)) {k : ck_V} {v : Value} (h : ck_R S ρ1 G1 N1 k v) : ck_R S ρ G1 N' (ck_pv f0 μ k) v := by
  match k, h with
  | .inl (lo, hi, none), h => exact ck_R.plain (ρ := ρ1) (N := N1) rfl h
  | .inl (lo, hi, some (g, d)), h =>
    have hs : ck_R S ρ G1 N' (.inl (lo, hi, none)) v := ck_R.plain (ρ := ρ1) (N := N1) rfl (ck_R.strip h)
    show ck_R S ρ G1 N' (if 100 ≤ g ∧ g < 200 then (match f0[g - 100]? with | some (.inl q) => ck_isc lo hi (ck_add q (d, d, none)) | _ => .inl (lo, hi, none)) else .inl (lo, hi, none)) v
    split
    · rename_i hg
      split
      · rename_i q hq
        obtain ⟨x, rfl, x1, x2, x3⟩ := h
        obtain ⟨w, ⟨y, rfl, y1, y2, y3⟩, hw2⟩ := hf (g - 100) _ hq (by omega)
        have e := x3 g d rfl
        rw [show 100 + (g - 100) = g by omega] at hw2
        have hw2 : ρ1 g = y.toInt := hw2
        have hx := ck_i32 x
        refine ck_isc_ok x1 x2 ?_
        unfold ck_add
        split
        · rename_i hok
          obtain ⟨o1, o2⟩ := ck_iok_of hok
          refine ⟨x, rfl, by dsimp only at o1 o2 ⊢; omega, by dsimp only at o1 o2 ⊢; omega, fun g' c' hg' => ?_⟩
          have hg' : ck_tagA q (d, d, none) = some (g', c') := hg'
          unfold ck_tagA at hg'
          split at hg'
          · rename_i g1 k1 hq1
            simp at hg'
            obtain ⟨rfl, rfl⟩ := hg'
            have := y3 g1 k1 hq1
            omega
          · cases hg'
        · exact ⟨x, rfl, hx.1, hx.2, fun g c q => by cases q⟩
      · exact hs
    · exact hs
  | .inr (.inl q), h => exact h
  | .inr (.inr (0, _)), h => exact h
  | .inr (.inr (1, j)), h =>
    obtain ⟨a, ha, rfl⟩ := h
    obtain ⟨i, hi, hN'⟩ := hN j a ha
    show ck_R S ρ G1 N' (match μ[j]? with | some i => .inr (.inr (1, i)) | none => .inr (.inr (8, 0))) (.ref a)
    rw [hi]
    exact ⟨a, hN', rfl⟩
  | .inr (.inr (2, τ)), h => exact h
  | .inr (.inr (3, j)), h => exact h
  | .inr (.inr (4, _)), h => exact h
  | .inr (.inr (n + 5, _)), h => exact h
theorem ck_find_some {μ : List Nat} {i j : Nat} (h : μ.findIdx? (fun k => k == i) = some j) : μ[j]? = some i := by
  obtain ⟨hl, hp, -⟩ := List.findIdx?_eq_some_iff_getElem.mp h
  rw [List.getElem?_eq_getElem hl]
  simpa using hp
theorem ck_find_none {μ : List Nat} {i : Nat} (h : μ.findIdx? (fun k => k == i) = none) : i ∉ μ := by
  intro hm
  have := List.findIdx?_eq_none_iff.mp h i hm
  simp at this
/-- all of the caller's side behind a call -/
theorem ck_H.post {wk : List Nat} {μ : List Nat} {post : List ck_C} {ρ0 ρ1 : Nat → Int} {G1 : Nat → Nat} {N0 N1 : List Nat} (h4 : ck_H D AC S tab L ρ G N T H) (hN0 : ∀ (j i : Nat), μ[j]? = some i → N0[j]? = N[i]? ∧ ∃ a, N[i]? = some a) (hlen0 : N0.length = μ.length) (hnd : μ.Nodup) (hμT : ∀ i ∈ μ, ∃ c, T[i]? = some c ∧ (ck_own c = true ∨ c.1.1 = 5 ∨ ck_foc c))
    (hf : ∀ (k : Nat) (v : ck_V), (ck_f0 T μ)[k]? = some v → k < 100 → ∃ w : Value, ck_R S ρ G N v w ∧ ρ0 (100 + k) = ck_iv (some w)) (hρ : ∀ g, 100 ≤ g → g < 200 → ρ1 g = ρ0 g)
    (h1 : ck_H D AC S tab L ρ1 G1 N1 post H') (hF : ck_F wk G N0 H G1 N1 post H') :
    ∃ N', (∃ M, N' = N ++ M) ∧ (∀ q, G q ≠ 0 → G1 q = G q) ∧ ck_H D AC S tab L ρ G1 N' (ck_cpost tab wk T μ post) H' ∧ (∀ (k : ck_V) (v : Value), ck_R S ρ1 G1 N1 k v → ck_R S ρ G1 N' (ck_pv (ck_f0 T μ) (ck_mu T μ post) k) v) ∧
      ∀ {wr : List Nat} {G00 : Nat → Nat} {N00 : List Nat} {H00 : Heap}, (∀ τ ∈ wk, τ ∈ wr) → ck_F wr G00 N00 H00 G N T H → ck_F wr G00 N00 H00 G1 N' (ck_cpost tab wk T μ post) H' := by
  obtain ⟨f1, f2, f3, f4, f5, f6⟩ := hF
  have hgrow : ∀ q, G q ≠ 0 → G1 q = G q := fun q hne => by
    by_cases hl : q < H.size
    · exact f2 q hl
    · exact absurd (h4.zero (by omega)) hne
  have hlp : N1.length = post.length := h1.2.1
  have hlN : N.length = T.length := h4.2.1
  have hmp : μ.length ≤ post.length := by omega
  have hN' : ∀ (j a : Nat), N1[j]? = some a → ∃ i, (ck_mu T μ post)[j]? = some i ∧ (N ++ N1.drop μ.length)[i]? = some a := by
    intro j a ha
    have hjl : j < N1.length := (List.getElem?_eq_some_iff.mp ha).1
    by_cases hj : j < μ.length
    · have hji : μ[j]? = some μ[j] := List.getElem?_eq_getElem hj
      refine ⟨_, ck_mu_lo hji, ?_⟩
      obtain ⟨e1, a', e2⟩ := hN0 j _ hji
      have hil : μ[j] < N.length := (List.getElem?_eq_some_iff.mp e2).1
      rw [List.getElem?_append_left hil, ← e1, ← f5 j (by omega)]
      exact ha
    · refine ⟨_, ck_mu_hi (by omega) (by omega), ?_⟩
      rw [← hlN, List.getElem?_append_right (by omega), List.getElem?_drop]
      rw [show μ.length + (N.length + (j - μ.length) - N.length) = j by omega]
      exact ha
  have hpv : ∀ (k : ck_V) (v : Value), ck_R S ρ1 G1 N1 k v → ck_R S ρ G1 (N ++ N1.drop μ.length) (ck_pv (ck_f0 T μ) (ck_mu T μ post) k) v := fun k v h =>
    ck_pv_ok (ρ := ρ) (G := G) (N := N) hN' (fun k v hv hk => by
      obtain ⟨w, w1, w2⟩ := hf k v hv hk
      exact ⟨w, w1, by rw [hρ _ (by omega) (by omega)]; exact w2⟩) h
  -- the cells behind the call, by their places
  have hcell : ∀ (i : Nat) (d : ck_C) (a : Nat), (ck_cpost tab wk T μ post)[i]? = some d → (N ++ N1.drop μ.length)[i]? = some a →
      (∃ (j : Nat) (x : ck_C), post[j]? = some x ∧ d = (x.1, x.2.map (ck_pv (ck_f0 T μ) (ck_mu T μ post))) ∧ N1[j]? = some a ∧ ((j < μ.length ∧ μ[j]? = some i) ∨ (μ.length ≤ j ∧ i = T.length + (j - μ.length)))) ∨ (∃ c, T[i]? = some c ∧ N[i]? = some a ∧ d = ck_rst tab wk c ∧ i ∉ μ) := by
    intro i d a hd ha
    unfold ck_cpost at hd
    by_cases hi : i < T.length
    · rw [List.getElem?_append_left (by simpa using hi), List.getElem?_mapIdx, List.getElem?_eq_getElem hi] at hd
      rw [List.getElem?_append_left (by omega)] at ha
      simp only [Option.map_some, Option.some.injEq] at hd
      unfold ck_cp1 at hd
      split at hd
      · rename_i j hj
        have hji := ck_find_some hj
        have hjl : j < μ.length := (List.getElem?_eq_some_iff.mp hji).1
        split at hd
        · rename_i x hx
          refine Or.inl ⟨j, x, hx, hd.symm, ?_, Or.inl ⟨hjl, hji⟩⟩
          rw [f5 j (by omega), (hN0 j i hji).1]
          exact ha
        · rename_i hx
          rw [List.getElem?_eq_getElem (by omega)] at hx
          cases hx
      · rename_i hj
        exact Or.inr ⟨T[i], List.getElem?_eq_getElem hi, ha, hd.symm, ck_find_none hj⟩
    · rw [List.getElem?_append_right (by simpa using hi)] at hd
      rw [List.getElem?_append_right (by omega), List.getElem?_drop] at ha
      simp only [List.length_mapIdx, List.getElem?_map, List.getElem?_drop] at hd
      obtain ⟨x, hx, rfl⟩ := Option.map_eq_some_iff.mp hd
      rw [hlN] at ha
      exact Or.inl ⟨μ.length + (i - T.length), x, hx, rfl, ha, Or.inr ⟨by omega, by omega⟩⟩
  have hrstown : ∀ c, ck_own (ck_rst tab wk c) = true → ck_own c = true ∧ ck_rst tab wk c = c := by
    intro c ho
    obtain ⟨⟨k, n⟩, fs⟩ := c
    unfold ck_rst at ho ⊢
    split at ho
    · split at ho
      · split at ho
        · split at ho
          · simp [ck_own] at ho
          · simp [ck_own] at ho
        · simp [ck_own] at ho
      · rename_i e _
        cases e
        simp [ck_own] at ho
    · split at ho
      · simp [ck_own] at ho
      · rename_i e _
        cases e
        simp [ck_own] at ho
    · exact ⟨ho, rfl⟩
  refine ⟨N ++ N1.drop μ.length, ⟨_, rfl⟩, hgrow, ⟨h1.1, ?_, fun i d a hd ha => ?_, fun i1 i2 d1 d2 a k1 k2 o1 o2 n1 n2 => ?_⟩, hpv, ?_⟩
  · simp [ck_cpost, hlN, hlp]
  · rcases hcell i d a hd ha with ⟨j, x, hx, rfl, hN1, -⟩ | ⟨c, hc, hNa, rfl, hμ⟩
    · exact (h1.2.2.1 j x a hx hN1).mapV _ (fun _ => rfl) (fun _ => rfl) (fun k v _ h => hpv k v h)
    · have htc := h4.2.2.1 i c a hc hNa
      have foc_keep : ck_foc c → c.1.2 ∉ wk → ck_tc D AC S tab L ρ G1 (N ++ N1.drop μ.length) H' c a := by
        intro hfo hnw
        obtain ⟨e1, e2, e3⟩ := htc.foc hfo
        have hG1 : G1 a = G a := hgrow a (by rw [e1]; exact e2)
        have base := htc.mapV (ρ' := ρ) (G' := G1) (N' := N ++ N1.drop μ.length) id (fun o => f2 a (htc.own o).2.2) (fun _ => hG1) (fun k v _ h => (h.grow hgrow).ext _)
        have base : ck_tc D AC S tab L ρ G1 (N ++ N1.drop μ.length) H c a := by simpa using base
        refine base.kept fun _ => f3 a e3 (Or.inr ⟨by rw [e1]; exact e2, by rw [e1]; exact hnw⟩)
      obtain ⟨⟨k, n⟩, fs⟩ := c
      unfold ck_rst
      split
      · rename_i τ heq
        dsimp only at heq
        cases heq
        split
        · obtain ⟨e1, e2, ci, ks, vs, e3, e4, e5⟩ := htc
          split
          · rename_i ci' ks' hτ
            rw [e3] at hτ
            cases hτ
            split
            · rename_i hpl
              have hG1 : G1 a = n := by rw [hgrow a (by rw [e1]; exact e2)]; exact e1
              have hty := (h1.1.2.2 a (by rw [hG1]; exact e2)).2
              rw [hG1] at hty
              unfold ck_ty at hty
              rw [e3] at hty
              obtain ⟨vs', y1, y2⟩ := hty
              exact ⟨hG1, e2, ci, ks, vs', e3, y1, y2.mono fun k v hk h => ck_R.plain (List.all_eq_true.mp hpl k hk) h⟩
            · exact trivial
          · exact trivial
        · rename_i hnw
          exact foc_keep (Or.inl rfl) (by simpa using hnw)
      · rename_i k7 τ heq
        dsimp only at heq
        cases heq
        split
        · exact trivial
        · rename_i hnw
          exact foc_keep (Or.inr (Nat.le_add_left 7 k7)) (by simpa using hnw)
      · rename_i hne3 hne7
        have hnf : ¬ ck_foc ((k, n), fs) := fun hf => by
          rcases hf with e | e
          · dsimp only at e
            exact hne3 n (by rw [e])
          · dsimp only at e
            exact hne7 (k - 7) n (by show (k, n) = (k - 7 + 7, n); rw [show k - 7 + 7 = k by omega])
        have base : ck_tc D AC S tab L ρ G1 (N ++ N1.drop μ.length) H ((k, n), fs) a := by
          have := htc.mapV (ρ' := ρ) (G' := G1) (N' := N ++ N1.drop μ.length) id (fun o => f2 a (htc.own o).2.2) (fun o => absurd o hnf) (fun k v _ h => (h.grow hgrow).ext _)
          simpa using this
        refine base.kept fun hk => ?_
        have ho : ck_own ((k, n), fs) = true := by
          rcases hk with z | z | z
          · dsimp only at z; simp [ck_own, z]
          · dsimp only at z; simp [ck_own, z]
          · exact absurd z hnf
        obtain ⟨a1, a2, a3⟩ := htc.own ho
        refine f3 a a3 (Or.inl ⟨a2, fun hm => ?_⟩)
        obtain ⟨j, hj⟩ := List.getElem?_of_mem hm
        have hjl : j < μ.length := by have := (List.getElem?_eq_some_iff.mp hj).1; omega
        have hji : μ[j]? = some μ[j] := List.getElem?_eq_getElem hjl
        rw [(hN0 j _ hji).1] at hj
        obtain ⟨cj, hdj, hoj⟩ := hμT _ (List.getElem_mem hjl)
        have this : ck_own cj = true := by
          rcases hoj with o | o | o
          · exact o
          · exfalso
            have ht2 := h4.2.2.1 _ _ a hdj hj
            unfold ck_tc at ht2
            obtain ⟨⟨k', n'⟩, fs'⟩ := cj
            dsimp only at o
            subst o
            obtain ⟨-, cell, -, h9, -⟩ := ht2
            omega
          · exfalso
            have ht2 := (h4.2.2.1 _ _ a hdj hj).foc o
            exact ht2.2.1 (ht2.1.symm.trans a2)
        have ei := h4.2.2.2 i μ[j] _ _ a hc hdj ho this hNa hj
        exact hμ (by rw [ei]; exact List.getElem_mem hjl)
  · -- apart
    have key : ∀ (i : Nat) (d : ck_C), (ck_cpost tab wk T μ post)[i]? = some d → ck_own d = true → (N ++ N1.drop μ.length)[i]? = some a → (∃ (j : Nat) (x : ck_C), post[j]? = some x ∧ ck_own x = true ∧ N1[j]? = some a ∧ ((j < μ.length ∧ μ[j]? = some i) ∨ (μ.length ≤ j ∧ i = T.length + (j - μ.length)))) ∨ (∃ c, T[i]? = some c ∧ ck_own c = true ∧ N[i]? = some a ∧ i ∉ μ) := by
      intro i d hd ho ha
      rcases hcell i d a hd ha with ⟨j, x, hx, rfl, hN1, hj⟩ | ⟨c, hc, hNa, rfl, hμ⟩
      · exact Or.inl ⟨j, x, hx, ho, hN1, hj⟩
      · exact Or.inr ⟨c, hc, (hrstown c ho).1, hNa, hμ⟩
    have mixed : ∀ (i i' j : Nat) (x c : ck_C), post[j]? = some x → ck_own x = true → N1[j]? = some a → ((j < μ.length ∧ μ[j]? = some i) ∨ (μ.length ≤ j ∧ i = T.length + (j - μ.length))) → T[i']? = some c → ck_own c = true → N[i']? = some a → i' ∉ μ → False := by
      intro i i' j x c hx ho hN1 hj hc hoc hNa hμ
      have hlt := h4.named hc hNa (Or.inl hoc)
      rcases hj with ⟨j1, j2⟩ | ⟨j1, j2⟩
      · obtain ⟨cj, hdj, hoj⟩ := hμT i (List.mem_of_getElem? j2)
        have hNi : N[i]? = some a := by rw [← (hN0 j i j2).1, ← f5 j (by omega)]; exact hN1
        have this : ck_own cj = true := by
          rcases hoj with o | o | o
          · exact o
          · exfalso
            have ht2 := h4.2.2.1 _ _ a hdj hNi
            have l9 := ((h4.2.2.1 _ _ a hc hNa).own hoc).1
            unfold ck_tc at ht2
            obtain ⟨⟨k', n'⟩, fs'⟩ := cj
            dsimp only at o
            subst o
            obtain ⟨-, cell, -, h9, -⟩ := ht2
            omega
          · exfalso
            have ht2 := (h4.2.2.1 _ _ a hdj hNi).foc o
            exact ht2.2.1 (ht2.1.symm.trans ((h4.2.2.1 _ _ a hc hNa).own hoc).2.1)
        have ei := h4.2.2.2 i i' cj c a hdj hc this hoc hNi hNa
        exact hμ (by rw [← ei]; exact List.mem_of_getElem? j2)
      · have := f6 j x a hx hN1 ho (by omega)
        omega
    rcases key i1 d1 k1 o1 n1 with ⟨j1, x1, p1, p2, p3, p4⟩ | ⟨c1, p1, p2, p3, p4⟩ <;> rcases key i2 d2 k2 o2 n2 with ⟨j2, x2, q1, q2, q3, q4⟩ | ⟨c2, q1, q2, q3, q4⟩
    · have ej := h1.2.2.2 j1 j2 x1 x2 a p1 q1 p2 q2 p3 q3
      subst ej
      rcases p4 with ⟨u1, u2⟩ | ⟨u1, u2⟩ <;> rcases q4 with ⟨v1, v2⟩ | ⟨v1, v2⟩
      · exact Option.some.inj (u2.symm.trans v2)
      · omega
      · omega
      · omega
    · exact (mixed i1 i2 j1 x1 c2 p1 p2 p3 p4 q1 q2 q3 q4).elim
    · exact (mixed i2 i1 j2 x2 c1 q1 q2 q3 q4 p1 p2 p3 p4).elim
    · exact h4.2.2.2 i1 i2 c1 c2 a p1 q1 p2 q2 p3 q3
  · intro wr G00 N00 H00 hsub hF0
    obtain ⟨g1, g2, g3, g4, g5, g6⟩ := hF0
    refine ⟨by omega, fun q hq => by rw [f2 q (by omega)]; exact g2 q hq, fun q hq hks => ?_, by simp; omega, fun i hi => by rw [List.getElem?_append_left (by omega)]; exact g5 i hi, fun i d a hd ha ho hi => ?_⟩
    · by_cases hL : q < L.size
      · rw [h1.1.2.1 q hL, ← h4.1.2.1 q hL]
        exact g3 q hq hks
      rcases id hks with ⟨hz, hn⟩ | ⟨hz, hn⟩
      rotate_left
      · rw [f3 q (by omega) (Or.inr ⟨by rw [g2 q hq]; exact hz, fun hm => hn (hsub _ (by rw [← g2 q hq]; exact hm))⟩)]
        exact g3 q hq hks
      rw [f3 q (by omega) (Or.inl ⟨by rw [g2 q hq]; exact hz, fun hm => ?_⟩)]
      · exact g3 q hq hks
      · obtain ⟨j, hj⟩ := List.getElem?_of_mem hm
        have hjl : j < μ.length := by have := (List.getElem?_eq_some_iff.mp hj).1; omega
        have hji : μ[j]? = some μ[j] := List.getElem?_eq_getElem hjl
        rw [(hN0 j _ hji).1] at hj
        obtain ⟨cj, hdj, hoj⟩ := hμT _ (List.getElem_mem hjl)
        by_cases hlt : μ[j] < N00.length
        · rw [g5 _ hlt] at hj
          exact hn (List.mem_of_getElem? hj)
        · rcases hoj with o | o | o
          · have := g6 _ cj q hdj hj o (by omega)
            omega
          · have ht2 := h4.2.2.1 _ _ q hdj hj
            unfold ck_tc at ht2
            obtain ⟨⟨k', n'⟩, fs'⟩ := cj
            dsimp only at o
            subst o
            obtain ⟨-, cell, -, h9, -⟩ := ht2
            exact hL h9
          · have ht2 := (h4.2.2.1 _ _ q hdj hj).foc o
            exact ht2.2.1 (ht2.1.symm.trans ((g2 q hq).trans hz))
    · rcases hcell i d a hd ha with ⟨j, x, hx, rfl, hN1, hj⟩ | ⟨c, hc, hNa, rfl, hμ⟩
      · rcases hj with ⟨j1, j2⟩ | ⟨j1, j2⟩
        · obtain ⟨cj, hdj, hoj⟩ := hμT i (List.mem_of_getElem? j2)
          have hNi : N[i]? = some a := by rw [← (hN0 j i j2).1, ← f5 j (by omega)]; exact hN1
          rcases hoj with o | o | o
          · exact g6 i cj a hdj hNi o hi
          rotate_left
          · exfalso
            have ht2 := (h4.2.2.1 _ _ a hdj hNi).foc o
            have l9 := ((h1.2.2.1 j x a hx hN1).own ho).2.1
            rw [hgrow a (by rw [ht2.1]; exact ht2.2.1), ht2.1] at l9
            exact ht2.2.1 l9
          · exfalso
            have l9 := ((h1.2.2.1 j x a hx hN1).own ho).1
            have ht2 := h4.2.2.1 _ _ a hdj hNi
            unfold ck_tc at ht2
            obtain ⟨⟨k', n'⟩, fs'⟩ := cj
            dsimp only at o
            subst o
            obtain ⟨-, cell, -, h9, -⟩ := ht2
            omega
        · have := f6 j x a hx hN1 ho (by omega)
          omega
      · exact g6 i c a hc hNa (hrstown c ho).1 hi
end CKP
