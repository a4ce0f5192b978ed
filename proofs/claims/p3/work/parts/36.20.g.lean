/-! the second checker: 20 -/
/-! ===== more that is done between instructions: a typed object gets a name; a number is cut in two; types are made wider; ghosts ===== -/
section CKMO
variable {p : Program} {l : Launch} {e : Env} {R : Room} {s : State} {m : MethodId} {args : Array Value} {below : List Frame} {meth : Method} {c : Code} {cells slots : Nat} {Q : State → Prop}
variable {cc : ByteArray} {pc pc2 nL nS : Nat} {D : va_G} {AC : Nat → ClassId} {S : Nat → Nat} {tab : List ck_D} {L : Heap} {ρ0 : Nat → Int} {wr : List Nat} {G0 : Nat → Nat} {N0 : List Nat} {H0 : Heap}
variable {A : List (Nat × ck_V)} {st : List ck_V} {T : List ck_C}
/-- a typed object in a local gets a name -/
theorem gcw_focus {k τ ci : Nat} {ks : List ck_V} (hk : ck_loc A k = some (.inr (.inr (2, τ)))) (hτ : tab[τ]? = some (.inr (ci, ks))) (hpl : ks.all ck_plain = true)
    (kk : gck_W p l e R s m args below meth c Q D AC S tab L nL ρ0 wr G0 N0 H0 pc (ck_setl A k (.inr (.inr (1, T.length))), st, T ++ [((3, τ), ks)]) cells slots) : gck_W p l e R s m args below meth c Q D AC S tab L nL ρ0 wr G0 N0 H0 pc (A, st, T) cells slots := by
  intro H ls vs locs h
  obtain ⟨ρ, G, N, lv, h1, h2, h3, h4, h5, h6, h7⟩ := h
  obtain ⟨j, v, g1, ⟨a, rfl, ha, hz⟩⟩ := ck_loc_ok h2 hk
  have hls : ls[k]? = some (.val (.ref a)) := lv_at h1 j g1
  have hlen : N.length = T.length := h4.2.1
  have hty := (h4.1.2.2 a (by rw [ha]; exact hz)).2
  rw [ha] at hty
  unfold ck_ty at hty
  rw [hτ] at hty
  obtain ⟨ws, y1, y2⟩ := hty
  have hnm : (N ++ [a])[T.length]? = some a := by rw [← hlen]; simp
  have spl : ∀ (j : Nat) (d : ck_C) (b : Nat), (T ++ [((3, τ), ks)])[j]? = some d → (N ++ [a])[j]? = some b → (T[j]? = some d ∧ N[j]? = some b) ∨ (j = T.length ∧ d = ((3, τ), ks) ∧ b = a) := by
    intro j d b hj hb
    by_cases e : j < T.length
    · rw [List.getElem?_append_left e] at hj
      rw [List.getElem?_append_left (by omega)] at hb
      exact Or.inl ⟨hj, hb⟩
    · rw [List.getElem?_append_right (by omega)] at hj
      rw [List.getElem?_append_right (by omega)] at hb
      have e0 : j - T.length = 0 := by
        have := (List.getElem?_eq_some_iff.mp hj).1
        simp at this
        omega
      rw [e0] at hj
      rw [show j - N.length = 0 by omega] at hb
      cases hj
      cases hb
      exact Or.inr ⟨by omega, rfl, rfl⟩
  refine kk H ls vs locs ⟨ρ, G, N ++ [a], lv, h1, ⟨by simp [ck_setl, h2.1], fun i q w hq hw => ?_⟩, ck_all_ext h3, ⟨h4.1, by simp [hlen], fun i d b hi hb => ?_, fun i1 i2 d1 d2 b k1 k2 o1 o2 n1 n2 => ?_⟩, ?_, h6, h7⟩
  · simp only [ck_setl, List.getElem?_map] at hq
    obtain ⟨q0, hq0, rfl⟩ := Option.map_eq_some_iff.mp hq
    obtain ⟨r1, r2⟩ := h2.2 i q0 w hq0 hw
    split
    · rename_i he
      have he : q0.1 = k := by simpa using he
      refine ⟨r1, a, hnm, ?_⟩
      have hsl : ls[w.1]? = some (.val w.2) := h1.2.2 w (List.mem_of_getElem? hw)
      rw [← r1, he, hls] at hsl
      have hval : Value.ref a = w.2 := by simpa using hsl
      exact hval.symm
    · exact ⟨r1, r2.ext _⟩
  · rcases spl i d b hi hb with ⟨x1, x2⟩ | ⟨-, rfl, rfl⟩
    · exact (h4.2.2.1 i d b x1 x2).ext _
    · exact ⟨ha, hz, ci, ks, ws, hτ, y1, y2.mono fun k v hk h => ck_R.plain (List.all_eq_true.mp hpl k hk) h⟩
  · rcases spl i1 d1 b k1 n1 with ⟨x1, x2⟩ | ⟨-, rfl, -⟩
    · rcases spl i2 d2 b k2 n2 with ⟨z1, z2⟩ | ⟨-, rfl, -⟩
      · exact h4.2.2.2 i1 i2 d1 d2 b x1 z1 o1 o2 x2 z2
      · simp [ck_own] at o2
    · simp [ck_own] at o1
  · have h5x := h5.2
    obtain ⟨f1, f2, f3, f4, f5, f6⟩ := h5.1
    refine ⟨⟨f1, f2, f3, by simp; omega, fun i hi => by rw [List.getElem?_append_left (by omega)]; exact f5 i hi, fun i d b hd hb ho hn => ?_⟩, h5x⟩
    rcases spl i d b hd hb with ⟨x1, x2⟩ | ⟨-, rfl, -⟩
    · exact f6 i d b x1 x2 ho hn
    · simp [ck_own] at ho
/-- a typed array in a named object gets a name -/
theorem gcw_focA {i k τ b n ac nn : Nat} {hd : Nat × Nat} {fs : List ck_V} {sg : List (Nat × ck_V)} (hi : T[i]? = some (hd, fs)) (hk : fs[k]? = some (.inr (.inr (2, τ)))) (hkd : hd.1 = 0 ∨ hd.1 = 3) (hτ : tab[τ]? = some (.inl (ac, nn, sg))) (hb : b + n ≤ nn) (hpl : (List.range n).all (fun j => ck_plain (ck_kat sg (b + j))) = true)
    (kk : gck_W p l e R s m args below meth c Q D AC S tab L nL ρ0 wr G0 N0 H0 pc (A, st, T.set i (hd, fs.set k (.inr (.inr (1, T.length)))) ++ [((b + 7, τ), (List.range n).map (fun j => ck_kat sg (b + j)))]) cells slots) : gck_W p l e R s m args below meth c Q D AC S tab L nL ρ0 wr G0 N0 H0 pc (A, st, T) cells slots := by
  intro H ls vs locs h
  obtain ⟨ρ, G, N, lv, h1, h2, h3, h4, h5, h6, h7⟩ := h
  have hlen : N.length = T.length := h4.2.1
  have hil : i < T.length := (List.getElem?_eq_some_iff.mp hi).1
  obtain ⟨a, ha⟩ : ∃ a, N[i]? = some a := ⟨N[i], List.getElem?_eq_getElem (by omega)⟩
  have htc := h4.2.2.1 i _ a hi ha
  have hfv : ∃ vs : List Value, ck_all (ck_R S ρ G N) fs vs ∧ ∀ (N' : List Nat) (fs' : List ck_V), ck_all (ck_R S ρ G N') fs' vs → ck_tc D AC S tab L ρ G N' H (hd, fs') a := by
    obtain ⟨k0, n0⟩ := hd
    dsimp only at hkd
    rcases hkd with rfl | rfl
    · obtain ⟨a1, a2, vs, a3, a4⟩ := htc
      exact ⟨vs, a4, fun N' fs' h => ⟨a1, a2, vs, a3, h⟩⟩
    · obtain ⟨a1, a2, ci, ks, vs, a3, a5, a4⟩ := htc
      exact ⟨vs, a4, fun N' fs' h => ⟨a1, a2, ci, ks, vs, a3, a5, h⟩⟩
  obtain ⟨ws, w1, w2⟩ := hfv
  obtain ⟨wv, q1, ⟨b0, rfl, hb0, hz0⟩⟩ := w1.get hk
  have hty := (h4.1.2.2 b0 (by rw [hb0]; exact hz0)).2
  rw [hb0] at hty
  unfold ck_ty at hty
  rw [hτ] at hty
  obtain ⟨f, y1, y2⟩ := hty
  have hnm : (N ++ [b0])[T.length]? = some b0 := by rw [← hlen]; simp
  have spl : ∀ (j : Nat) (d : ck_C) (b' : Nat), (T.set i (hd, fs.set k (.inr (.inr (1, T.length)))) ++ [((b + 7, τ), (List.range n).map (fun j => ck_kat sg (b + j)))])[j]? = some d → (N ++ [b0])[j]? = some b' → (j = i ∧ d = (hd, fs.set k (.inr (.inr (1, T.length)))) ∧ b' = a) ∨ (j ≠ i ∧ T[j]? = some d ∧ N[j]? = some b') ∨ (j = T.length ∧ d = ((b + 7, τ), (List.range n).map (fun j => ck_kat sg (b + j))) ∧ b' = b0) := by
    intro j d b' hj hb'
    by_cases e : j < T.length
    · rw [List.getElem?_append_left (by simpa using e)] at hj
      rw [List.getElem?_append_left (by omega)] at hb'
      by_cases e2 : i = j
      · subst e2
        rw [List.getElem?_set_self hil] at hj
        cases hj
        cases ha.symm.trans hb'
        exact Or.inl ⟨rfl, rfl, rfl⟩
      · rw [List.getElem?_set_ne e2] at hj
        exact Or.inr (Or.inl ⟨Ne.symm e2, hj, hb'⟩)
    · rw [List.getElem?_append_right (by simpa using e)] at hj
      rw [List.getElem?_append_right (by omega)] at hb'
      simp only [List.length_set] at hj
      have e0 : j - T.length = 0 := by
        have := (List.getElem?_eq_some_iff.mp hj).1
        simp at this
        omega
      rw [e0] at hj
      rw [show j - N.length = 0 by omega] at hb'
      cases hj
      cases hb'
      exact Or.inr (Or.inr ⟨by omega, rfl, rfl⟩)
  have hall : ck_all (ck_R S ρ G (N ++ [b0])) (fs.set k (.inr (.inr (1, T.length)))) ws := by
    refine ⟨by simp [w1.1], fun j x y hx hy => ?_⟩
    by_cases e : k = j
    · subst e
      rw [List.getElem?_set_self (List.getElem?_eq_some_iff.mp hk).1] at hx
      cases hx
      cases q1.symm.trans hy
      exact ⟨b0, hnm, rfl⟩
    · rw [List.getElem?_set_ne e] at hx
      exact (w1.2 j x y hx hy).ext _
  have hnown : ck_own ((b + 7, τ), (List.range n).map (fun j => ck_kat sg (b + j))) = false := ck_foc_own (Or.inr (Nat.le_add_left 7 b))
  refine kk H ls vs locs ⟨ρ, G, N ++ [b0], lv, h1, ck_allL_ext h2, ck_all_ext h3, ⟨h4.1, by simp [hlen], fun j d b' hj hb' => ?_, fun j1 j2 d1 d2 b' k1 k2 o1 o2 n1 n2 => ?_⟩, ?_, h6, h7⟩
  · rcases spl j d b' hj hb' with ⟨rfl, rfl, rfl⟩ | ⟨-, x1, x2⟩ | ⟨-, rfl, rfl⟩
    · exact w2 _ _ hall
    · exact (h4.2.2.1 j d b' x1 x2).ext _
    · refine ⟨hb0, hz0, ac, nn, sg, f, hτ, y1, by simpa using hb, fun j v hv => ?_⟩
      simp only [List.getElem?_map] at hv
      obtain ⟨z, hz, rfl⟩ := Option.map_eq_some_iff.mp hv
      have hzn : z = j ∧ j < n := by
        have hl := (List.getElem?_eq_some_iff.mp hz).1
        simp at hl
        rw [List.getElem?_range hl] at hz
        cases hz
        exact ⟨rfl, hl⟩
      obtain ⟨rfl, hjn⟩ := hzn
      exact (y2 (b + z) (by omega)).plain (List.all_eq_true.mp hpl z (List.mem_range.mpr hjn))
  · rcases spl j1 d1 b' k1 n1 with ⟨rfl, rfl, rfl⟩ | ⟨e1, x1, x2⟩ | ⟨-, rfl, -⟩
    · rcases spl j2 d2 _ k2 n2 with ⟨rfl, rfl, -⟩ | ⟨e2, z1, z2⟩ | ⟨-, rfl, -⟩
      · rfl
      · exact h4.2.2.2 j1 j2 (hd, fs) d2 _ hi z1 o1 o2 ha z2
      · rw [hnown] at o2; cases o2
    · rcases spl j2 d2 b' k2 n2 with ⟨rfl, rfl, rfl⟩ | ⟨e2, z1, z2⟩ | ⟨-, rfl, -⟩
      · exact h4.2.2.2 j1 j2 d1 (hd, fs) _ x1 hi o1 o2 x2 ha
      · exact h4.2.2.2 j1 j2 d1 d2 b' x1 z1 o1 o2 x2 z2
      · rw [hnown] at o2; cases o2
    · rw [hnown] at o1; cases o1
  · have h5x := h5.2
    obtain ⟨f1, f2, f3, f4, f5, f6⟩ := h5.1
    refine ⟨⟨f1, f2, f3, by simp; omega, fun i hi => by rw [List.getElem?_append_left (by omega)]; exact f5 i hi, fun j d b' hd' hb' ho hn => ?_⟩, h5x⟩
    rcases spl j d b' hd' hb' with ⟨rfl, rfl, rfl⟩ | ⟨-, x1, x2⟩ | ⟨-, rfl, -⟩
    · exact f6 j (hd, fs) _ hi ha ho hn
    · exact f6 j d b' x1 x2 ho hn
    · rw [hnown] at ho; cases ho
/-- a number in a named cell is cut in two -/
theorem gcw_split {i k : Nat} {h : Nat × Nat} {fs : List ck_V} {q : ck_Q} (x : Int) (hi : T[i]? = some (h, fs)) (hk : fs[k]? = some (.inl q))
    (k1 : gck_W p l e R s m args below meth c Q D AC S tab L nL ρ0 wr G0 N0 H0 pc (A, st, T.set i (h, fs.set k (.inl (q.1, x, q.2.2)))) cells slots)
    (k2 : gck_W p l e R s m args below meth c Q D AC S tab L nL ρ0 wr G0 N0 H0 pc (A, st, T.set i (h, fs.set k (.inl (x + 1, q.2.1, q.2.2)))) cells slots) : gck_W p l e R s m args below meth c Q D AC S tab L nL ρ0 wr G0 N0 H0 pc (A, st, T) cells slots := by
  intro H ls vs locs hh
  obtain ⟨ρ, G, N, lv, h1, h2, h3, h4, h5, h6, h7⟩ := hh
  have hil : i < T.length := (List.getElem?_eq_some_iff.mp hi).1
  have hNl : i < N.length := by have := h4.2.1; dsimp only at this; omega
  obtain ⟨a, ha⟩ : ∃ a, N[i]? = some a := ⟨N[i], List.getElem?_eq_getElem hNl⟩
  have ht := h4.2.2.1 i _ a hi ha
  have hF : ∀ fs', gck_F wr G0 N0 H0 G N (T.set i (h, fs')) H := fun fs' => by
    have h5x := h5.2
    obtain ⟨f1, f2, f3, f4, f5, f6⟩ := h5.1
    refine ⟨⟨f1, f2, f3, f4, f5, fun j d b hd hb ho hn => ?_⟩, h5x⟩
    obtain ⟨d', e1, e2⟩ := ck_set_own (c := (h, fs')) ⟨_, hi, fun o => o⟩ j d hd ho
    exact f6 j d' b e1 hb e2 hn
  have key : (ck_tc D AC S tab L ρ G N H (h, fs.set k (.inl (q.1, x, q.2.2))) a) ∨ (ck_tc D AC S tab L ρ G N H (h, fs.set k (.inl (x + 1, q.2.1, q.2.2))) a) := by
    have go : ∀ (w : Value), ck_R S ρ G N (.inl q) w → (ck_R S ρ G N (.inl (q.1, x, q.2.2)) w ∨ ck_R S ρ G N (.inl (x + 1, q.2.1, q.2.2)) w) := by
      intro w hw
      obtain ⟨y, rfl, y1, y2, y3⟩ := hw
      by_cases hy : y.toInt ≤ x
      · exact Or.inl ⟨y, rfl, y1, hy, y3⟩
      · exact Or.inr ⟨y, rfl, by dsimp only; omega, y2, y3⟩
    obtain ⟨kd, n1⟩ := h
    have hkl : k < fs.length := (List.getElem?_eq_some_iff.mp hk).1
    have fin : ∀ (w : Value) (vs : List Value), ck_all (ck_R S ρ G N) fs vs → vs[k]? = some w → ∀ v', ck_R S ρ G N v' w → ck_all (ck_R S ρ G N) (fs.set k v') vs := by
      intro w vs hvs hw v' hv'
      refine ⟨by simp [hvs.1], fun j x' y hx hy => ?_⟩
      by_cases e : k = j
      · subst e
        rw [List.getElem?_set_self hkl] at hx
        cases hx
        cases hw.symm.trans hy
        exact hv'
      · rw [List.getElem?_set_ne e] at hx
        exact hvs.2 j x' y hx hy
    have fin2 : ∀ (f : Nat → Value), (∀ (j : Nat) (v : ck_V), fs[j]? = some v → ck_R S ρ G N v (f j)) → ∀ v', ck_R S ρ G N v' (f k) → ∀ (j : Nat) (v : ck_V), (fs.set k v')[j]? = some v → ck_R S ρ G N v (f j) := by
      intro f hf v' hv' j v hj
      by_cases e : k = j
      · subst e
        rw [List.getElem?_set_self hkl] at hj
        cases hj
        exact hv'
      · rw [List.getElem?_set_ne e] at hj
        exact hf j v hj
    unfold ck_tc at ht ⊢
    match kd, ht with
    | 0, ht =>
      obtain ⟨a1, a2, vs, a3, a4⟩ := ht
      obtain ⟨w, w1, w2⟩ := a4.get hk
      rcases go w w2 with g | g
      · exact Or.inl ⟨a1, a2, vs, a3, fin w vs a4 w1 _ g⟩
      · exact Or.inr ⟨a1, a2, vs, a3, fin w vs a4 w1 _ g⟩
    | 1, ht =>
      obtain ⟨a1, a2, f, a3, a4⟩ := ht
      rcases go _ (a4 k _ hk) with g | g
      · exact Or.inl ⟨a1, a2, f, by simpa using a3, fin2 f a4 _ g⟩
      · exact Or.inr ⟨a1, a2, f, by simpa using a3, fin2 f a4 _ g⟩
    | 2, ht => exact Or.inl trivial
    | 3, ht =>
      obtain ⟨a1, a2, ci, ks, vs, a3, a5, a4⟩ := ht
      obtain ⟨w, w1, w2⟩ := a4.get hk
      rcases go w w2 with g | g
      · exact Or.inl ⟨a1, a2, ci, ks, vs, a3, a5, fin w vs a4 w1 _ g⟩
      · exact Or.inr ⟨a1, a2, ci, ks, vs, a3, a5, fin w vs a4 w1 _ g⟩
    | 4, ht => exact Or.inl trivial
    | 5, ht =>
      obtain ⟨a1, cell, a2, a3, a4⟩ := ht
      obtain ⟨w, w1, w2⟩ := a4 k _ hk
      have f3 : ∀ v', ck_R S ρ G N v' w → ∀ (j : Nat) (v : ck_V), (fs.set k v')[j]? = some v → ∃ w, cell.slots[j]? = some w ∧ ck_R S ρ G N v w := by
        intro v' hv' j v hj
        by_cases e : k = j
        · subst e
          rw [List.getElem?_set_self hkl] at hj
          cases hj
          exact ⟨w, w1, hv'⟩
        · rw [List.getElem?_set_ne e] at hj
          exact a4 j v hj
      rcases go w w2 with g | g
      · exact Or.inl ⟨a1, cell, a2, a3, f3 _ g⟩
      · exact Or.inr ⟨a1, cell, a2, a3, f3 _ g⟩
    | 6, ht =>
      obtain ⟨a1, cell, a2, a3, a4⟩ := ht
      obtain ⟨w, w1, w2⟩ := a4 k _ hk
      have f3 : ∀ v', ck_R S ρ G N v' w → ∀ (j : Nat) (v : ck_V), (fs.set k v')[j]? = some v → ∃ w, cell.slots[S 3 + j]? = some w ∧ ck_R S ρ G N v w := by
        intro v' hv' j v hj
        by_cases e : k = j
        · subst e
          rw [List.getElem?_set_self hkl] at hj
          cases hj
          exact ⟨w, w1, hv'⟩
        · rw [List.getElem?_set_ne e] at hj
          exact a4 j v hj
      rcases go w w2 with g | g
      · exact Or.inl ⟨a1, cell, a2, a3, f3 _ g⟩
      · exact Or.inr ⟨a1, cell, a2, a3, f3 _ g⟩
    | k7 + 7, ht =>
      obtain ⟨a1, a2, ac, n0, sg, f, a3, a4, a5, a6⟩ := ht
      rcases go _ (a6 k _ hk) with g | g
      · exact Or.inl ⟨a1, a2, ac, n0, sg, f, a3, a4, by simpa using a5, fin2 (fun j => f (k7 + j)) a6 _ g⟩
      · exact Or.inr ⟨a1, a2, ac, n0, sg, f, a3, a4, by simpa using a5, fin2 (fun j => f (k7 + j)) a6 _ g⟩
  rcases key with g | g
  · exact k1 H ls vs locs ⟨ρ, G, N, lv, h1, h2, h3, h4.upd hi (fun b hb _ => by cases ha.symm.trans hb; exact g), hF _, h6, h7⟩
  · exact k2 H ls vs locs ⟨ρ, G, N, lv, h1, h2, h3, h4.upd hi (fun b hb _ => by cases ha.symm.trans hb; exact g), hF _, h6, h7⟩
/-- a ghost for the local that was written last -/
theorem gcw_tag1 {i g : Nat} {lo hi : Int} (hg : ck_ugA g (A, st, T) = false) (hr : g < 100 ∨ 200 ≤ g)
    (kk : gck_W p l e R s m args below meth c Q D AC S tab L nL ρ0 wr G0 N0 H0 pc ((i, .inl (lo, hi, some (g, 0))) :: A, st, T) cells slots) : gck_W p l e R s m args below meth c Q D AC S tab L nL ρ0 wr G0 N0 H0 pc ((i, .inl (lo, hi, none)) :: A, st, T) cells slots := by
  intro H ls vs locs h
  obtain ⟨ρ, G, N, lv, h1, h2, h3, h4, h5, h6, h7⟩ := h
  obtain ⟨w, lv', rfl, ⟨e0, ⟨x, ex, x1, x2, -⟩⟩, h2'⟩ := h2.uncons
  unfold ck_ugA at hg
  simp only [Bool.or_eq_false_iff] at hg
  obtain ⟨⟨g1, g2⟩, g3⟩ := hg
  have hρ : ∀ h, h ≠ g → (fun h => if h = g then x.toInt else ρ h) h = ρ h := fun h hne => by simp [hne]
  refine kk H ls vs locs ⟨fun h => if h = g then x.toInt else ρ h, G, N, w :: lv', h1, ck_all.cons ⟨e0, x, ex, x1, x2, fun g' c' hg' => ?_⟩ (h2'.mono fun q w hq hw => ⟨hw.1, hw.2.ghost hρ (by simpa using List.any_eq_false.mp g1 q hq)⟩), h3.mono (fun k v hk hv => hv.ghost hρ (by simpa using List.any_eq_false.mp g2 k hk)), ⟨h4.1, h4.2.1, fun j d a hj ha => ?_, h4.2.2.2⟩, h5, h6, fun h a1 a2 => ?_⟩
  · cases hg'
    show x.toInt = (if g = g then x.toInt else ρ g) + 0
    rw [if_pos rfl]
    omega
  · have hd := List.any_eq_false.mp g3 d (List.mem_of_getElem? hj)
    have := (h4.2.2.1 j d a hj ha).mapV (ρ' := fun h => if h = g then x.toInt else ρ h) (G' := G) (N' := N) id (fun _ => rfl) (fun _ => rfl) (fun k v hk hv => hv.ghost hρ (by
      have h9 : ¬ (d.2.any (ck_ug g) = true) := hd
      have h8 : d.2.any (ck_ug g) = false := by simpa using h9
      simpa using List.any_eq_false.mp h8 k hk))
    simpa using this
  · show (if h = g then x.toInt else ρ h) = ρ0 h
    rw [if_neg (by omega)]
    exact h7 h a1 a2
end CKMO
