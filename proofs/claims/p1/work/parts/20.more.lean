/-! ===== more that is done between instructions: a typed object gets a name; a number is cut in two; types are made wider; ghosts ===== -/
section CKMO
variable {p : Program} {l : Launch} {e : Env} {R : Room} {s : State} {m : MethodId} {args : Array Value} {below : List Frame} {meth : Method} {c : Code} {cells slots : Nat} {Q : State → Prop}
variable {cc : ByteArray} {pc pc2 nL nS : Nat} {D : va_G} {AC : Nat → ClassId} {S : Nat → Nat} {tab : List ck_D} {L : Heap} {ρ0 : Nat → Int} {G0 : Nat → Nat} {N0 : List Nat} {H0 : Heap}
variable {A : List (Nat × ck_V)} {st : List ck_V} {T : List ck_C}
def ck_setl (A : List (Nat × ck_V)) (k : Nat) (v : ck_V) : List (Nat × ck_V) := A.map (fun q => if q.1 == k then (q.1, v) else q)
/-- a typed object in a local gets a name -/
theorem cw_focus {k τ ci : Nat} {ks : List ck_V} (hk : ck_loc A k = some (.inr (.inr (2, τ)))) (hτ : tab[τ]? = some (.inr (ci, ks))) (hpl : ks.all ck_plain = true)
    (kk : ck_W p l e R s m args below meth c Q D AC S tab L nL ρ0 G0 N0 H0 pc (ck_setl A k (.inr (.inr (1, T.length))), st, T ++ [((3, τ), ks)]) cells slots) : ck_W p l e R s m args below meth c Q D AC S tab L nL ρ0 G0 N0 H0 pc (A, st, T) cells slots := by
  intro H ls vs locs h
  obtain ⟨ρ, G, N, lv, h1, h2, h3, h4, h5, h6, h7⟩ := h
  obtain ⟨j, v, g1, ⟨a, rfl, ha, hz⟩⟩ := ck_loc_ok h2 hk
  have hls : ls[k]? = some (.val (.ref a)) := lv_at h1 j g1
  have hlen : N.length = T.length := h4.2.1
  have hty := (h4.1.2.2 a (by rw [ha]; exact hz)).2
  rw [ha] at hty
  unfold ck_ty at hty
  rw [hτ] at hty
  obtain ⟨ws, y1, y2⟩ := hty
  have hnm : (N ++ [a])[T.length]? = some a := by rw [← hlen]; simp
  have spl : ∀ (j : Nat) (d : ck_C) (b : Nat), (T ++ [((3, τ), ks)])[j]? = some d → (N ++ [a])[j]? = some b → (T[j]? = some d ∧ N[j]? = some b) ∨ (j = T.length ∧ d = ((3, τ), ks) ∧ b = a) := by
    intro j d b hj hb
    by_cases e : j < T.length
    · rw [List.getElem?_append_left e] at hj
      rw [List.getElem?_append_left (by omega)] at hb
      exact Or.inl ⟨hj, hb⟩
    · rw [List.getElem?_append_right (by omega)] at hj
      rw [List.getElem?_append_right (by omega)] at hb
      have e0 : j - T.length = 0 := by
        have := (List.getElem?_eq_some_iff.mp hj).1
        simp at this
        omega
      rw [e0] at hj
      rw [show j - N.length = 0 by omega] at hb
      cases hj
      cases hb
      exact Or.inr ⟨by omega, rfl, rfl⟩
  refine kk H ls vs locs ⟨ρ, G, N ++ [a], lv, h1, ⟨by simp [ck_setl, h2.1], fun i q w hq hw => ?_⟩, ck_all_ext h3, ⟨h4.1, by simp [hlen], fun i d b hi hb => ?_, fun i1 i2 d1 d2 b k1 k2 o1 o2 n1 n2 => ?_⟩, ?_, h6, h7⟩
  · simp only [ck_setl, List.getElem?_map] at hq
    obtain ⟨q0, hq0, rfl⟩ := Option.map_eq_some_iff.mp hq
    obtain ⟨r1, r2⟩ := h2.2 i q0 w hq0 hw
    split
    · rename_i he
      have he : q0.1 = k := by simpa using he
      refine ⟨r1, a, hnm, ?_⟩
      have hsl : ls[w.1]? = some (.val w.2) := h1.2.2 w (List.mem_of_getElem? hw)
      rw [← r1, he, hls] at hsl
      have hval : Value.ref a = w.2 := by simpa using hsl
      exact hval.symm
    · exact ⟨r1, r2.ext _⟩
  · rcases spl i d b hi hb with ⟨x1, x2⟩ | ⟨-, rfl, rfl⟩
    · exact (h4.2.2.1 i d b x1 x2).ext _
    · exact ⟨ha, hz, ci, ks, ws, hτ, y1, y2.mono fun k v hk h => ck_R.plain (List.all_eq_true.mp hpl k hk) h⟩
  · rcases spl i1 d1 b k1 n1 with ⟨x1, x2⟩ | ⟨-, rfl, -⟩
    · rcases spl i2 d2 b k2 n2 with ⟨z1, z2⟩ | ⟨-, rfl, -⟩
      · exact h4.2.2.2 i1 i2 d1 d2 b x1 z1 o1 o2 x2 z2
      · simp [ck_own] at o2
    · simp [ck_own] at o1
  · obtain ⟨f1, f2, f3, f4, f5, f6⟩ := h5
    refine ⟨f1, f2, f3, by simp; omega, fun i hi => by rw [List.getElem?_append_left (by omega)]; exact f5 i hi, fun i d b hd hb ho hn => ?_⟩
    rcases spl i d b hd hb with ⟨x1, x2⟩ | ⟨-, rfl, -⟩
    · exact f6 i d b x1 x2 ho hn
    · simp [ck_own] at ho
/-- a cell's contents, otherwise said, for all or for two cases -/
theorem ck_tc.upd {ρ : Nat → Int} {G : Nat → Nat} {N : List Nat} {H : Heap} {h : Nat × Nat} {fs : List ck_V} {k a : Nat} {v v' : ck_V} (ht : ck_tc D AC S tab L ρ G N H (h, fs) a) (hk : fs[k]? = some v) (hv : ∀ w, ck_R S ρ G N v w → ck_R S ρ G N v' w) : ck_tc D AC S tab L ρ G N H (h, fs.set k v') a := by
  have hall : ∀ {vs : List Value}, ck_all (ck_R S ρ G N) fs vs → ck_all (ck_R S ρ G N) (fs.set k v') vs := by
    intro vs hvs
    refine ⟨by simp [hvs.1], fun i x y hx hy => ?_⟩
    by_cases e : k = i
    · subst e
      rw [List.getElem?_set_self (List.getElem?_eq_some_iff.mp hk).1] at hx
      cases hx
      exact hv y (hvs.2 k v y hk hy)
    · rw [List.getElem?_set_ne e] at hx
      exact hvs.2 i x y hx hy
  obtain ⟨k1, n1⟩ := h
  unfold ck_tc at ht ⊢
  match k1, ht with
  | 0, ht => obtain ⟨h1, h2, vs, h3, h4⟩ := ht; exact ⟨h1, h2, vs, h3, hall h4⟩
  | 1, ht =>
    obtain ⟨h1, h2, f, h3, h4⟩ := ht
    refine ⟨h1, h2, f, by simpa using h3, fun j x hj => ?_⟩
    dsimp only at hj
    by_cases e : k = j
    · subst e
      rw [List.getElem?_set_self (List.getElem?_eq_some_iff.mp hk).1] at hj
      cases hj
      exact hv _ (h4 k v hk)
    · rw [List.getElem?_set_ne e] at hj
      exact h4 j x hj
  | 2, ht => exact trivial
  | 3, ht => obtain ⟨h1, h2, ci, ks, vs, h3, h4, h5⟩ := ht; exact ⟨h1, h2, ci, ks, vs, h3, h4, hall h5⟩
  | 4, ht => exact trivial
  | 5, ht =>
    obtain ⟨h1, cell, h2, h3, h4⟩ := ht
    refine ⟨h1, cell, h2, h3, fun j x hj => ?_⟩
    dsimp only at hj
    by_cases e : k = j
    · subst e
      rw [List.getElem?_set_self (List.getElem?_eq_some_iff.mp hk).1] at hj
      cases hj
      obtain ⟨w, w1, w2⟩ := h4 k v hk
      exact ⟨w, w1, hv w w2⟩
    · rw [List.getElem?_set_ne e] at hj
      exact h4 j x hj
  | n + 6, ht => exact trivial
theorem ck_H.upd {ρ : Nat → Int} {G : Nat → Nat} {N : List Nat} {H : Heap} {h : Nat × Nat} {fs fs' : List ck_V} {i : Nat} (h4 : ck_H D AC S tab L ρ G N T H) (hi : T[i]? = some (h, fs)) (hc : ∀ a, N[i]? = some a → ck_tc D AC S tab L ρ G N H (h, fs) a → ck_tc D AC S tab L ρ G N H (h, fs') a) : ck_H D AC S tab L ρ G N (T.set i (h, fs')) H := by
  obtain ⟨k1, k2, k3, k4⟩ := h4
  have hil : i < T.length := (List.getElem?_eq_some_iff.mp hi).1
  have spl : ∀ (j : Nat) (d : ck_C), (T.set i (h, fs'))[j]? = some d → (j = i ∧ d = (h, fs')) ∨ (j ≠ i ∧ T[j]? = some d) := by
    intro j d hj
    by_cases e : i = j
    · subst e
      rw [List.getElem?_set_self hil] at hj
      cases hj
      exact Or.inl ⟨rfl, rfl⟩
    · rw [List.getElem?_set_ne e] at hj
      exact Or.inr ⟨Ne.symm e, hj⟩
  refine ⟨k1, by simp [k2], fun j d a hj ha => ?_, fun j1 j2 d1 d2 a e1 e2 o1 o2 n1 n2 => ?_⟩
  · rcases spl j d hj with ⟨rfl, rfl⟩ | ⟨-, hj'⟩
    · exact hc a ha (k3 j _ a hi ha)
    · exact k3 j d a hj' ha
  · have f : ∀ (j : Nat) (d : ck_C), (T.set i (h, fs'))[j]? = some d → ck_own d = true → ∃ d', T[j]? = some d' ∧ ck_own d' = true := by
      intro j d hd ho
      rcases spl j d hd with ⟨rfl, rfl⟩ | ⟨-, hj'⟩
      · exact ⟨_, hi, ho⟩
      · exact ⟨d, hj', ho⟩
    obtain ⟨x1, y1, z1⟩ := f j1 d1 e1 o1
    obtain ⟨x2, y2, z2⟩ := f j2 d2 e2 o2
    exact k4 j1 j2 x1 x2 a y1 y2 z1 z2 n1 n2
/-- a number in a named cell is cut in two -/
theorem cw_split {i k : Nat} {h : Nat × Nat} {fs : List ck_V} {q : ck_Q} (x : Int) (hi : T[i]? = some (h, fs)) (hk : fs[k]? = some (.inl q))
    (k1 : ck_W p l e R s m args below meth c Q D AC S tab L nL ρ0 G0 N0 H0 pc (A, st, T.set i (h, fs.set k (.inl (q.1, x, q.2.2)))) cells slots)
    (k2 : ck_W p l e R s m args below meth c Q D AC S tab L nL ρ0 G0 N0 H0 pc (A, st, T.set i (h, fs.set k (.inl (x + 1, q.2.1, q.2.2)))) cells slots) : ck_W p l e R s m args below meth c Q D AC S tab L nL ρ0 G0 N0 H0 pc (A, st, T) cells slots := by
  intro H ls vs locs hh
  obtain ⟨ρ, G, N, lv, h1, h2, h3, h4, h5, h6, h7⟩ := hh
  have hil : i < T.length := (List.getElem?_eq_some_iff.mp hi).1
  have hNl : i < N.length := by have := h4.2.1; dsimp only at this; omega
  obtain ⟨a, ha⟩ : ∃ a, N[i]? = some a := ⟨N[i], List.getElem?_eq_getElem hNl⟩
  have ht := h4.2.2.1 i _ a hi ha
  have hF : ∀ fs', ck_F G0 N0 H0 G N (T.set i (h, fs')) H := fun fs' => by
    obtain ⟨f1, f2, f3, f4, f5, f6⟩ := h5
    refine ⟨f1, f2, f3, f4, f5, fun j d b hd hb ho hn => ?_⟩
    obtain ⟨d', e1, e2⟩ := ck_set_own (c := (h, fs')) ⟨_, hi, fun o => o⟩ j d hd ho
    exact f6 j d' b e1 hb e2 hn
  have key : (ck_tc D AC S tab L ρ G N H (h, fs.set k (.inl (q.1, x, q.2.2))) a) ∨ (ck_tc D AC S tab L ρ G N H (h, fs.set k (.inl (x + 1, q.2.1, q.2.2))) a) := by
    have go : ∀ (w : Value), ck_R S ρ G N (.inl q) w → (ck_R S ρ G N (.inl (q.1, x, q.2.2)) w ∨ ck_R S ρ G N (.inl (x + 1, q.2.1, q.2.2)) w) := by
      intro w hw
      obtain ⟨y, rfl, y1, y2, y3⟩ := hw
      by_cases hy : y.toInt ≤ x
      · exact Or.inl ⟨y, rfl, y1, hy, y3⟩
      · exact Or.inr ⟨y, rfl, by dsimp only; omega, y2, y3⟩
    obtain ⟨kd, n1⟩ := h
    have hkl : k < fs.length := (List.getElem?_eq_some_iff.mp hk).1
    have fin : ∀ (w : Value) (vs : List Value), ck_all (ck_R S ρ G N) fs vs → vs[k]? = some w → ∀ v', ck_R S ρ G N v' w → ck_all (ck_R S ρ G N) (fs.set k v') vs := by
      intro w vs hvs hw v' hv'
      refine ⟨by simp [hvs.1], fun j x' y hx hy => ?_⟩
      by_cases e : k = j
      · subst e
        rw [List.getElem?_set_self hkl] at hx
        cases hx
        cases hw.symm.trans hy
        exact hv'
      · rw [List.getElem?_set_ne e] at hx
        exact hvs.2 j x' y hx hy
    have fin2 : ∀ (f : Nat → Value), (∀ (j : Nat) (v : ck_V), fs[j]? = some v → ck_R S ρ G N v (f j)) → ∀ v', ck_R S ρ G N v' (f k) → ∀ (j : Nat) (v : ck_V), (fs.set k v')[j]? = some v → ck_R S ρ G N v (f j) := by
      intro f hf v' hv' j v hj
      by_cases e : k = j
      · subst e
        rw [List.getElem?_set_self hkl] at hj
        cases hj
        exact hv'
      · rw [List.getElem?_set_ne e] at hj
        exact hf j v hj
    unfold ck_tc at ht ⊢
    match kd, ht with
    | 0, ht =>
      obtain ⟨a1, a2, vs, a3, a4⟩ := ht
      obtain ⟨w, w1, w2⟩ := a4.get hk
      rcases go w w2 with g | g
      · exact Or.inl ⟨a1, a2, vs, a3, fin w vs a4 w1 _ g⟩
      · exact Or.inr ⟨a1, a2, vs, a3, fin w vs a4 w1 _ g⟩
    | 1, ht =>
      obtain ⟨a1, a2, f, a3, a4⟩ := ht
      rcases go _ (a4 k _ hk) with g | g
      · exact Or.inl ⟨a1, a2, f, by simpa using a3, fin2 f a4 _ g⟩
      · exact Or.inr ⟨a1, a2, f, by simpa using a3, fin2 f a4 _ g⟩
    | 2, ht => exact Or.inl trivial
    | 3, ht =>
      obtain ⟨a1, a2, ci, ks, vs, a3, a5, a4⟩ := ht
      obtain ⟨w, w1, w2⟩ := a4.get hk
      rcases go w w2 with g | g
      · exact Or.inl ⟨a1, a2, ci, ks, vs, a3, a5, fin w vs a4 w1 _ g⟩
      · exact Or.inr ⟨a1, a2, ci, ks, vs, a3, a5, fin w vs a4 w1 _ g⟩
    | 4, ht => exact Or.inl trivial
    | 5, ht =>
      obtain ⟨a1, cell, a2, a3, a4⟩ := ht
      obtain ⟨w, w1, w2⟩ := a4 k _ hk
      have f3 : ∀ v', ck_R S ρ G N v' w → ∀ (j : Nat) (v : ck_V), (fs.set k v')[j]? = some v → ∃ w, cell.slots[j]? = some w ∧ ck_R S ρ G N v w := by
        intro v' hv' j v hj
        by_cases e : k = j
        · subst e
          rw [List.getElem?_set_self hkl] at hj
          cases hj
          exact ⟨w, w1, hv'⟩
        · rw [List.getElem?_set_ne e] at hj
          exact a4 j v hj
      rcases go w w2 with g | g
      · exact Or.inl ⟨a1, cell, a2, a3, f3 _ g⟩
      · exact Or.inr ⟨a1, cell, a2, a3, f3 _ g⟩
    | n + 6, ht => exact Or.inl trivial
  rcases key with g | g
  · exact k1 H ls vs locs ⟨ρ, G, N, lv, h1, h2, h3, h4.upd hi (fun b hb _ => by cases ha.symm.trans hb; exact g), hF _, h6, h7⟩
  · exact k2 H ls vs locs ⟨ρ, G, N, lv, h1, h2, h3, h4.upd hi (fun b hb _ => by cases ha.symm.trans hb; exact g), hF _, h6, h7⟩
/-- a ghost for the local that was written last -/
theorem cw_tag1 {i g : Nat} {lo hi : Int} (hg : ck_ugA g (A, st, T) = false) (hr : g < 100 ∨ 200 ≤ g)
    (kk : ck_W p l e R s m args below meth c Q D AC S tab L nL ρ0 G0 N0 H0 pc ((i, .inl (lo, hi, some (g, 0))) :: A, st, T) cells slots) : ck_W p l e R s m args below meth c Q D AC S tab L nL ρ0 G0 N0 H0 pc ((i, .inl (lo, hi, none)) :: A, st, T) cells slots := by
  intro H ls vs locs h
  obtain ⟨ρ, G, N, lv, h1, h2, h3, h4, h5, h6, h7⟩ := h
  obtain ⟨w, lv', rfl, ⟨e0, ⟨x, ex, x1, x2, -⟩⟩, h2'⟩ := h2.uncons
  unfold ck_ugA at hg
  simp only [Bool.or_eq_false_iff] at hg
  obtain ⟨⟨g1, g2⟩, g3⟩ := hg
  have hρ : ∀ h, h ≠ g → (fun h => if h = g then x.toInt else ρ h) h = ρ h := fun h hne => by simp [hne]
  refine kk H ls vs locs ⟨fun h => if h = g then x.toInt else ρ h, G, N, w :: lv', h1, ck_all.cons ⟨e0, x, ex, x1, x2, fun g' c' hg' => ?_⟩ (h2'.mono fun q w hq hw => ⟨hw.1, hw.2.ghost hρ (by simpa using List.any_eq_false.mp g1 q hq)⟩), h3.mono (fun k v hk hv => hv.ghost hρ (by simpa using List.any_eq_false.mp g2 k hk)), ⟨h4.1, h4.2.1, fun j d a hj ha => ?_, h4.2.2.2⟩, h5, h6, fun h a1 a2 => ?_⟩
  · cases hg'
    show x.toInt = (if g = g then x.toInt else ρ g) + 0
    rw [if_pos rfl]
    omega
  · have hd := List.any_eq_false.mp g3 d (List.mem_of_getElem? hj)
    have := (h4.2.2.1 j d a hj ha).mapV (ρ' := fun h => if h = g then x.toInt else ρ h) (G' := G) (N' := N) id (fun _ => rfl) (fun _ => rfl) (fun k v hk hv => hv.ghost hρ (by
      have h9 : ¬ (d.2.any (ck_ug g) = true) := hd
      have h8 : d.2.any (ck_ug g) = false := by simpa using h9
      simpa using List.any_eq_false.mp h8 k hk))
    simpa using this
  · show (if h = g then x.toInt else ρ h) = ρ0 h
    rw [if_neg (by omega)]
    exact h7 h a1 a2
end CKMO
