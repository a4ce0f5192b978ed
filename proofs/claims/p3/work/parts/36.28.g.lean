/-! the second checker: 28 -/
def gck_op1 (tab : List ck_D) (np : Nat) (o : ck_O) (B : ck_A) : Option (List ck_A) := match o.1 with
  | 0 => (match B.2.2[o.2.1]? with
    | some d => if ck_fitsT tab o.2.1 o.2.2.1 d = true ∧ o.2.2.1 ≠ 0 ∧ np ≤ o.2.1 ∧ gk_isz o.2.2.1 = false then some [ck_clo o.2.1 o.2.2.1 B] else none
    | none => none)
  | 1 => (match ck_loc B.1 o.2.1 with
    | some (.inr (.inr (2, τ))) => (match tab[τ]? with
      | some (.inr (_, ks)) => if ks.all ck_plain = true then some [(ck_setl B.1 o.2.1 (.inr (.inr (1, B.2.2.length))), B.2.1, B.2.2 ++ [((3, τ), ks)])] else none
      | _ => none)
    | _ => none)
  | 2 => (match B.2.2[o.2.1]? with
    | some (h, fs) => (match fs[o.2.2.1]? with
      | some (.inl q) => if q.1 ≤ o.2.2.2.1 ∧ o.2.2.2.1 < q.2.1 then some [(B.1, B.2.1, B.2.2.set o.2.1 (h, fs.set o.2.2.1 (.inl (q.1, o.2.2.2.1, q.2.2)))), (B.1, B.2.1, B.2.2.set o.2.1 (h, fs.set o.2.2.1 (.inl (o.2.2.2.1 + 1, q.2.1, q.2.2))))] else some [B]
      | _ => some [B])
    | none => some [B])
  | 3 => (match ck_loc B.1 o.2.1 with
    | some (.inl q) => if q.1 ≤ o.2.2.2.1 ∧ o.2.2.2.1 < q.2.1 then some [(ck_setl B.1 o.2.1 (.inl (q.1, o.2.2.2.1, q.2.2)), B.2.1, B.2.2), (ck_setl B.1 o.2.1 (.inl (o.2.2.2.1 + 1, q.2.1, q.2.2)), B.2.1, B.2.2)] else some [B]
    | _ => none)
  | 4 => if ck_ugA o.2.2.2.1.toNat (ck_ungA o.2.2.2.1.toNat B) = false ∧ 200 ≤ o.2.2.2.1.toNat then (match ck_tagK (ck_ungA o.2.2.2.1.toNat B).2.2 o.2.1 o.2.2.1 o.2.2.2.1.toNat with
    | some T' => some [((ck_ungA o.2.2.2.1.toNat B).1, (ck_ungA o.2.2.2.1.toNat B).2.1, T')]
    | none => none) else none
  | 6 => (match B.2.1[o.2.1]? with
    | some (.inr (.inr (1, i))) => (match B.2.2[i]? with
      | some d => if ck_fitsT tab i o.2.2.1 d = true ∧ o.2.2.1 ≠ 0 ∧ np ≤ i ∧ gk_isz o.2.2.1 = false then some [ck_clo i o.2.2.1 B] else none
      | none => none)
    | _ => none)
  | 7 => if ck_drok o.2.1 (ck_drp o.2.1 B) = true ∧ np ≤ o.2.1 ∧ o.2.1 ≤ B.2.2.length then some [ck_drp o.2.1 B] else none
  | 8 => (match ck_base B o.2.2.2.2 with
    | some b => (match B.2.2[o.2.1]? with
      | some (h, fs) => (match fs[o.2.2.1]? with
        | some (.inr (.inr (2, τ))) => (match tab[τ]? with
          | some (.inl (_, nn, sg)) => if (h.1 = 0 ∨ h.1 = 3) ∧ b + ck_cnt o.2.2.2.2 ≤ nn ∧ (List.range (ck_cnt o.2.2.2.2)).all (fun j => ck_plain (ck_kat sg (b + j))) = true then some [(B.1, B.2.1, B.2.2.set o.2.1 (h, fs.set o.2.2.1 (.inr (.inr (1, B.2.2.length)))) ++ [((b + 7, τ), (List.range (ck_cnt o.2.2.2.2)).map (fun j => ck_kat sg (b + j)))])] else some [B]
          | _ => none)
        | _ => none)
      | none => none)
    | none => some [B])
  | 9 => (match o.2.2.2.2 with
    | [(ci, fj), (vv, _)] => (match B.2.2[ci]? with
      | some (_, gs) => (match gs[fj]? with
        | some (.inl qq) => if ck_one qq = some vv then (match B.2.2[o.2.1]? with
          | some (h, fs) => (match fs[o.2.2.1]? with
            | some (.inl (lo, hi, some (g, c))) => if (h.1 = 0 ∨ h.1 = 1) ∧ lo ≤ o.2.2.2.1 ∧ o.2.2.2.1 < hi then some [ck_tgA g (lo - c) (o.2.2.2.1 - c) B, ck_tgA g (o.2.2.2.1 + 1 - c) (hi - c) B] else some [B]
            | _ => some [B])
          | none => some [B]) else some [B]
        | _ => some [B])
      | none => some [B])
    | _ => none)
  | _ => none
def gck_opsK (tab : List ck_D) (np : Nat) (k : ck_A → Bool) : List ck_O → ck_A → Bool
  | [], B => k B
  | o :: t, B => (match gck_op1 tab np o B with
    | some Bs => ck_alT (gck_opsK tab np k t) Bs
    | none => false)
section CKOP
variable {p : Program} {l : Launch} {e : Env} {R : Room} {s : State} {m : MethodId} {args : Array Value} {below : List Frame} {meth : Method} {c : Code} {ce sl : Nat} {Q : State → Prop}
variable {pc nL : Nat} {nb : Nat × Nat} {al : List (List ck_C × (Option ck_V ⊕ Nat))} {D : va_G} {AC : Nat → ClassId} {S : Nat → Nat} {tab : List ck_D} {L : Heap} {ρ0 : Nat → Int} {wr : List Nat} {G0 : Nat → Nat} {N0 : List Nat} {H0 : Heap}
variable {A : List (Nat × ck_V)} {st : List ck_V} {T : List ck_C}
theorem gcw_ungA {g : Nat} {B : ck_A} (kk : gck_W p l e R s m args below meth c Q D AC S tab L nL ρ0 wr G0 N0 H0 pc (ck_ungA g B) ce sl) : gck_W p l e R s m args below meth c Q D AC S tab L nL ρ0 wr G0 N0 H0 pc B ce sl := by
  intro H ls vs locs h
  obtain ⟨ρ, G, N, lv, h1, h2, h3, h4, h5, h6, h7⟩ := h
  exact kk H ls vs locs ⟨ρ, G, N, lv, h1, h2.map _ (fun q w hw => ⟨hw.1, ck_ung_ok hw.2⟩), h3.map _ (fun k v hv => ck_ung_ok hv), h4.mapV (ρ' := ρ) (ck_ung g) (fun k v hv => ck_ung_ok hv), h5.mapV _, h6, h7⟩
/-- a number with a ghost, and all that the ghost says, is cut in two -/
theorem gcw_splitG {B : ck_A} {i k g : Nat} {h : Nat × Nat} {fs : List ck_V} {lo hi' d : Int} (x : Int) (hi : B.2.2[i]? = some (h, fs)) (hk : fs[k]? = some (.inl (lo, hi', some (g, d)))) (hkd : h.1 = 0 ∨ h.1 = 1)
    (k1 : gck_W p l e R s m args below meth c Q D AC S tab L nL ρ0 wr G0 N0 H0 pc (ck_tgA g (lo - d) (x - d) B) ce sl)
    (k2 : gck_W p l e R s m args below meth c Q D AC S tab L nL ρ0 wr G0 N0 H0 pc (ck_tgA g (x + 1 - d) (hi' - d) B) ce sl) : gck_W p l e R s m args below meth c Q D AC S tab L nL ρ0 wr G0 N0 H0 pc B ce sl := by
  intro H ls vs locs hh
  obtain ⟨ρ, G, N, lv, h1, h2, h3, h4, h5, h6, h7⟩ := hh
  have hil : i < B.2.2.length := (List.getElem?_eq_some_iff.mp hi).1
  have hNl : i < N.length := by have := h4.2.1; omega
  obtain ⟨a, ha⟩ : ∃ a, N[i]? = some a := ⟨N[i], List.getElem?_eq_getElem hNl⟩
  obtain ⟨f, f1, -⟩ := ck_vals (h4.2.2.1 i _ a hi ha) (by rcases hkd with z | z; exact Or.inl z; exact Or.inr (Or.inl z))
  obtain ⟨y, -, y1, y2, y3⟩ := f1 k _ hk
  have e := y3 g d rfl
  dsimp only at y1 y2
  have hsx : gck_sx D AC S tab L nL ρ0 wr G0 N0 H0 B H ls vs locs ρ G N := ⟨lv, h1, h2, h3, h4, h5, h6, h7⟩
  by_cases hx : y.toInt ≤ x
  · exact k1 H ls vs locs (hsx.tg (by omega) (by omega)).out
  · exact k2 H ls vs locs (hsx.tg (by omega) (by omega)).out
/-- a ghost for a number in a named cell -/
theorem gcw_tagK {B : ck_A} {i k g : Nat} {T' : List ck_C} (hg : ck_ugA g B = false) (hr : g < 100 ∨ 200 ≤ g) (ht : ck_tagK B.2.2 i k g = some T')
    (kk : gck_W p l e R s m args below meth c Q D AC S tab L nL ρ0 wr G0 N0 H0 pc (B.1, B.2.1, T') ce sl) : gck_W p l e R s m args below meth c Q D AC S tab L nL ρ0 wr G0 N0 H0 pc B ce sl := by
  obtain ⟨A, st, T⟩ := B
  intro H ls vs locs h
  obtain ⟨ρ, G, N, lv, h1, h2, h3, h4, h5, h6, h7⟩ := h
  dsimp only at h2 h3 h4 h5 ht kk
  unfold ck_tagK at ht
  split at ht
  · rename_i hh fs hi
    split at ht
    · rename_i lo hi' tg hk
      split at ht
      · rename_i hkind
        cases ht
        have hil : i < T.length := (List.getElem?_eq_some_iff.mp hi).1
        have hkl : k < fs.length := (List.getElem?_eq_some_iff.mp hk).1
        have hNl : i < N.length := by have := h4.2.1; omega
        obtain ⟨a, ha⟩ : ∃ a, N[i]? = some a := ⟨N[i], List.getElem?_eq_getElem hNl⟩
        have htc := h4.2.2.1 i _ a hi ha
        have hval : ∃ f : Nat → Value, (∀ (j : Nat) (v : ck_V), fs[j]? = some v → ck_R S ρ G N v (f j)) ∧ ∀ (ρ' : Nat → Int) (fs' : List ck_V), fs'.length = fs.length → (∀ (j : Nat) (v : ck_V), fs'[j]? = some v → ck_R S ρ' G N v (f j)) → ck_tc D AC S tab L ρ' G N H (hh, fs') a := by
          obtain ⟨f, f1, f2⟩ := ck_vals htc hkind
          exact ⟨f, f1, fun ρ' fs' e1 e2 => f2 ρ' N (_, fs') rfl e1 e2⟩
        obtain ⟨f, f1, f2⟩ := hval
        obtain ⟨x, ex, x1, x2, -⟩ := f1 k _ hk
        unfold ck_ugA at hg
        simp only [Bool.or_eq_false_iff] at hg
        obtain ⟨⟨g1, g2⟩, g3⟩ := hg
        have hρ : ∀ h, h ≠ g → (fun h => if h = g then x.toInt else ρ h) h = ρ h := fun h hne => by simp [hne]
        have gcell : ∀ (d : ck_C), d ∈ T → ∀ v ∈ d.2, ck_ug g v = false := fun d hd v hv => by
          have h9 : ¬ (d.2.any (ck_ug g) = true) := List.any_eq_false.mp g3 d hd
          have h8 : d.2.any (ck_ug g) = false := by simpa using h9
          simpa using List.any_eq_false.mp h8 v hv
        refine kk H ls vs locs ⟨fun h => if h = g then x.toInt else ρ h, G, N, lv, h1, h2.mono (fun q w hq hw => ⟨hw.1, hw.2.ghost hρ (by simpa using List.any_eq_false.mp g1 q hq)⟩), h3.mono (fun k v hk hv => hv.ghost hρ (by simpa using List.any_eq_false.mp g2 k hk)), ⟨h4.1, by simp [h4.2.1], fun j d b hj hb => ?_, fun j1 j2 d1 d2 b e1 e2 o1 o2 n1 n2 => ?_⟩, ?_, h6, fun h a1 a2 => ?_⟩
        · by_cases e : i = j
          · subst e
            rw [List.getElem?_set_self hil] at hj
            cases hj
            cases ha.symm.trans hb
            refine f2 _ _ (by simp) fun j v hv => ?_
            by_cases e : k = j
            · subst e
              rw [List.getElem?_set_self hkl] at hv
              cases hv
              refine ⟨x, ex, x1, x2, fun g' c' hg' => ?_⟩
              cases hg'
              show x.toInt = (if g = g then x.toInt else ρ g) + 0
              rw [if_pos rfl]
              omega
            · rw [List.getElem?_set_ne e] at hv
              exact (f1 j v hv).ghost hρ (gcell _ (List.mem_of_getElem? hi) v (List.mem_of_getElem? hv))
          · rw [List.getElem?_set_ne e] at hj
            have := (h4.2.2.1 j d b hj hb).mapV (ρ' := fun h => if h = g then x.toInt else ρ h) (G' := G) (N' := N) id (fun _ => rfl) (fun _ => rfl) (fun k v hk hv => hv.ghost hρ (gcell d (List.mem_of_getElem? hj) k hk))
            simpa using this
        · obtain ⟨c1, y1, z1⟩ := ck_set_own (c := (hh, fs.set k (.inl (lo, hi', some (g, 0))))) ⟨_, hi, fun o => o⟩ j1 d1 e1 o1
          obtain ⟨c2, y2, z2⟩ := ck_set_own (c := (hh, fs.set k (.inl (lo, hi', some (g, 0))))) ⟨_, hi, fun o => o⟩ j2 d2 e2 o2
          exact h4.2.2.2 j1 j2 c1 c2 b y1 y2 z1 z2 n1 n2
        · have h5x := h5.2
          obtain ⟨f1, f2, f3, f4, f5, f6⟩ := h5.1
          refine ⟨⟨f1, f2, f3, f4, f5, fun j d b hd hb ho hn => ?_⟩, h5x⟩
          obtain ⟨d', e1, e2⟩ := ck_set_own (c := (hh, fs.set k (.inl (lo, hi', some (g, 0))))) ⟨_, hi, fun o => o⟩ j d hd ho
          exact f6 j d' b e1 hb e2 hn
        · show (if h = g then x.toInt else ρ h) = ρ0 h
          rw [if_neg (by omega)]
          exact h7 h a1 a2
      · cases ht
    · cases ht
  · cases ht
/-- a local number is cut in two -/
theorem gcw_splitL {k : Nat} {q : ck_Q} (x : Int) (hk : ck_loc A k = some (.inl q))
    (k1 : gck_W p l e R s m args below meth c Q D AC S tab L nL ρ0 wr G0 N0 H0 pc (ck_setl A k (.inl (q.1, x, q.2.2)), st, T) ce sl)
    (k2 : gck_W p l e R s m args below meth c Q D AC S tab L nL ρ0 wr G0 N0 H0 pc (ck_setl A k (.inl (x + 1, q.2.1, q.2.2)), st, T) ce sl) : gck_W p l e R s m args below meth c Q D AC S tab L nL ρ0 wr G0 N0 H0 pc (A, st, T) ce sl := by
  intro H ls vs locs h
  obtain ⟨ρ, G, N, lv, h1, h2, h3, h4, h5, h6, h7⟩ := h
  obtain ⟨j, v, g1, ⟨y, rfl, y1, y2, y3⟩⟩ := ck_loc_ok h2 hk
  have hls : ls[k]? = some (.val (.int y)) := lv_at h1 j g1
  have go : ∀ v' : ck_V, ck_R S ρ G N v' (.int y) → ck_all (ck_RL S ρ G N) (ck_setl A k v') lv := by
    intro v' hv'
    refine ⟨by simp [ck_setl, h2.1], fun i q w hq hw => ?_⟩
    simp only [ck_setl, List.getElem?_map] at hq
    obtain ⟨q0, hq0, rfl⟩ := Option.map_eq_some_iff.mp hq
    obtain ⟨r1, r2⟩ := h2.2 i q0 w hq0 hw
    split
    · rename_i he
      have he : q0.1 = k := by simpa using he
      refine ⟨r1, ?_⟩
      have hsl : ls[w.1]? = some (.val w.2) := h1.2.2 w (List.mem_of_getElem? hw)
      rw [← r1, he, hls] at hsl
      have hval : Value.int y = w.2 := by simpa using hsl
      dsimp only
      rw [← hval]
      exact hv'
    · exact ⟨r1, r2⟩
  by_cases hx : y.toInt ≤ x
  · exact k1 H ls vs locs ⟨ρ, G, N, lv, h1, go _ ⟨y, rfl, y1, hx, y3⟩, h3, h4, h5, h6, h7⟩
  · exact k2 H ls vs locs ⟨ρ, G, N, lv, h1, go _ ⟨y, rfl, by dsimp only; omega, y2, y3⟩, h3, h4, h5, h6, h7⟩
/-- cells are named no more -/
theorem gcw_drop {n : Nat} {B : ck_A} (hok : ck_drok n (ck_drp n B) = true) (hn : N0.length ≤ n) (hl : n ≤ B.2.2.length)
    (kk : gck_W p l e R s m args below meth c Q D AC S tab L nL ρ0 wr G0 N0 H0 pc (ck_drp n B) ce sl) : gck_W p l e R s m args below meth c Q D AC S tab L nL ρ0 wr G0 N0 H0 pc B ce sl := by
  obtain ⟨A, st, T⟩ := B
  intro H ls vs locs h
  obtain ⟨ρ, G, N, lv, h1, h2, h3, h4, h5, h6, h7⟩ := h
  dsimp only at h2 h3 h4 h5 hl
  unfold ck_drok at hok
  simp only [Bool.and_eq_true] at hok
  obtain ⟨⟨k1, k2⟩, k3⟩ := hok
  have hu : ∀ k v, ck_R S ρ G N k v → ck_R S ρ G N (ck_unf T k) v := fun k v hv => ck_unf_ok h4 hv
  have g2 : ck_all (ck_RL S ρ G N) (ck_drp n (A, st, T)).1 lv := h2.map _ (fun q w hw => ⟨hw.1, hu _ _ hw.2⟩)
  have g3 : ck_all (ck_R S ρ G N) (ck_drp n (A, st, T)).2.1 vs := h3.map _ hu
  have g4 := h4.mapV (ρ' := ρ) (ck_unf T) hu
  have g5 := h5.mapV (ck_unf T)
  have hNT : N.length = T.length := h4.2.1
  have hget : ∀ (i : Nat) (d : ck_C), (ck_drp n (A, st, T)).2.2[i]? = some d → i < n ∧ (T.map (fun c => (c.1, c.2.map (ck_unf T))))[i]? = some d := by
    intro i d hi
    have hi' : ((T.map (fun c => (c.1, c.2.map (ck_unf T)))).take n)[i]? = some d := hi
    rw [List.getElem?_take] at hi'
    split at hi'
    · rename_i hlt
      exact ⟨hlt, hi'⟩
    · cases hi'
  have hN : ∀ (i a : Nat), (N.take n)[i]? = some a → N[i]? = some a := by
    intro i a hi
    rw [List.getElem?_take] at hi
    split at hi
    · exact hi
    · cases hi
  refine kk H ls vs locs ⟨ρ, G, N.take n, lv, h1, g2.mono (fun q w hq hw => ⟨hw.1, hw.2.take (List.all_eq_true.mp k1 q hq)⟩), g3.mono (fun k v hk hv => hv.take (List.all_eq_true.mp k2 k hk)), ⟨g4.1, ?_, fun i d a hi ha => ?_, fun i j c1 c2 a e1 e2 o1 o2 n1 n2 => ?_⟩, ?_, h6, h7⟩
  · show (N.take n).length = ((T.map (fun c => (c.1, c.2.map (ck_unf T)))).take n).length
    simp [hNT]
  · obtain ⟨-, hi'⟩ := hget i d hi
    have htc := g4.2.2.1 i d a hi' (hN i a ha)
    have := htc.mapV (ρ' := ρ) (G' := G) (N' := N.take n) id (fun _ => rfl) (fun _ => rfl) (fun k v hk hv => hv.take (List.all_eq_true.mp (List.all_eq_true.mp k3 d (List.mem_of_getElem? hi)) k hk))
    simpa using this
  · exact g4.2.2.2 i j c1 c2 a (hget i c1 e1).2 (hget j c2 e2).2 o1 o2 (hN i a n1) (hN j a n2)
  · have g5x := g5.2
    obtain ⟨f1, f2, f3, f4, f5, f6⟩ := g5.1
    refine ⟨⟨f1, f2, f3, by simp; omega, fun i hi => by rw [List.getElem?_take, if_pos (by omega)]; exact f5 i hi, fun i d b hd hb ho hn' => f6 i d b (hget i d hd).2 (hN i b hb) ho hn'⟩, g5x⟩
theorem gcw_opn {np : Nat} {o : ck_O} {B : ck_A} {Bs : List ck_A} (hnp : N0.length = np) (h : gck_op1 tab np o B = some Bs)
    (k : ∀ B' ∈ Bs, gck_W p l e R s m args below meth c Q D AC S tab L nL ρ0 wr G0 N0 H0 pc B' ce sl) : gck_W p l e R s m args below meth c Q D AC S tab L nL ρ0 wr G0 N0 H0 pc B ce sl := by
  obtain ⟨A, st, T⟩ := B
  unfold gck_op1 at h
  split at h
  · split at h
    · rename_i d hd
      split at h
      · rename_i hc
        cases h
        exact gcw_close hd hc.1 hc.2.1 (by omega) hc.2.2.2 (k _ (List.mem_singleton.mpr rfl))
      · cases h
    · cases h
  · split at h
    · rename_i τ hk
      split at h
      · rename_i ci ks hτ
        split at h
        · rename_i hp
          cases h
          exact gcw_focus hk hτ hp (k _ (List.mem_singleton.mpr rfl))
        · cases h
      · cases h
    · cases h
  · split at h
    · rename_i hh fs hi
      split at h
      · rename_i q hq
        split at h
        · cases h
          exact gcw_split _ hi hq (k _ List.mem_cons_self) (k _ (List.mem_cons_of_mem _ List.mem_cons_self))
        · cases h
          exact k _ (List.mem_singleton.mpr rfl)
      · cases h
        exact k _ (List.mem_singleton.mpr rfl)
    · cases h
      exact k _ (List.mem_singleton.mpr rfl)
  · split at h
    · rename_i q hq
      split at h
      · cases h
        exact gcw_splitL _ hq (k _ List.mem_cons_self) (k _ (List.mem_cons_of_mem _ List.mem_cons_self))
      · cases h
        exact k _ (List.mem_singleton.mpr rfl)
    · cases h
  · split at h
    · rename_i hc
      split at h
      · rename_i T' hT
        cases h
        exact gcw_ungA (gcw_tagK hc.1 (Or.inr hc.2) hT (k _ (List.mem_singleton.mpr rfl)))
      · cases h
    · cases h
  · split at h
    · rename_i i hi
      split at h
      · rename_i d hd
        split at h
        · rename_i hc
          cases h
          exact gcw_close hd hc.1 hc.2.1 (by omega) hc.2.2.2 (k _ (List.mem_singleton.mpr rfl))
        · cases h
      · cases h
    · cases h
  · split at h
    · rename_i hc
      cases h
      exact gcw_drop hc.1 (by omega) hc.2.2 (k _ (List.mem_singleton.mpr rfl))
    · cases h
  · split at h
    · rename_i b hb
      split at h
      · rename_i hh fs hi
        split at h
        · rename_i τ hk
          split at h
          · rename_i ac nn sg hτ
            split at h
            · rename_i hc
              cases h
              exact gcw_focA hi hk hc.1 hτ hc.2.1 hc.2.2 (k _ (List.mem_singleton.mpr rfl))
            · cases h
              exact k _ (List.mem_singleton.mpr rfl)
          · cases h
        · cases h
      · cases h
    · cases h
      exact k _ (List.mem_singleton.mpr rfl)
  · split at h
    · split at h
      · split at h
        · split at h
          · split at h
            · rename_i hh fs hi
              split at h
              · rename_i lo hi' g d hk
                split at h
                · rename_i hc
                  cases h
                  exact gcw_splitG _ hi hk hc.1 (k _ List.mem_cons_self) (k _ (List.mem_cons_of_mem _ List.mem_cons_self))
                · cases h
                  exact k _ (List.mem_singleton.mpr rfl)
              · cases h
                exact k _ (List.mem_singleton.mpr rfl)
            · cases h
              exact k _ (List.mem_singleton.mpr rfl)
          · cases h
            exact k _ (List.mem_singleton.mpr rfl)
        · cases h
          exact k _ (List.mem_singleton.mpr rfl)
      · cases h
        exact k _ (List.mem_singleton.mpr rfl)
    · cases h
  · cases h
theorem gcw_opsK {np : Nat} {kb : ck_A → Bool} (hnp : N0.length = np) (k : ∀ B', kb B' = true → gck_W p l e R s m args below meth c Q D AC S tab L nL ρ0 wr G0 N0 H0 pc B' ce sl) :
    ∀ {os : List ck_O} {B : ck_A}, gck_opsK tab np kb os B = true → gck_W p l e R s m args below meth c Q D AC S tab L nL ρ0 wr G0 N0 H0 pc B ce sl
  | [], B, h => k B h
  | o :: t, B, h => by
    unfold gck_opsK at h
    split at h
    · rename_i Bs hB
      exact gcw_opn hnp hB fun B' hB' => gcw_opsK hnp k (ck_alT_ok h B' hB')
    · cases h
end CKOP
