/-! ===== fields ===== -/
def ck_tys (AC : Nat → ClassId) : List (ClassId × FieldType) := [(AC 0, .int), (AC 1, .long), (AC 2, .boolean), (AC 3, .object "RatchetDesk$Secret"), (AC 4, .object "RatchetDesk$Person"), (AC 5, .object "RatchetDesk$End"), (AC 6, .object "RatchetDesk$Letter"), (AC 7, .array .int)]
def ck_fit : FieldType → ck_V → Bool
  | .int, .inl _ => true
  | .boolean, .inl (lo, hi, _) => decide (0 ≤ lo) && decide (hi ≤ 1)
  | .long, .inr (.inl _) => true
  | .object _, .inr (.inr (n, _)) => n < 5
  | .array _, .inr (.inr (n, _)) => n < 5
  | _, _ => false
theorem ck_isRef {S : Nat → Nat} {ρ : Nat → Int} {G : Nat → Nat} {N : List Nat} {n k : Nat} {v : Value} (h : ck_R S ρ G N (.inr (.inr (n, k))) v) (hn : n < 5) : v = .null ∨ ∃ a, v = .ref a := by
  match n, h, hn with
  | 0, h, _ => exact Or.inl h
  | 1, h, _ => obtain ⟨a, -, h⟩ := h; exact Or.inr ⟨a, h⟩
  | 2, h, _ => obtain ⟨a, h, -⟩ := h; exact Or.inr ⟨a, h⟩
  | 3, h, _ => exact Or.inr ⟨_, h⟩
  | 4, h, _ => obtain ⟨a, h⟩ := h; exact Or.inr ⟨a, h⟩
theorem ck_bool {x : Int32} (h1 : 0 ≤ x.toInt) (h2 : x.toInt ≤ 1) : x = 0 ∨ x = 1 := by
  by_cases h : x.toInt = 0
  · exact Or.inl (Int32.toInt_inj.mp h)
  · exact Or.inr (Int32.toInt_inj.mp (show x.toInt = 1 by omega))
theorem ck_fit_ok {S : Nat → Nat} {ρ : Nat → Int} {G : Nat → Nat} {N : List Nat} {ty : FieldType} {k : ck_V} {v : Value} (hf : ck_fit ty k = true) (h : ck_R S ρ G N k v) : narrow ty v = v ∧ fits ty v = true := by
  match ty, k, hf, h with
  | .int, .inl _, _, h => obtain ⟨x, rfl, -⟩ := h; exact ⟨rfl, rfl⟩
  | .boolean, .inl (lo, hi, t), hf, h =>
    obtain ⟨x, rfl, x1, x2, -⟩ := h
    simp only [ck_fit, Bool.and_eq_true, decide_eq_true_eq] at hf
    dsimp only at x1 x2
    rcases ck_bool (x := x) (by omega) (by omega) with rfl | rfl <;> exact ⟨rfl, rfl⟩
  | .long, .inr (.inl _), _, h => obtain ⟨x, rfl, -⟩ := h; exact ⟨rfl, rfl⟩
  | .object C, .inr (.inr (n, j)), hf, h =>
    simp only [ck_fit, decide_eq_true_eq] at hf
    rcases ck_isRef h hf with rfl | ⟨a, rfl⟩ <;> exact ⟨rfl, rfl⟩
  | .array C, .inr (.inr (n, j)), hf, h =>
    simp only [ck_fit, decide_eq_true_eq] at hf
    rcases ck_isRef h hf with rfl | ⟨a, rfl⟩ <;> exact ⟨rfl, rfl⟩
  | .int, .inr _, hf, _ => cases hf
  | .boolean, .inr _, hf, _ => cases hf
  | .long, .inl _, hf, _ => cases hf
  | .long, .inr (.inr _), hf, _ => cases hf
  | .object _, .inl _, hf, _ => cases hf
  | .object _, .inr (.inl _), hf, _ => cases hf
  | .array _, .inl _, hf, _ => cases hf
  | .array _, .inr (.inl _), hf, _ => cases hf
  | .byte, _, hf, _ => cases hf
  | .char, _, hf, _ => cases hf
  | .short, _, hf, _ => cases hf
  | .float, _, hf, _ => cases hf
  | .double, _, hf, _ => cases hf
theorem ck_F.put {wr : List Nat} {G0 G : Nat → Nat} {N0 N : List Nat} {T T' : List ck_C} {H0 H H' : Heap} {a : Nat} (hF : ck_F wr G0 N0 H0 G N T H) (hs : H'.size = H.size) (hq : ∀ q, q ≠ a → H'[q]? = H[q]?) (ha : (G a ≠ 0 ∧ G a ∈ wr) ∨ (G a = 0 ∧ ∃ (i : Nat) (c : ck_C), T[i]? = some c ∧ N[i]? = some a ∧ ck_own c = true)) (hT : ∀ (i : Nat) (c : ck_C), T'[i]? = some c → ck_own c = true → ∃ c', T[i]? = some c' ∧ ck_own c' = true) : ck_F wr G0 N0 H0 G N T' H' := by
  obtain ⟨h1, h2, h3, h4, h5, h6⟩ := hF
  refine ⟨by omega, h2, fun q hl hz => ?_, h4, h5, fun i c b hc hb ho hi => ?_⟩
  · rw [hq q fun e => ?_]
    · exact h3 q hl hz
    · subst e
      rcases ha with ⟨g, gw⟩ | ⟨g0, i, c, c1, c2, c3⟩
      · rcases hz with ⟨z, -⟩ | ⟨-, z⟩
        · exact g (by rw [h2 q hl]; exact z)
        · exact z (by rw [← h2 q hl]; exact gw)
      · rcases hz with ⟨-, hn⟩ | ⟨z, -⟩
        · by_cases hi : i < N0.length
          · rw [h5 i hi] at c2
            exact hn (List.mem_of_getElem? c2)
          · have := h6 i c q c1 c2 c3 (by omega)
            omega
        · exact z (by rw [← h2 q hl]; exact g0)
  · obtain ⟨c', e1, e2⟩ := hT i c hc ho
    exact h6 i c' b e1 hb e2 hi
theorem ck_set_own {T : List ck_C} {i : Nat} {c : ck_C} (hc : ∃ c', T[i]? = some c' ∧ (ck_own c = true → ck_own c' = true)) : ∀ (j : Nat) (d : ck_C), (T.set i c)[j]? = some d → ck_own d = true → ∃ d', T[j]? = some d' ∧ ck_own d' = true := by
  intro j d hd ho
  obtain ⟨c', e1, e2⟩ := hc
  by_cases e : i = j
  · subst e
    rw [List.getElem?_set_self (List.getElem?_eq_some_iff.mp e1).1] at hd
    cases hd
    exact ⟨c', e1, e2 ho⟩
  · rw [List.getElem?_set_ne e] at hd
    exact ⟨d, hd, ho⟩
section CKG
variable {p : Program} {l : Launch} {e : Env} {R : Room} {s : State} {m : MethodId} {args : Array Value} {below : List Frame} {meth : Method} {c : Code} {cells slots : Nat} {Q : State → Prop}
variable {cc : ByteArray} {pc pc2 nL : Nat} {D : va_G} {AC : Nat → ClassId} {S : Nat → Nat} {tab : List ck_D} {L : Heap} {ρ0 : Nat → Int} {wr : List Nat} {G0 : Nat → Nat} {N0 : List Nat} {H0 : Heap}
variable {A : List (Nat × ck_V)} {st : List ck_V} {T : List ck_C} {own : String}
/-- a class's field by its link -/
def ck_lnk (own : String) (idx ci k : Nat) : Prop := ∃ (C : String) (T : u_T) (n : Nat), ck_cl[ci]? = some (C, T, n) ∧ k < n ∧ Cond.fieldLink own idx C (T k).2.1 (T k).2.2.1 ∈ ck_tb
theorem cw_get0 (hexec : p.tables.exec = Jvm.exec) (hb : c.code = cc) (hown : s.vm.findClass own = some m.cls) (hK : va_K D ck_cl (ck_tys AC) s) (hts : ∀ w ∈ ck_tb, w.before args s = true) {H : Heap} {locs : List Loc} {ls : Array Slot} {rest : List Value} {idx ci k a : Nat} {vs : List Value} {v : Value} (hlk : ck_lnk own idx ci k) (hob : ck_ob D ci a H vs) (hv : vs[k]? = some v) (hd : decode cc pc = .ok (.getfield idx, 3))
    (kk : W p l e R s m args below meth c H locs cells slots Q (F0 m (pc + 3) ls (v :: rest))) : W p l e R s m args below meth c H locs cells slots Q (F0 m pc ls (.ref a :: rest)) := by
  obtain ⟨C, T, n, hc, hk, hl⟩ := hlk
  obtain ⟨C', T', hc', hob⟩ := hob
  cases hc.symm.trans hc'
  obtain ⟨w1, w2, w3, w4, w5, w6⟩ := ck_cls hc
  refine va_get (ws := [(a, .inr (ci, vs))]) hexec hb hts w1 hown hK ?_ 0 rfl hc k hk (hts _ hl) (fun x h => by rw [w4 k hk] at h; exact h) hv hd kk
  intro j q hj
  match j, hj with
  | 0, hj => cases hj; exact ⟨_, hc, hob⟩
theorem cw_put0 (hexec : p.tables.exec = Jvm.exec) (hb : c.code = cc) (hown : s.vm.findClass own = some m.cls) (hK : va_K D ck_cl (ck_tys AC) s) (hts : ∀ w ∈ ck_tb, w.before args s = true) {H : Heap} {locs : List Loc} {ls : Array Slot} {rest : List Value} {idx ci k a : Nat} {vs : List Value} {v : Value} (hlk : ck_lnk own idx ci k) (hob : ck_ob D ci a H vs)
    (hfin : ∀ C T n, ck_cl[ci]? = some (C, T, n) → (T k).2.2.2 = false ∨ (own = C ∧ meth.name = "<init>")) (hn : narrow (ck_yy ci k) v = v) (hfit : fits (ck_yy ci k) v = true) (hd : decode cc pc = .ok (.putfield idx, 3))
    (kk : ∀ (H' : Heap) (j : Nat), ck_ob D ci a H' (vs.set k v) → H'.size = H.size → (∀ q, q ≠ a → H'[q]? = H[q]?) → W p l e R s m args below meth c H' (locs ++ [⟨a, j⟩]) cells slots Q (F0 m (pc + 3) ls rest)) : W p l e R s m args below meth c H locs cells slots Q (F0 m pc ls (v :: .ref a :: rest)) := by
  obtain ⟨C, T, n, hc, hk, hl⟩ := hlk
  obtain ⟨C', T', hc', hob⟩ := hob
  cases hc.symm.trans hc'
  obtain ⟨w1, w2, w3, w4, w5, w6⟩ := ck_cls hc
  have hap := va_apart (own := own) hts w1 (ck_yy ci) w2 w3 hK hc
  obtain ⟨cell, q1, q2, q3, q4⟩ := hob
  obtain ⟨hS, hfc, kC, hkC, hkind⟩ := hK.1 ci _ hc
  obtain ⟨cf, kf, fi, f, hi, hsl⟩ := hS k hk
  have hlay := hts _ (w1 _ (u_in_lay hk))
  have hst := (u_facts hfc hkC (u_lays hts w1 hk) hi).1
  have hi' : s.fieldFound? C (T k).2.1 (T k).2.2.1 = some (cf, kf, fi, f) := by have := hi; rw [w4 k hk] at this; exact this
  have out : ∀ H' : Heap, H'[a]? = some (cell.setSlot f.slot v) → H'.size = H.size → (∀ q, q ≠ a → H'[q]? = H[q]?) → W p l e R s m args below meth c H' (locs ++ [⟨a, f.slot⟩]) cells slots Q (F0 m (pc + 3) ls rest) := by
    intro H' e1 e2 e3
    rw [hsl] at e1
    exact kk H' f.slot ⟨C, T, by rw [List.length_set]; exact hc, by rw [List.length_set]; exact t_OB.to (V := updV (vp_V vs) k v) ⟨_, e1, q2, q3, t_set q4 hap hk v⟩ (fun j _ => vp_updV_set hk v j)⟩ e2 e3
  rcases hfin C T _ hc with hnf | ⟨ho, hin⟩
  · unfold u_lay at hlay
    rw [if_neg (by rw [hnf]; decide)] at hlay
    have h6 := u_store hfc hkC hkind hlay hi (w2 k hk) hn hfit
    exact W.putK hexec hb (f := f) ⟨hown, hts _ hl, ⟨_, _, _, hi'⟩, hst⟩ (by rw [q2]; exact h6) q1 q3 (by rw [hsl]; exact k2_hasslot (q4 k hk)) rfl rfl hd out
  · by_cases hnf : (T k).2.2.2 = true
    · unfold u_lay at hlay
      rw [if_pos hnf] at hlay
      have hcf : m.cls = cf := by
        obtain ⟨_, _, c', _, _, _, -, -, hf', -, -, -, hown2, -⟩ := Cond.laysFinal_spec hlay
        have e1 : c' = cf := by have := hi.symm.trans hf'; simp at this; exact this.1.symm
        rw [w4 k hk, ← ho] at hown2
        rw [← e1]; exact Option.some.inj (hown.symm.trans hown2)
      have h6 := u_fits hfc hkC hkind (Or.inr hlay) hi (w2 k hk) hn hfit
      exact W.putFinK hexec hb hown (hts _ hl) hi' hst hcf hin (by rw [q2]; exact h6) q1 q3 (by rw [hsl]; exact k2_hasslot (q4 k hk)) rfl rfl hd out
    · have hnf : (T k).2.2.2 = false := by simpa using hnf
      unfold u_lay at hlay
      rw [if_neg (by rw [hnf]; decide)] at hlay
      have h6 := u_store hfc hkC hkind hlay hi (w2 k hk) hn hfit
      exact W.putK hexec hb (f := f) ⟨hown, hts _ hl, ⟨_, _, _, hi'⟩, hst⟩ (by rw [q2]; exact h6) q1 q3 (by rw [hsl]; exact k2_hasslot (q4 k hk)) rfl rfl hd out
/-- of a named object -/
theorem cw_getNm (hexec : p.tables.exec = Jvm.exec) (hb : c.code = cc) (hown : s.vm.findClass own = some m.cls) (hK : va_K D ck_cl (ck_tys AC) s) (hts : ∀ w ∈ ck_tb, w.before args s = true) {idx ci k i : Nat} {fs : List ck_V} {v : ck_V} {h : Nat × Nat} (hh : h = (0, ci) ∨ ∃ τ ks, h = (3, τ) ∧ tab[τ]? = some (.inr (ci, ks))) (hlk : ck_lnk own idx ci k) (hi : T[i]? = some (h, fs)) (hv : fs[k]? = some v) (hd : decode cc pc = .ok (.getfield idx, 3))
    (kk : ck_W p l e R s m args below meth c Q D AC S tab L nL ρ0 wr G0 N0 H0 (pc + 3) (A, v :: st, T) cells slots) : ck_W p l e R s m args below meth c Q D AC S tab L nL ρ0 wr G0 N0 H0 pc (A, .inr (.inr (1, i)) :: st, T) cells slots := by
  intro H ls vs locs h
  obtain ⟨ρ, G, N, lv, h1, h2, h3, h4, h5, h6, h7⟩ := h
  obtain ⟨_, vs', rfl, ⟨a, ha, rfl⟩, g2⟩ := h3.uncons
  have ht := h4.2.2.1 i _ a hi ha
  have key : ∃ ws : List Value, ck_ob D ci a H ws ∧ ck_all (ck_R S ρ G N) fs ws := by
    unfold ck_tc at ht
    rcases hh with rfl | ⟨τ, ks, rfl, hτ⟩
    · obtain ⟨-, -, ws, z1, z2⟩ := ht
      exact ⟨ws, z1, z2⟩
    · obtain ⟨-, -, ci', ks', ws, z0, z1, z2⟩ := ht
      cases hτ.symm.trans z0
      exact ⟨ws, z1, z2⟩
  obtain ⟨ws, z1, z2⟩ := key
  obtain ⟨w, y1, y2⟩ := z2.get hv
  exact cw_get0 hexec hb hown hK hts hlk z1 y1 hd (kk H ls _ locs ⟨ρ, G, N, lv, h1, h2, ck_all.cons y2 g2, h4, h5, h6, h7⟩)
/-- of a typed object -/
theorem cw_getTy (hexec : p.tables.exec = Jvm.exec) (hb : c.code = cc) (hown : s.vm.findClass own = some m.cls) (hK : va_K D ck_cl (ck_tys AC) s) (hts : ∀ w ∈ ck_tb, w.before args s = true) {idx ci k τ : Nat} {ks : List ck_V} {v : ck_V} (hτ : tab[τ]? = some (.inr (ci, ks))) (hlk : ck_lnk own idx ci k) (hv : ks[k]? = some v) (hp : ck_plain v = true) (hd : decode cc pc = .ok (.getfield idx, 3))
    (kk : ck_W p l e R s m args below meth c Q D AC S tab L nL ρ0 wr G0 N0 H0 (pc + 3) (A, v :: st, T) cells slots) : ck_W p l e R s m args below meth c Q D AC S tab L nL ρ0 wr G0 N0 H0 pc (A, .inr (.inr (2, τ)) :: st, T) cells slots := by
  intro H ls vs locs h
  obtain ⟨ρ, G, N, lv, h1, h2, h3, h4, h5, h6, h7⟩ := h
  obtain ⟨_, vs', rfl, ⟨a, rfl, ha, hz⟩, g2⟩ := h3.uncons
  have ht := (h4.1.2.2 a (by rw [ha]; exact hz)).2
  rw [ha] at ht
  unfold ck_ty at ht
  rw [hτ] at ht
  obtain ⟨ws, z1, z2⟩ := ht
  obtain ⟨w, y1, y2⟩ := z2.get hv
  exact cw_get0 hexec hb hown hK hts hlk z1 y1 hd (kk H ls _ locs ⟨ρ, G, N, lv, h1, h2, ck_all.cons (y2.plain hp) g2, h4, h5, h6, h7⟩)
/-- into an object of one's own -/
theorem cw_putOwn (hexec : p.tables.exec = Jvm.exec) (hb : c.code = cc) (hown : s.vm.findClass own = some m.cls) (hK : va_K D ck_cl (ck_tys AC) s) (hts : ∀ w ∈ ck_tb, w.before args s = true) {idx ci k i : Nat} {fs : List ck_V} {v : ck_V} (hlk : ck_lnk own idx ci k) (hi : T[i]? = some ((0, ci), fs))
    (hfin : ∀ C T n, ck_cl[ci]? = some (C, T, n) → (T k).2.2.2 = false ∨ (own = C ∧ meth.name = "<init>")) (hf : ck_fit (ck_yy ci k) v = true) (hd : decode cc pc = .ok (.putfield idx, 3))
    (kk : ck_W p l e R s m args below meth c Q D AC S tab L nL ρ0 wr G0 N0 H0 (pc + 3) (A, st, T.set i ((0, ci), fs.set k v)) cells slots) : ck_W p l e R s m args below meth c Q D AC S tab L nL ρ0 wr G0 N0 H0 pc (A, v :: .inr (.inr (1, i)) :: st, T) cells slots := by
  intro H ls vs locs h
  obtain ⟨ρ, G, N, lv, h1, h2, h3, h4, h5, h6, h7⟩ := h
  obtain ⟨w, vs', rfl, hw, g2⟩ := h3.uncons
  obtain ⟨_, vs'', rfl, ⟨a, ha, rfl⟩, g3⟩ := g2.uncons
  obtain ⟨f1, f2⟩ := ck_fit_ok hf hw
  have ht := h4.2.2.1 i _ a hi ha
  obtain ⟨l1, l2, ws, z1, z2⟩ := ht
  refine cw_put0 hexec hb hown hK hts hlk z1 hfin f1 f2 hd fun H' j o1 o2 o3 => kk H' ls vs'' _ ⟨ρ, G, N, lv, h1, h2, g3, ?_, ?_, ?_, h7⟩
  · exact h4.putOwn hi ha rfl rfl o2 o3 ⟨l1, l2, _, o1, z2.set k hw⟩
  · exact h5.put o2 o3 (Or.inr ⟨l2, i, _, hi, ha, rfl⟩) (ck_set_own ⟨_, hi, fun _ => rfl⟩)
  · intro q hq
    rcases List.mem_append.mp hq with z | z
    · exact h6 q z
    · rw [List.mem_singleton.mp z]; exact l1
/-- into a typed object by its name -/
theorem cw_putFoc (hexec : p.tables.exec = Jvm.exec) (hb : c.code = cc) (hown : s.vm.findClass own = some m.cls) (hK : va_K D ck_cl (ck_tys AC) s) (hts : ∀ w ∈ ck_tb, w.before args s = true) {idx ci k i τ : Nat} {fs ks : List ck_V} {v kd : ck_V} (hτ : tab[τ]? = some (.inr (ci, ks))) (hlk : ck_lnk own idx ci k) (hi : T[i]? = some ((3, τ), fs)) (hkd : ks[k]? = some kd) (hle : ck_le v kd = true) (hpl : ck_plain kd = true)
    (hfin : ∀ C T n, ck_cl[ci]? = some (C, T, n) → (T k).2.2.2 = false ∨ (own = C ∧ meth.name = "<init>")) (hf : ck_fit (ck_yy ci k) v = true) (hwr : τ ∈ wr) (hno : ∀ (j : Nat) (d : ck_C), j ≠ i → T[j]? = some d → ck_foc d → d.1.2 ≠ τ) (hd : decode cc pc = .ok (.putfield idx, 3))
    (kk : ck_W p l e R s m args below meth c Q D AC S tab L nL ρ0 wr G0 N0 H0 (pc + 3) (A, st, T.set i ((3, τ), fs.set k v)) cells slots) : ck_W p l e R s m args below meth c Q D AC S tab L nL ρ0 wr G0 N0 H0 pc (A, v :: .inr (.inr (1, i)) :: st, T) cells slots := by
  intro H ls vs locs h
  obtain ⟨ρ, G, N, lv, h1, h2, h3, h4, h5, h6, h7⟩ := h
  obtain ⟨w, vs', rfl, hw, g2⟩ := h3.uncons
  obtain ⟨_, vs'', rfl, ⟨a, ha, rfl⟩, g3⟩ := g2.uncons
  obtain ⟨f1, f2⟩ := ck_fit_ok hf hw
  obtain ⟨t1, t2, ci', ks', ws, z0, z1, z2⟩ := h4.2.2.1 i _ a hi ha
  cases hτ.symm.trans z0
  have hG : G a ≠ 0 := by rw [t1]; exact t2
  have hty := h4.1.2.2 a hG
  rw [t1] at hty
  obtain ⟨l1, hty⟩ := hty
  unfold ck_ty at hty
  rw [hτ] at hty
  obtain ⟨ws', y1, y2⟩ := hty
  have ews : ws' = ws := by
    obtain ⟨_, _, b1, cl1, b2, b3, b4, b5⟩ := y1
    obtain ⟨_, _, e1, cl2, e2, e3, e4, e5⟩ := z1
    cases b2.symm.trans e2
    have hl : ws'.length = ws.length := by have := b1.symm.trans e1; simp at this; exact this.2.2
    apply List.ext_getElem? fun j => ?_
    by_cases hj : j < ws.length
    · have x1 := b5 j (by omega)
      have x2 := e5 j hj
      rw [x1] at x2
      have : vp_V ws' j = vp_V ws j := Option.some.inj x2
      unfold vp_V at this
      rw [List.getD_eq_getElem?_getD, List.getD_eq_getElem?_getD, List.getElem?_eq_getElem (by omega), List.getElem?_eq_getElem hj] at this
      rw [List.getElem?_eq_getElem (by omega), List.getElem?_eq_getElem hj]
      exact congrArg some (by simpa using this)
    · rw [List.getElem?_eq_none (by omega), List.getElem?_eq_none (by omega)]
  subst ews
  refine cw_put0 hexec hb hown hK hts hlk z1 hfin f1 f2 hd fun H' j o1 o2 o3 => kk H' ls vs'' _ ⟨ρ, G, N, lv, h1, h2, g3, ?_, ?_, ?_, h7⟩
  · refine h4.putFoc (Or.inl rfl) rfl hi ha o2 o3 ?_ ⟨t1, t2, ci, ks, _, hτ, o1, z2.set k hw⟩ hno
    unfold ck_ty
    rw [hτ]
    have := y2.set k (hw.le hle |>.plain hpl)
    have e : ks.set k kd = ks := by
      apply List.ext_getElem? fun j => ?_
      by_cases ej : k = j
      · subst ej
        rw [List.getElem?_set_self (List.getElem?_eq_some_iff.mp hkd).1, hkd]
      · rw [List.getElem?_set_ne ej]
    rw [e] at this
    exact ⟨_, o1, this⟩
  · exact h5.put o2 o3 (Or.inl ⟨hG, by rw [t1]; exact hwr⟩) (ck_set_own ⟨_, hi, fun h => by cases h⟩)
  · intro q hq
    rcases List.mem_append.mp hq with z | z
    · exact h6 q z
    · rw [List.mem_singleton.mp z]; exact l1
/-- into a typed object -/
theorem cw_putTy (hexec : p.tables.exec = Jvm.exec) (hb : c.code = cc) (hown : s.vm.findClass own = some m.cls) (hK : va_K D ck_cl (ck_tys AC) s) (hts : ∀ w ∈ ck_tb, w.before args s = true) {idx ci k τ : Nat} {ks : List ck_V} {v kd : ck_V} (hτ : tab[τ]? = some (.inr (ci, ks))) (hlk : ck_lnk own idx ci k) (hkd : ks[k]? = some kd) (hle : ck_le v kd = true) (hpl : ck_plain kd = true)
    (hfin : ∀ C T n, ck_cl[ci]? = some (C, T, n) → (T k).2.2.2 = false ∨ (own = C ∧ meth.name = "<init>")) (hf : ck_fit (ck_yy ci k) v = true) (hwr : τ ∈ wr) (hno : ∀ (j : Nat) (d : ck_C), T[j]? = some d → ck_foc d → d.1.2 ≠ τ) (hd : decode cc pc = .ok (.putfield idx, 3))
    (kk : ck_W p l e R s m args below meth c Q D AC S tab L nL ρ0 wr G0 N0 H0 (pc + 3) (A, st, T) cells slots) : ck_W p l e R s m args below meth c Q D AC S tab L nL ρ0 wr G0 N0 H0 pc (A, v :: .inr (.inr (2, τ)) :: st, T) cells slots := by
  intro H ls vs locs h
  obtain ⟨ρ, G, N, lv, h1, h2, h3, h4, h5, h6, h7⟩ := h
  obtain ⟨w, vs', rfl, hw, g2⟩ := h3.uncons
  obtain ⟨_, vs'', rfl, ⟨a, rfl, ha, hz⟩, g3⟩ := g2.uncons
  obtain ⟨f1, f2⟩ := ck_fit_ok hf hw
  have hG : G a ≠ 0 := by rw [ha]; exact hz
  have hty := h4.1.2.2 a hG
  rw [ha] at hty
  obtain ⟨l1, hty⟩ := hty
  unfold ck_ty at hty
  rw [hτ] at hty
  obtain ⟨ws, y1, y2⟩ := hty
  refine cw_put0 hexec hb hown hK hts hlk y1 hfin f1 f2 hd fun H' j o1 o2 o3 => kk H' ls vs'' _ ⟨ρ, G, N, lv, h1, h2, g3, ?_, ?_, ?_, h7⟩
  · refine h4.putTy hG o2 o3 ?_ (fun i d hi h3 hN => ?_)
    · rw [ha]
      unfold ck_ty
      rw [hτ]
      have := y2.set k (hw.le hle |>.plain hpl)
      have e : ks.set k kd = ks := by
        apply List.ext_getElem? fun j => ?_
        by_cases ej : k = j
        · subst ej
          rw [List.getElem?_set_self (List.getElem?_eq_some_iff.mp hkd).1, hkd]
        · rw [List.getElem?_set_ne ej]
      rw [e] at this
      exact ⟨_, o1, this⟩
    · exact hno i d hi h3 (((h4.2.2.1 i d a hi hN).foc h3).1.symm.trans ha)
  · exact h5.put o2 o3 (Or.inl ⟨hG, by rw [ha]; exact hwr⟩) (fun i c hi ho => ⟨c, hi, ho⟩)
  · intro q hq
    rcases List.mem_append.mp hq with z | z
    · exact h6 q z
    · rw [List.mem_singleton.mp z]; exact l1
end CKG
