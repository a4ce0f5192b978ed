/-! ===== exact runs: contracts and calls ===== -/
/-- arguments; cells before; answer; cells behind; its function, how many numbers come in (nodes 1 and on; those behind them are the function's), and of which of them it is one; frames, words -/
abbrev xk_K : Type := List xk_V × List xk_C × Option xk_V × List xk_C × (Nat × Nat × List Nat) × (Nat × Nat)
def xk_rho (Φ : Nat → Nat → List Int → Int) (q : Nat × Nat × List Nat) (ρ0 : Nat → Int) : Nat → Int := fun g => if g ≤ q.2.1 then ρ0 g else Φ q.1 (g - q.2.1 - 1) (q.2.2.map ρ0)
def xk_rs (S : Nat → Nat) (θ : Nat → Value) (ρ : Nat → Int) (N : List Nat) (ret : Option xk_V) (o : Outcome) : Prop := match ret with
  | none => o = .returned none
  | some k => ∃ w, o = .returned (some w) ∧ xk_R S θ ρ N k w
def xk_Fin (D : va_G) (AC : Nat → ClassId) (S : Nat → Nat) (θ : Nat → Value) (L : Heap) (ρ : Nat → Int) (N : List Nat) (ret : Option xk_V) (post : List xk_C) (below : List Frame) (s : State) : State → Prop := fun t =>
  ∃ o, t.status = .running ∧ Ended t below o ∧ s.WarmedH t.vm ∧ (∃ Ls : List Loc, s.sameButNew ({ t with vm := s.vm } : State) Ls 0 0 ∧ ∀ q ∈ Ls, L.size ≤ q.base) ∧ xk_rs S θ ρ N ret o ∧ xk_H D AC S θ L ρ N post t.heap ∧ xk_F N s.heap t.heap
def xk_Ok (l : Launch) (Φ : Nat → Nat → List Int → Int) (nb : Nat × Nat) (M : ck_M) (K : xk_K) : Prop :=
  ∀ (p : Program) (e : Env) (R : Room) (s : State) (m : MethodId) (args : Array Value) (below : List Frame) (meth : Method) (c : Code) (D : va_G) (AC : Nat → ClassId) (S : Nat → Nat) (θ : Nat → Value) (L : Heap) (ρ0 : Nat → Int) (N : List Nat) (vs : List Value) (n : Nat), nb.1 ≤ n → n ≤ nb.2 →
    ck_B p s m meth c M → e.platform.stackTraces = false → K.2.2.2.2.2.1 ≤ R.frames → K.2.2.2.2.2.2 ≤ R.locals → ck_Kf D AC S L s n → xk_St S L s → xk_L L s.heap → args = vs.toArray → ck_all (xk_R S θ ρ0 N) K.1 vs → xk_H D AC S θ L ρ0 N K.2.1 s.heap →
    W p l e R s m args below meth c s.heap [] 0 0 (xk_Fin D AC S θ L (xk_rho Φ K.2.2.2.2.1 ρ0) N K.2.2.1 K.2.2.2.1 below s) (entryFrame m args M.2.2.1)
/-! which of the caller's cells and numbers the called one's are -/
def xk_b1 (j : Nat) (q : xk_V × xk_V) : Option Nat := if q.1.1 == 2 && q.2.1 == 2 && q.1.2.1 == j then some q.2.2.1 else none
def xk_mu (T : List xk_C) (ks : List xk_V) (K : xk_K) : List Nat := (List.range K.2.1.length).foldl (fun μ j => match (K.1.zip ks).findSome? (xk_b1 j) with
  | some i => μ ++ [i]
  | none => (match (K.2.1.zip μ).findSome? (fun q => match T[q.2]? with
    | some c => (q.1.2.zip c.2).findSome? (xk_b1 j)
    | none => none) with
    | some i => μ ++ [i]
    | none => μ)) []
def xk_sb (σ : List xk_O) (o : xk_O) : xk_O := if o.1 = 0 then o else σ.getD (o.1 - 1) (0, 0)
/-- a value of the called one's is the caller's; fields that nobody reads bear their place -/
def xk_lf (μ : List Nat) (σ : List xk_O) (j i : Nat) (f a : xk_V) : Bool := match f.1 with
  | 0 => a.1 == 0 && decide (a.2 = xk_sb σ f.2)
  | 1 => a.1 == 1 && decide (a.2 = xk_sb σ f.2)
  | 2 => (match μ[f.2.1]? with
    | some i => a.1 == 2 && a.2.1 == i
    | none => false)
  | 3 => a.1 == 3 && a.2.1 == f.2.1
  | 5 => decide (f.2.1 = 1000 * j + i ∧ i < 1000 ∧ j < 1000)
  | _ => true
/-- the same, of one that is no number that comes in -/
def xk_lb (μ : List Nat) (j i : Nat) (f a : xk_V) : Bool := match f.1 with
  | 0 => a.1 == 0 && decide (a.2 = f.2)
  | 1 => a.1 == 1 && decide (a.2 = f.2)
  | 2 => (match μ[f.2.1]? with
    | some i => a.1 == 2 && a.2.1 == i
    | none => false)
  | 3 => a.1 == 3 && a.2.1 == f.2.1
  | 5 => decide (f.2.1 = 1000 * j + i ∧ i < 1000 ∧ j < 1000)
  | _ => true
/-- the numbers that come in, in their order -/
def xk_mt (μ : List Nat) (j : Nat) : Nat → Nat → List xk_V → List xk_V → Option (List xk_O)
  | _, _, [], [] => some []
  | i, n, f :: t, a :: u => if f.1 < 2 ∧ 0 < f.2.1 then (if f.2.1 = n + 1 ∧ a.1 = f.1 then (match xk_mt μ j (i + 1) (n + 1) t u with
    | some l => some (a.2 :: l)
    | none => none) else none) else if xk_lb μ j i f a then xk_mt μ j (i + 1) n t u else none
  | _, _, _, _ => none
def xk_mc (T : List xk_C) (μ : List Nat) : Nat → Nat → List xk_C → List Nat → Option (List xk_O)
  | _, _, [], [] => some []
  | j, n, d :: t, i :: u => (match T[i]? with
    | some c => if c.1 = d.1 ∧ d.1.1 ≤ 10000 then (match xk_mt μ j 0 n d.2 c.2 with
      | some l => (match xk_mc T μ (j + 1) (n + l.length) t u with
        | some l' => some (l ++ l')
        | none => none)
      | none => none) else none
    | none => none)
  | _, _, _, _ => none
def xk_ms (T : List xk_C) (ks : List xk_V) (K : xk_K) (μ : List Nat) : Option (List xk_O) := match xk_mt μ 1000 0 0 K.1 ks with
  | some l => (match xk_mc T μ 0 l.length K.2.1 μ with
    | some l' => some (l ++ l')
    | none => none)
  | none => none
theorem xk_mt_ok {μ : List Nat} {σ : List xk_O} {j : Nat} : ∀ {i0 n : Nat} {fs as : List xk_V} {l : List xk_O}, xk_mt μ j i0 n fs as = some l → (∀ (k : Nat) (o : xk_O), l[k]? = some o → σ[n + k]? = some o) → as.length = fs.length ∧ ∀ (i : Nat) (f : xk_V), fs[i]? = some f → ∃ a, as[i]? = some a ∧ xk_lf μ σ j (i0 + i) f a = true
  | i0, n, [], [], l, h, _ => ⟨rfl, fun i f hf => by simp at hf⟩
  | i0, n, [], a :: u, l, h, _ => by cases h
  | i0, n, f :: t, [], l, h, _ => by cases h
  | i0, n, f :: t, a :: u, l, h, hσ => by
    have fin : ∀ {n' : Nat}, (u.length = t.length ∧ ∀ (i : Nat) (g : xk_V), t[i]? = some g → ∃ a, u[i]? = some a ∧ xk_lf μ σ j (i0 + 1 + i) g a = true) → xk_lf μ σ j i0 f a = true → (a :: u).length = (f :: t).length ∧ ∀ (i : Nat) (g : xk_V), (f :: t)[i]? = some g → ∃ b, (a :: u)[i]? = some b ∧ xk_lf μ σ j (i0 + i) g b = true := by
      intro n' ih h1
      refine ⟨by simp [ih.1], fun i g hg => ?_⟩
      cases i with
      | zero =>
        simp at hg
        subst hg
        exact ⟨a, rfl, h1⟩
      | succ i =>
        simp at hg
        obtain ⟨a', x1, x2⟩ := ih.2 i g hg
        exact ⟨a', by simpa using x1, by rw [show i0 + (i + 1) = i0 + 1 + i by omega]; exact x2⟩
    unfold xk_mt at h
    split at h
    · rename_i hin
      split at h
      · rename_i hc
        split at h
        · rename_i l' hl'
          cases h
          have ih := xk_mt_ok (σ := σ) hl' (fun k o hk => by
            have := hσ (k + 1) o (by simpa using hk)
            rw [show n + 1 + k = n + (k + 1) by omega]
            exact this)
          refine fin (n' := 0) ih ?_
          have h0 : σ[n]? = some a.2 := by
            have := hσ 0 a.2 rfl
            simpa using this
          have hsb : xk_sb σ f.2 = a.2 := by
            unfold xk_sb
            rw [if_neg (by omega), hc.1, Nat.add_sub_cancel, List.getD_eq_getElem?_getD, h0]
            rfl
          obtain ⟨fk, fo⟩ := f
          dsimp only at hin hc hsb
          unfold xk_lf
          dsimp only
          rw [hsb]
          match fk, hin, hc with
          | 0, _, hc => simp [hc.2]
          | 1, _, hc => simp [hc.2]
          | fk + 2, hin, _ => omega
        · cases h
      · cases h
    · rename_i hin
      split at h
      · rename_i hb
        have ih := xk_mt_ok (σ := σ) h hσ
        refine fin (n' := 0) ih ?_
        obtain ⟨fk, fo⟩ := f
        unfold xk_lb at hb
        unfold xk_lf
        dsimp only at hin hb ⊢
        match fk, hin, hb with
        | 0, hin, hb =>
          have : fo.1 = 0 := by omega
          have e : xk_sb σ fo = fo := by unfold xk_sb; rw [if_pos this]
          rw [e]
          exact hb
        | 1, hin, hb =>
          have : fo.1 = 0 := by omega
          have e : xk_sb σ fo = fo := by unfold xk_sb; rw [if_pos this]
          rw [e]
          exact hb
        | 2, _, hb => exact hb
        | 3, _, hb => exact hb
        | 4, _, _ => rfl
        | 5, _, hb => exact hb
        | fk + 6, _, _ => rfl
      · cases h
theorem xk_mc_ok {T : List xk_C} {μ : List Nat} {σ : List xk_O} : ∀ {j0 n : Nat} {ds : List xk_C} {is : List Nat} {l : List xk_O}, xk_mc T μ j0 n ds is = some l → (∀ (k : Nat) (o : xk_O), l[k]? = some o → σ[n + k]? = some o) → is.length = ds.length ∧ ∀ (j i : Nat) (d : xk_C), is[j]? = some i → ds[j]? = some d → ∃ c, T[i]? = some c ∧ c.1 = d.1 ∧ d.1.1 ≤ 10000 ∧ c.2.length = d.2.length ∧ ∀ (k : Nat) (f : xk_V), d.2[k]? = some f → ∃ a, c.2[k]? = some a ∧ xk_lf μ σ (j0 + j) k f a = true
  | j0, n, [], [], l, h, _ => ⟨rfl, fun j i d hi => by simp at hi⟩
  | j0, n, [], a :: u, l, h, _ => by cases h
  | j0, n, d :: t, [], l, h, _ => by cases h
  | j0, n, d :: t, i :: u, l, h, hσ => by
    unfold xk_mc at h
    split at h
    · rename_i c hT
      split at h
      · rename_i hc
        split at h
        · rename_i l1 hl1
          split at h
          · rename_i l2 hl2
            cases h
            obtain ⟨m1, m2⟩ := xk_mt_ok (σ := σ) hl1 (fun k o hk => hσ k o (by rw [List.getElem?_append_left (List.getElem?_eq_some_iff.mp hk).1]; exact hk))
            obtain ⟨i1, i2⟩ := xk_mc_ok (σ := σ) hl2 (fun k o hk => by
              have := hσ (l1.length + k) o (by rw [List.getElem?_append_right (by omega), show l1.length + k - l1.length = k by omega]; exact hk)
              rw [show n + l1.length + k = n + (l1.length + k) by omega]
              exact this)
            refine ⟨by simp [i1], fun j i' d' hj hd => ?_⟩
            cases j with
            | zero =>
              simp at hj hd
              subst hj
              subst hd
              refine ⟨c, hT, hc.1, hc.2, m1, fun k f hf => ?_⟩
              obtain ⟨a, a1, a2⟩ := m2 k f hf
              exact ⟨a, a1, by rw [Nat.zero_add] at a2; exact a2⟩
            | succ j =>
              simp at hj hd
              obtain ⟨c', x1, x2, x3, x4, x5⟩ := i2 j i' d' hj hd
              refine ⟨c', x1, x2, x3, x4, fun k f hf => ?_⟩
              obtain ⟨a, a1, a2⟩ := x5 k f hf
              exact ⟨a, a1, by rw [show j0 + (j + 1) = j0 + 1 + j by omega]; exact a2⟩
          · cases h
        · cases h
      · cases h
    · cases h
def xk_ch (T : List xk_C) (ks : List xk_V) (K : xk_K) (μ : List Nat) (σ : List xk_O) : Prop := xk_ms T ks K μ = some σ ∧ σ.length = K.2.2.2.2.1.2.1 ∧ μ.Nodup
theorem xk_ch_ok {T : List xk_C} {ks : List xk_V} {K : xk_K} {μ : List Nat} {σ : List xk_O} (h : xk_ch T ks K μ σ) : (ks.length = K.1.length ∧ ∀ (i : Nat) (f : xk_V), K.1[i]? = some f → ∃ a, ks[i]? = some a ∧ xk_lf μ σ 1000 i f a = true) ∧ μ.length = K.2.1.length ∧ ∀ (j i : Nat) (d : xk_C), μ[j]? = some i → K.2.1[j]? = some d → ∃ c, T[i]? = some c ∧ c.1 = d.1 ∧ d.1.1 ≤ 10000 ∧ c.2.length = d.2.length ∧ ∀ (k : Nat) (f : xk_V), d.2[k]? = some f → ∃ a, c.2[k]? = some a ∧ xk_lf μ σ j k f a = true := by
  obtain ⟨h1, -, -⟩ := h
  unfold xk_ms at h1
  split at h1
  · rename_i l hl
    split at h1
    · rename_i l' hl'
      cases h1
      obtain ⟨m1, m2⟩ := xk_mt_ok (σ := l ++ l') hl (fun k o hk => by rw [Nat.zero_add, List.getElem?_append_left (List.getElem?_eq_some_iff.mp hk).1]; exact hk)
      obtain ⟨i1, i2⟩ := xk_mc_ok (σ := l ++ l') hl' (fun k o hk => by rw [List.getElem?_append_right (by omega), show l.length + k - l.length = k by omega]; exact hk)
      refine ⟨⟨m1, fun i f hf => ?_⟩, i1, fun j i d hj hd => ?_⟩
      · obtain ⟨a, a1, a2⟩ := m2 i f hf
        exact ⟨a, a1, by rw [Nat.zero_add] at a2; exact a2⟩
      · obtain ⟨c, x1, x2, x3, x4, x5⟩ := i2 j i d hj hd
        refine ⟨c, x1, x2, x3, x4, fun k f hf => ?_⟩
        obtain ⟨a, a1, a2⟩ := x5 k f hf
        exact ⟨a, a1, by rw [Nat.zero_add] at a2; exact a2⟩
    · cases h1
  · cases h1
/-- what stood there, as the caller has it -/
def xk_op (T : List xk_C) (μ : List Nat) (k : Nat) : xk_V := match T[μ.getD (k / 1000) 0]? with
  | some c => (match c.2[k % 1000]? with
    | some v => if k / 1000 < μ.length ∧ k < 1000000 then v else (9, 0, 0)
    | none => (9, 0, 0))
  | none => (9, 0, 0)
def xk_po (T : List xk_C) (μ : List Nat) (σ : List xk_O) (n nx : Nat) (v : xk_V) : xk_V := if v.1 < 2 then (v.1, if v.2.1 ≤ n then xk_sb σ v.2 else (nx + (v.2.1 - n - 1), 0)) else if v.1 = 2 then (2, (μ.getD v.2.1 0, 0)) else if v.1 = 5 then xk_op T μ v.2.1 else v
/-- what has not changed stays as the caller has it -/
def xk_p3 (po : xk_V → xk_V) : List xk_V → List xk_V → List xk_V → List xk_V
  | f :: t, g :: u, a :: w => (if f = g ∧ f.1 < 6 ∧ f.1 ≠ 4 then a else po g) :: xk_p3 po t u w
  | _, _, _ => []
theorem xk_p3_ok {po : xk_V → xk_V} : ∀ {fs gs as : List xk_V}, gs.length = fs.length → as.length = fs.length → (xk_p3 po fs gs as).length = gs.length ∧ ∀ (i : Nat) (v : xk_V), (xk_p3 po fs gs as)[i]? = some v → ∃ f g a, fs[i]? = some f ∧ gs[i]? = some g ∧ as[i]? = some a ∧ v = if f = g ∧ f.1 < 6 ∧ f.1 ≠ 4 then a else po g
  | [], [], [], _, _ => ⟨rfl, fun i v hv => by simp [xk_p3] at hv⟩
  | f :: t, g :: u, a :: w, h1, h2 => by
    obtain ⟨i1, i2⟩ := xk_p3_ok (po := po) (fs := t) (gs := u) (as := w) (by simpa using h1) (by simpa using h2)
    refine ⟨by simp [xk_p3, i1], fun i v hv => ?_⟩
    unfold xk_p3 at hv
    cases i with
    | zero =>
      simp at hv
      exact ⟨f, g, a, rfl, rfl, rfl, by rw [← hv]⟩
    | succ i =>
      simp at hv
      obtain ⟨f', g', a', x1, x2, x3, x4⟩ := i2 i v hv
      exact ⟨f', g', a', by simpa using x1, by simpa using x2, by simpa using x3, x4⟩
  | [], g :: u, _, h1, _ => by simp at h1
  | [], [], a :: w, _, h2 => by simp at h2
  | f :: t, [], _, h1, _ => by simp at h1
  | f :: t, g :: u, [], _, h2 => by simp at h2
def xk_T2 (T : List xk_C) (μ : List Nat) (pre post : List xk_C) (po : xk_V → xk_V) : List xk_C := T.mapIdx (fun i c => match μ.findIdx? (fun k => k == i) with
  | some j => (match pre[j]?, post[j]? with
    | some p, some d => (d.1, xk_p3 po p.2 d.2 c.2)
    | _, _ => c)
  | none => c)
/-- the numbers that its function is of -/
def xk_ag (σ : List xk_O) (l : List Nat) : List xk_O := l.map (fun g => σ.getD (g - 1) (0, 0))
def xk_gv (wd : Nat → Nat) (q : Nat × Nat × List Nat) (v : xk_V) : Bool := decide (v.1 < 2 → v.2.1 ≤ q.2.1 + wd q.1)
def xk_gd (wd : Nat → Nat) (K : xk_K) : Bool := K.2.2.2.1.all (fun c => c.2.all (xk_gv wd K.2.2.2.2.1)) && (match K.2.2.1 with
  | some k => xk_gv wd K.2.2.2.2.1 k
  | none => true) && K.2.2.2.1.length == K.2.1.length && K.2.2.2.2.1.2.2.all (fun g => decide (0 < g)) && (K.2.1.zip K.2.2.2.1).all (fun q => decide (q.1.1 = q.2.1) && q.1.2.length == q.2.2.length)
section XKD
variable {p : Program} {l : Launch} {e : Env} {R : Room} {s : State} {m : MethodId} {args : Array Value} {below : List Frame} {meth : Method} {c : Code} {Q : State → Prop} {locs : List Loc} {T : State}
variable {cc : ByteArray} {pc nL : Nat} {D : va_G} {AC : Nat → ClassId} {S : Nat → Nat} {θ : Nat → Value} {L : Heap} {ρ : Nat → Int} {N : List Nat} {H0 : Heap} {Φ : Nat → Nat → List Int → Int} {wd : Nat → Nat}
/-- a method is called and comes back -/
theorem xk_call {nb : Nat × Nat} {nS : Nat} {M : ck_M} {K : xk_K} (hO : xk_Ok l Φ nb M K) (hn1 : nb.1 ≤ nS) (hn2 : nS ≤ nb.2) {g : JFrame} {rest : List Value} {a : Array Value} (hinv : ck_Inv p l e R s m args below meth c locs 0 0 T M.1 g rest a) (hexec : p.tables.exec = Jvm.exec) (hg : g.method = m) (hsize : g.locals.size = c.maxLocals) {ig : Instr} (hdg : decode c.code g.pc = .ok (ig, 3))
    (hcode : (Cond.codeWith M.1 M.2.1 M.2.2.1 M.2.2.2.1 M.2.2.2.2).before args s = true) (hplain : plainName M.1.cls = true) (htr : e.platform.stackTraces = false) (hfr : K.2.2.2.2.2.1 + 1 ≤ R.frames) (hlo : 2 * g.monitorRoom + (rest.map fun v => v.category).sum + (M.2.2.1 + 11) + K.2.2.2.2.2.2 ≤ R.locals)
    {ρ0 : Nat → Int} {N0 : List Nat} {vs : List Value} (hK : ck_Kf D AC S L s nS) (hSt : xk_St S L s) (hL : xk_L L T.heap) (ha : a = vs.toArray) (hv : ck_all (xk_R S θ ρ0 N0) K.1 vs) (hH : xk_H D AC S θ L ρ0 N0 K.2.1 T.heap) :
    ∃ (T' : State) (Ls : List Loc) (v : Option Value), Stand p l e R s m args below meth c T' (locs ++ Ls) 0 0 ∧ (∀ q ∈ Ls, L.size ≤ q.base) ∧ xk_rs S θ (xk_rho Φ K.2.2.2.2.1 ρ0) N0 K.2.2.1 (.returned v) ∧ xk_H D AC S θ L (xk_rho Φ K.2.2.2.2.1 ρ0) N0 K.2.2.2.1 T'.heap ∧ xk_F N0 T.heap T'.heap ∧
      ∀ target, Steps p.tables e below (T'.setTop { g with pc := g.pc + 3, stack := v.toList ++ rest }) target → Steps p.tables e below (T.setTop g) target := by
  obtain ⟨vm₁, mk, hW₁, Y0, hn, hstep⟩ := hinv
  obtain ⟨m9, methk, ck, hn9, hm9, hc9, hb9, hl9, ht9, hr9, hk9, -⟩ := Cond.codeWith_spec hcode
  cases hn.symm.trans hn9
  have hmk : (T.setVm vm₁).vm.method? mk = some methk := by
    show vm₁.method? mk = some methk
    rw [hW₁.alike.method?]; exact hm9
  have hnT : (T.setVm vm₁).methodNamed? M.1 = some mk := Y0.named hn
  have hpk : (T.setVm vm₁).plainMethod mk := State.plainMethod.of_name (fun k hk => by
    obtain ⟨k', hk', hnm⟩ := className_of_methodNamed hnT
    cases hk.symm.trans hk'
    rw [hnm]; exact hplain)
  obtain ⟨Y, hent⟩ := Y0.into (g := { g with stack := rest }) hg hsize hdg a (R' := { frames := K.2.2.2.2.2.1, locals := K.2.2.2.2.2.2, cells := 0, slots := 0 }) hmk hc9 hk9 hpk hfr (by rw [hl9]; exact hlo) (Nat.zero_le _) (Nat.zero_le _)
  have hclass : ((T.setVm vm₁).calling { g with stack := rest } mk a).vm.findClass M.1.cls = some mk.cls := findClass_of_methodNamed (s := (T.setVm vm₁)) hnT
  have hname : methk.name = M.1.name := (name_of_methodNamed hn hm9).1
  have hWc : s.WarmedH ((T.setVm vm₁).calling { g with stack := rest } mk a).vm := hW₁
  have w := hO p e { frames := K.2.2.2.2.2.1, locals := K.2.2.2.2.2.2, cells := 0, slots := 0 } ((T.setVm vm₁).calling { g with stack := rest } mk a) mk a (.java { g with stack := rest } :: below) methk ck D AC S θ L ρ0 N0 vs nS hn1 hn2 ⟨hexec, hb9, hl9, hr9, hk9, hclass, ht9, hname⟩ htr (Nat.le_refl _) (Nat.le_refl _) (hK.moved hWc) (hSt.moved hWc.alike) hL ha hv hH
  obtain ⟨t, st, o, hrun, hend, hWt, ⟨Ls, hsame, hLs⟩, hps, hH', hF'⟩ := w (((T.setVm vm₁).setTop { g with stack := rest }).pushFrame (.java (entryFrame mk a ck.maxLocals))) rfl Y
  have st2 : Steps p.tables e below (doInvoke e ((T.setVm vm₁).setTop { g with stack := rest }) [] mk a).1 t := by
    rw [hent []]
    rw [hl9] at st ⊢
    exact ck_weaken (mid := [.java { g with stack := rest }]) st
  have ho : ∃ v, o = .returned v := by
    unfold xk_rs at hps
    split at hps
    · exact ⟨_, hps⟩
    · obtain ⟨w, hw, -⟩ := hps
      exact ⟨_, hw⟩
  obtain ⟨v, rfl⟩ := ho
  obtain ⟨T', X', hWT, hsm, et⟩ := Y0.outOf (g := { g with stack := rest }) hg hdg hend hWt hsame
  have eh : t.heap = T'.heap := by rw [et]; rfl
  refine ⟨T', Ls, v, X', hLs, hps, by rw [← eh]; exact hH', by rw [← eh]; exact hF', fun target htg => ?_⟩
  refine hstep target (st2.trans ?_)
  rw [et]
  exact htg
end XKD
section XKD2
variable {p : Program} {l : Launch} {e : Env} {R : Room} {s : State} {m : MethodId} {args : Array Value} {below : List Frame} {meth : Method} {c : Code} {Q : State → Prop}
variable {cc : ByteArray} {pc nL : Nat} {D : va_G} {AC : Nat → ClassId} {S : Nat → Nat} {θ : Nat → Value} {L : Heap} {ρ : Nat → Int} {N : List Nat} {H0 : Heap} {Φ : Nat → Nat → List Int → Int} {wd : Nat → Nat}
variable {A : List (Nat × xk_V)} {st ks : List xk_V} {T : List xk_C} {K : xk_K} {M : ck_M} {μ : List Nat} {σ : List xk_O}
def xk_r0 (ρ : Nat → Int) (σ : List xk_O) : Nat → Int := fun g => if g = 0 then 0 else xk_ov ρ (σ.getD (g - 1) (0, 0))
def xk_n0 (N μ : List Nat) : List Nat := μ.map (fun i => N.getD i 0)
theorem xk_ov_sb (o : xk_O) : xk_ov ρ (xk_sb σ o) = xk_ov (xk_r0 ρ σ) o := by
  unfold xk_sb
  by_cases h : o.1 = 0
  · rw [if_pos h]
    unfold xk_ov
    rw [if_pos h, if_pos h]
  · rw [if_neg h]
    show _ = if o.1 = 0 then o.2 else xk_r0 ρ σ o.1
    rw [if_neg h]
    show _ = if o.1 = 0 then (0 : Int) else _
    rw [if_neg h]
theorem xk_n0_get {j a : Nat} (h : (xk_n0 N μ)[j]? = some a) (hr : ∀ i ∈ μ, i < N.length) : ∃ i, μ[j]? = some i ∧ N[i]? = some a := by
  unfold xk_n0 at h
  rw [List.getElem?_map] at h
  obtain ⟨i, hi, e⟩ := Option.map_eq_some_iff.mp h
  have hl := hr i (List.mem_of_getElem? hi)
  refine ⟨i, hi, ?_⟩
  rw [List.getD_eq_getElem?_getD, List.getElem?_eq_getElem hl] at e
  rw [List.getElem?_eq_getElem hl, ← e]
  rfl
theorem xk_lf_ok {θ0 : Nat → Value} {j i : Nat} {f a : xk_V} {v : Value} (h : xk_lf μ σ j i f a = true) (h5 : f.1 = 5 → v = θ0 (1000 * j + i)) (hv : xk_R S θ ρ N a v) : xk_R S θ0 (xk_r0 ρ σ) (xk_n0 N μ) f v := by
  obtain ⟨fk, fo⟩ := f
  obtain ⟨ak, ao⟩ := a
  unfold xk_lf at h
  dsimp only at h h5
  match fk, h, h5 with
  | 0, h, _ =>
    simp only [Bool.and_eq_true, beq_iff_eq, decide_eq_true_eq] at h
    obtain ⟨rfl, rfl⟩ := h
    obtain ⟨x, rfl, hx⟩ := hv
    exact ⟨x, rfl, by rw [hx]; exact xk_ov_sb _⟩
  | 1, h, _ =>
    simp only [Bool.and_eq_true, beq_iff_eq, decide_eq_true_eq] at h
    obtain ⟨rfl, rfl⟩ := h
    obtain ⟨x, rfl, hx⟩ := hv
    exact ⟨x, rfl, by rw [hx]; exact xk_ov_sb _⟩
  | 2, h, _ =>
    have h : (match μ[fo.1]? with | some i => ak == 2 && ao.1 == i | none => false) = true := h
    split at h
    · rename_i i' hi
      simp only [Bool.and_eq_true, beq_iff_eq] at h
      obtain ⟨rfl, rfl⟩ := h
      obtain ⟨b, hb, rfl⟩ := hv
      refine ⟨b, ?_, rfl⟩
      unfold xk_n0
      rw [List.getElem?_map, hi]
      dsimp only at hb
      simp [List.getD_eq_getElem?_getD, hb]
    · cases h
  | 3, h, _ =>
    simp only [Bool.and_eq_true, beq_iff_eq] at h
    obtain ⟨rfl, h2⟩ := h
    have e : v = .ref (S ao.1) := hv
    show v = .ref (S fo.1)
    rw [← h2]
    exact e
  | 4, _, _ => exact trivial
  | 5, h, h5 =>
    have hk := of_decide_eq_true h
    show v = θ0 fo.1
    rw [hk.1]
    exact h5 rfl
  | n + 6, _, _ => exact trivial
/-- and back, where it has not changed -/
theorem xk_lf_back {θ0 : Nat → Value} {ρ' : Nat → Int} {n j i : Nat} {f a : xk_V} {w : Value} (h : xk_lf μ σ j i f a = true) (hr : ∀ i ∈ μ, i < N.length) (hρ : ∀ g, g ≤ n → ρ' g = xk_r0 ρ σ g) (hn : f.1 < 2 → f.2.1 ≤ n) (h6 : f.1 < 6 ∧ f.1 ≠ 4) (h5 : f.1 = 5 → xk_R S θ ρ N a (θ0 (1000 * j + i))) (hw : xk_R S θ0 ρ' (xk_n0 N μ) f w) : xk_R S θ ρ N a w := by
  obtain ⟨fk, fo⟩ := f
  obtain ⟨ak, ao⟩ := a
  have hov : fk < 2 → xk_ov ρ' fo = xk_ov ρ (xk_sb σ fo) := fun hk => by
    rw [xk_ov_sb]
    unfold xk_ov
    dsimp only at hn
    rw [hρ _ (hn hk)]
  unfold xk_lf at h
  dsimp only at h h5 h6
  match fk, h, h5, h6, hw, hov with
  | 0, h, _, _, hw, hov =>
    simp only [Bool.and_eq_true, beq_iff_eq, decide_eq_true_eq] at h
    obtain ⟨rfl, rfl⟩ := h
    obtain ⟨x, rfl, hx⟩ := hw
    exact ⟨x, rfl, by rw [hx]; exact hov (by omega)⟩
  | 1, h, _, _, hw, hov =>
    simp only [Bool.and_eq_true, beq_iff_eq, decide_eq_true_eq] at h
    obtain ⟨rfl, rfl⟩ := h
    obtain ⟨x, rfl, hx⟩ := hw
    exact ⟨x, rfl, by rw [hx]; exact hov (by omega)⟩
  | 2, h, _, _, hw, _ =>
    have h : (match μ[fo.1]? with | some i => ak == 2 && ao.1 == i | none => false) = true := h
    split at h
    · rename_i i' hi
      simp only [Bool.and_eq_true, beq_iff_eq] at h
      obtain ⟨rfl, rfl⟩ := h
      obtain ⟨b, hb, rfl⟩ := hw
      obtain ⟨i2, x1, x2⟩ := xk_n0_get hb hr
      dsimp only at x1
      cases hi.symm.trans x1
      exact ⟨b, x2, rfl⟩
    · cases h
  | 3, h, _, _, hw, _ =>
    simp only [Bool.and_eq_true, beq_iff_eq] at h
    obtain ⟨rfl, h2⟩ := h
    have e : w = .ref (S fo.1) := hw
    show w = .ref (S ao.1)
    rw [h2]
    exact e
  | 4, _, _, h6, _, _ => exact absurd rfl h6.2
  | 5, h, h5, _, hw, _ =>
    have hk := of_decide_eq_true h
    have e : w = θ0 fo.1 := hw
    rw [e, hk.1]
    exact h5 rfl
  | k + 6, _, _, h6, _, _ => omega
/-- what the called one asks of the heap -/
theorem xk_H.pre {H : Heap} (h4 : xk_H D AC S θ L ρ N T H) (hch : xk_ch T ks K μ σ) : ∃ θ0 : Nat → Value, xk_H D AC S θ0 L (xk_r0 ρ σ) (xk_n0 N μ) K.2.1 H ∧ (∀ i ∈ μ, i < N.length) ∧ (∀ (k : Nat) (v : xk_V), xk_op T μ k = v → xk_R S θ ρ N v (θ0 k)) ∧
    (∀ (j i k : Nat) (c : xk_C) (a : xk_V), μ[j]? = some i → T[i]? = some c → c.2[k]? = some a → k < 1000 → j < 1000 → xk_R S θ ρ N a (θ0 (1000 * j + k))) ∧ ∀ (j i : Nat) (c : xk_C), μ[j]? = some i → T[i]? = some c → 2 ≤ c.1.1 → c.1.1 ≤ 10000 → ∀ q, c.2.length ≤ q → q < c.1.1 → θ0 (1000000 + 10000 * j + q) = θ (1000000 + 10000 * i + q) := by
  obtain ⟨-, c3, hcell⟩ := xk_ch_ok hch
  have c5 := hch.2.2
  obtain ⟨h1, h2, h3⟩ := h4
  have hr : ∀ i ∈ μ, i < N.length := by
    intro i hi
    obtain ⟨j, hj⟩ := List.getElem?_of_mem hi
    have hjl : j < K.2.1.length := by rw [← c3]; exact (List.getElem?_eq_some_iff.mp hj).1
    obtain ⟨c', hc', -⟩ := hcell j i _ hj (List.getElem?_eq_getElem hjl)
    rw [h1]
    exact (List.getElem?_eq_some_iff.mp hc').1
  have hval : ∀ j : Nat, ∃ g : Nat → Value, ∀ (i : Nat) (c' : xk_C) (a : Nat), μ[j]? = some i → T[i]? = some c' → N[i]? = some a → (∀ (k : Nat) (v : xk_V), c'.2[k]? = some v → xk_R S θ ρ N v (g k)) ∧ (2 ≤ c'.1.1 → ∀ q, c'.2.length ≤ q → q < c'.1.1 → g q = θ (1000000 + 10000 * i + q)) ∧
      ∀ (θ' : Nat → Value) (ρ' : Nat → Int) (N' : List Nat) (i' : Nat) (d : xk_C), d.1 = c'.1 → d.2.length = c'.2.length → (∀ (k : Nat) (v : xk_V), d.2[k]? = some v → xk_R S θ' ρ' N' v (g k)) → (2 ≤ c'.1.1 → ∀ q, c'.2.length ≤ q → q < c'.1.1 → g q = θ' (1000000 + 10000 * i' + q)) → xk_tc D AC S θ' ρ' N' H i' d a := by
    intro j
    by_cases hj : j < μ.length
    · have hji : μ[j]? = some μ[j] := List.getElem?_eq_getElem hj
      obtain ⟨c', hc', -⟩ := hcell j _ _ hji (List.getElem?_eq_getElem (by rw [← c3]; exact hj))
      have hNl := hr _ (List.mem_of_getElem? hji)
      obtain ⟨-, l2⟩ := h3 _ c' _ hc' (List.getElem?_eq_getElem hNl)
      obtain ⟨g, g1, g2, g3⟩ := xk_vals l2
      refine ⟨g, fun i c'' a e1 e2 e3 => ?_⟩
      cases hji.symm.trans e1
      cases hc'.symm.trans e2
      cases (List.getElem?_eq_getElem hNl).symm.trans e3
      exact ⟨g1, g2, g3⟩
    · refine ⟨fun _ => .null, fun i c'' a e1 => ?_⟩
      rw [List.getElem?_eq_none (by omega)] at e1
      cases e1
  obtain ⟨G, hG⟩ := Classical.skolem.mp hval
  have t1 : ∀ j k : Nat, j < 1000 → k < 1000 → (fun k => if k < 1000000 then G (k / 1000) (k % 1000) else G ((k - 1000000) / 10000) ((k - 1000000) % 10000)) (1000 * j + k) = G j k := fun j k hj hk => by
    dsimp only
    rw [if_pos (by omega), show (1000 * j + k) / 1000 = j by omega, show (1000 * j + k) % 1000 = k by omega]
  have t2 : ∀ j q : Nat, q < 10000 → (fun k => if k < 1000000 then G (k / 1000) (k % 1000) else G ((k - 1000000) / 10000) ((k - 1000000) % 10000)) (1000000 + 10000 * j + q) = G j q := fun j q hq => by
    dsimp only
    rw [if_neg (by omega), show (1000000 + 10000 * j + q - 1000000) / 10000 = j by omega, show (1000000 + 10000 * j + q - 1000000) % 10000 = q by omega]
  refine ⟨fun k => if k < 1000000 then G (k / 1000) (k % 1000) else G ((k - 1000000) / 10000) ((k - 1000000) % 10000), ⟨by unfold xk_n0; rw [List.length_map]; exact c3, fun i j a hi hj => ?_, fun j d a hd ha => ?_⟩, hr, fun k v hk => ?_, fun j i k c' a hj hi hk hk1 hj1 => ?_, fun j i c' hj hi hc2 hc3 q q1 q2 => ?_⟩
  · obtain ⟨i', x1, x2⟩ := xk_n0_get hi hr
    obtain ⟨j', y1, y2⟩ := xk_n0_get hj hr
    have e := h2 i' j' a x2 y2
    subst e
    exact (List.getElem?_inj (List.getElem?_eq_some_iff.mp x1).1 c5).mp (x1.trans y1.symm)
  · obtain ⟨i', x1, x2⟩ := xk_n0_get ha hr
    obtain ⟨c', hc', e1, e0, e2, e3⟩ := hcell j i' d x1 hd
    obtain ⟨l1, l2⟩ := h3 i' c' a hc' x2
    obtain ⟨g1, g2, g3⟩ := hG j i' c' a x1 hc' x2
    refine ⟨l1, g3 _ _ _ j d e1.symm e2.symm (fun k v hv => ?_) (fun h2 q q1 q2 => ?_)⟩
    · obtain ⟨w, w1, w2⟩ := e3 k v hv
      refine xk_lf_ok w2 (fun h5 => ?_) (g1 k w w1)
      unfold xk_lf at w2
      rw [h5] at w2
      have hk := of_decide_eq_true w2
      exact (t1 j k hk.2.2 hk.2.1).symm
    · rw [e1] at q2
      exact (t2 j q (by omega)).symm
  · unfold xk_op at hk
    split at hk
    · rename_i c' hc'
      split at hk
      · rename_i w hw
        split at hk
        · rename_i hlt
          subst hk
          have hji : μ[k / 1000]? = some μ[k / 1000] := List.getElem?_eq_getElem hlt.1
          have e0 : μ.getD (k / 1000) 0 = μ[k / 1000] := by rw [List.getD_eq_getElem?_getD, hji]; rfl
          rw [e0] at hc'
          have hNl := hr _ (List.mem_of_getElem? hji)
          have := (hG (k / 1000) _ c' _ hji hc' (List.getElem?_eq_getElem hNl)).1 _ w hw
          dsimp only
          rw [if_pos hlt.2]
          exact this
        · subst hk; exact trivial
      · subst hk; exact trivial
    · subst hk; exact trivial
  · have hNl := hr _ (List.mem_of_getElem? hj)
    have := (hG j i c' _ hj hi (List.getElem?_eq_getElem hNl)).1 k a hk
    rw [t1 j k hj1 hk1]
    exact this
  · have hNl := hr _ (List.mem_of_getElem? hj)
    have := (hG j i c' _ hj hi (List.getElem?_eq_getElem hNl)).2.1 hc2 q q1 q2
    rw [t2 j q (by omega)]
    exact this
theorem xk_po_ok {θ0 : Nat → Value} {t n nx : Nat} {ag : List Nat} {v : xk_V} {w : Value} (hop : ∀ (k : Nat) (v : xk_V), xk_op T μ k = v → xk_R S θ ρ N v (θ0 k)) (hag : ag.all (fun g => decide (0 < g)) = true) (hr : ∀ i ∈ μ, i < N.length) (hnx : 0 < nx) (hΦ : ∀ r, r < wd t → ρ (nx + r) = Φ t r ((xk_ag σ ag).map (xk_ov ρ))) (hg : xk_gv wd (t, n, ag) v = true) (h : xk_R S θ0 (xk_rho Φ (t, n, ag) (xk_r0 ρ σ)) (xk_n0 N μ) v w) : xk_R S θ ρ N (xk_po T μ σ n nx v) w := by
  have hins : ag.map (xk_r0 ρ σ) = (xk_ag σ ag).map (xk_ov ρ) := by
    unfold xk_ag
    rw [List.map_map]
    apply List.map_congr_left
    intro g hg
    have h0 := of_decide_eq_true (List.all_eq_true.mp hag g hg)
    show (if g = 0 then (0 : Int) else xk_ov ρ (σ.getD (g - 1) (0, 0))) = xk_ov ρ (σ.getD (g - 1) (0, 0))
    rw [if_neg (by omega)]
  have key : ∀ o : xk_O, o.1 ≤ n + wd t → xk_ov (xk_rho Φ (t, n, ag) (xk_r0 ρ σ)) o = xk_ov ρ (if o.1 ≤ n then xk_sb σ o else (nx + (o.1 - n - 1), 0)) := by
    intro o ho
    by_cases hl : o.1 ≤ n
    · rw [if_pos hl, xk_ov_sb]
      unfold xk_ov
      by_cases h0 : o.1 = 0
      · rw [if_pos h0, if_pos h0]
      · rw [if_neg h0, if_neg h0]
        unfold xk_rho
        dsimp only
        rw [if_pos hl]
    · rw [if_neg hl]
      show (if o.1 = 0 then o.2 else xk_rho Φ (t, n, ag) (xk_r0 ρ σ) o.1) = if nx + (o.1 - n - 1) = 0 then (0 : Int) else ρ (nx + (o.1 - n - 1))
      rw [if_neg (by omega), if_neg (by omega), hΦ _ (by omega)]
      unfold xk_rho
      dsimp only
      rw [if_neg hl, hins]
  unfold xk_gv at hg
  have hg := of_decide_eq_true hg
  obtain ⟨k, o⟩ := v
  unfold xk_po
  dsimp only at hg ⊢
  match k, h, hg with
  | 0, h, hg =>
    obtain ⟨x, rfl, hx⟩ := h
    exact ⟨x, rfl, by rw [hx]; exact key o (hg (by omega))⟩
  | 1, h, hg =>
    obtain ⟨x, rfl, hx⟩ := h
    exact ⟨x, rfl, by rw [hx]; exact key o (hg (by omega))⟩
  | 2, h, hg =>
    obtain ⟨a, ha, rfl⟩ := h
    obtain ⟨i, x1, x2⟩ := xk_n0_get ha hr
    refine ⟨a, ?_, rfl⟩
    show N[μ.getD o.1 0]? = some a
    dsimp only at x1
    rw [List.getD_eq_getElem?_getD, x1]
    exact x2
  | 3, h, hg => exact h
  | 4, h, hg => exact trivial
  | 5, h, hg =>
    have e : w = θ0 o.1 := h
    rw [e]
    exact hop o.1 _ rfl
  | k + 6, h, hg =>
    rw [if_neg (by omega), if_neg (by omega), if_neg (by omega)]
    exact trivial
/-- the caller's cells behind a call -/
theorem xk_H.post {θ0 : Nat → Value} {H H' : Heap} {nx : Nat} (h4 : xk_H D AC S θ L ρ N T H) (hch : xk_ch T ks K μ σ) (hr : ∀ i ∈ μ, i < N.length) (hop : ∀ (k : Nat) (v : xk_V), xk_op T μ k = v → xk_R S θ ρ N v (θ0 k)) (hfl : ∀ (j i k : Nat) (c : xk_C) (a : xk_V), μ[j]? = some i → T[i]? = some c → c.2[k]? = some a → k < 1000 → j < 1000 → xk_R S θ ρ N a (θ0 (1000 * j + k)))
    (hwn : ∀ (j i : Nat) (c : xk_C), μ[j]? = some i → T[i]? = some c → 2 ≤ c.1.1 → c.1.1 ≤ 10000 → ∀ q, c.2.length ≤ q → q < c.1.1 → θ0 (1000000 + 10000 * j + q) = θ (1000000 + 10000 * i + q)) (hgd : xk_gd wd K = true) (hpl : K.2.1.all (fun c => c.2.all (fun v => decide (v.1 < 2 → v.2.1 ≤ K.2.2.2.2.1.2.1))) = true) (hnx : 0 < nx) (hΦ : ∀ r, r < wd K.2.2.2.2.1.1 → ρ (nx + r) = Φ K.2.2.2.2.1.1 r ((xk_ag σ K.2.2.2.2.1.2.2).map (xk_ov ρ)))
    (h1 : xk_H D AC S θ0 L (xk_rho Φ K.2.2.2.2.1 (xk_r0 ρ σ)) (xk_n0 N μ) K.2.2.2.1 H') (hF : xk_F (xk_n0 N μ) H H') : xk_H D AC S θ L ρ N (xk_T2 T μ K.2.1 K.2.2.2.1 (xk_po T μ σ K.2.2.2.2.1.2.1 nx)) H' := by
  obtain ⟨-, c3, hcell⟩ := xk_ch_ok hch
  obtain ⟨a1, a2, a3⟩ := h4
  unfold xk_gd at hgd
  simp only [Bool.and_eq_true, beq_iff_eq] at hgd
  obtain ⟨⟨⟨⟨g1, g2⟩, g3⟩, g4⟩, g5⟩ := hgd
  refine ⟨by unfold xk_T2; rw [List.length_mapIdx]; exact a1, a2, fun i d a hd ha => ?_⟩
  unfold xk_T2 at hd
  rw [List.getElem?_mapIdx] at hd
  obtain ⟨c', hc', rfl⟩ := Option.map_eq_some_iff.mp hd
  obtain ⟨l1, l2⟩ := a3 i c' a hc' ha
  refine ⟨l1, ?_⟩
  split
  · rename_i j hj
    have hji := ck_find_some hj
    have hjl : j < K.2.1.length := by rw [← c3]; exact (List.getElem?_eq_some_iff.mp hji).1
    have hjl2 : j < K.2.2.2.1.length := by omega
    have hpj : K.2.1[j]? = some K.2.1[j] := List.getElem?_eq_getElem hjl
    have hdj : K.2.2.2.1[j]? = some K.2.2.2.1[j] := List.getElem?_eq_getElem hjl2
    rw [hpj, hdj]
    dsimp only
    have hna : (xk_n0 N μ)[j]? = some a := by
      unfold xk_n0
      rw [List.getElem?_map, hji]
      simp [List.getD_eq_getElem?_getD, ha]
    obtain ⟨-, z⟩ := h1.2.2 j _ a hdj hna
    obtain ⟨c'', e0, e1, e2, e3, e4⟩ := hcell j i _ hji hpj
    cases hc'.symm.trans e0
    have hall : ∀ v ∈ (K.2.2.2.1[j]).2, xk_gv wd K.2.2.2.2.1 v = true := fun v hv => List.all_eq_true.mp (List.all_eq_true.mp g1 _ (List.getElem_mem hjl2)) v hv
    have hpa : ∀ v ∈ (K.2.1[j]).2, v.1 < 2 → v.2.1 ≤ K.2.2.2.2.1.2.1 := fun v hv => of_decide_eq_true (List.all_eq_true.mp (List.all_eq_true.mp hpl _ (List.getElem_mem hjl)) v hv)
    have hzz := List.all_eq_true.mp g5 (K.2.1[j], K.2.2.2.1[j]) (List.mem_of_getElem? (i := j) (by rw [List.getElem?_zip_eq_some]; exact ⟨hpj, hdj⟩))
    simp only [Bool.and_eq_true, beq_iff_eq, decide_eq_true_eq] at hzz
    obtain ⟨y1, y2⟩ := hzz
    generalize K.2.1[j] = pj at *
    generalize K.2.2.2.1[j] = dj at *
    obtain ⟨p1, p2⟩ := xk_p3_ok (po := xk_po T μ σ K.2.2.2.2.1.2.1 nx) (fs := pj.2) (gs := dj.2) (as := c'.2) y2.symm e3
    obtain ⟨g, z1, z2, z3⟩ := xk_vals z
    refine z3 θ ρ N i (dj.1, xk_p3 _ pj.2 dj.2 c'.2) rfl p1 (fun k v hv => ?_) (fun hk2 q q1 q2 => ?_)
    · obtain ⟨f, gg, a', x1, x2, x3, rfl⟩ := p2 k v hv
      have hw := z1 k gg x2
      obtain ⟨a'', b1, b2⟩ := e4 k f x1
      cases x3.symm.trans b1
      split
      · rename_i hc
        obtain ⟨rfl, hc6⟩ := hc
        refine xk_lf_back (n := K.2.2.2.2.1.2.1) b2 hr (fun g hg => ?_) (hpa f (List.mem_of_getElem? x1)) hc6 (fun h5 => ?_) hw
        · unfold xk_rho
          rw [if_pos hg]
        · unfold xk_lf at b2
          rw [h5] at b2
          have hk := of_decide_eq_true b2
          exact hfl j i k c' a' hji hc' b1 hk.2.1 hk.2.2
      · exact xk_po_ok hop g4 hr hnx hΦ (hall gg (List.mem_of_getElem? x2)) hw
    · rw [z2 hk2 q q1 q2]
      have ec : c'.1.1 = dj.1.1 := by rw [e1, y1]
      refine hwn j i c' hji hc' (by omega) (by rw [e1]; exact e2) q (by omega) (by omega)
  · rename_i hj
    have hni := ck_find_none hj
    refine l2.kept (hF.2 a fun hm => hni ?_)
    obtain ⟨j, hj2⟩ := List.getElem?_of_mem hm
    obtain ⟨i', x1, x2⟩ := xk_n0_get hj2 hr
    have e := a2 i i' a ha x2
    subst e
    exact List.mem_of_getElem? x1
theorem xw_call {ig : Instr} {nb : Nat × Nat} {nS nx : Nat} (hO : xk_Ok l Φ nb M K) (hgd : xk_gd wd K = true) (hn1 : nb.1 ≤ nS) (hn2 : nS ≤ nb.2) (hexec : p.tables.exec = Jvm.exec) (hb : c.code = cc) (hml : c.maxLocals = nL) (hd : decode cc pc = .ok (ig, 3)) (hKf : ck_Kf D AC S L s nS) (hSt : xk_St S L s) (hL : xk_L L H0) (htr : e.platform.stackTraces = false) (hcode : (Cond.codeWith M.1 M.2.1 M.2.2.1 M.2.2.2.1 M.2.2.2.2).before args s = true) (hplain : plainName M.1.cls = true)
    (hinv : ∀ {U : State} {H : Heap} {ls : Array Slot} {vs rest : List Value} {locs : List Loc}, U.heap = H → Stand p l e R s m args below meth c U locs 0 0 → xk_H D AC S θ L ρ N T H → ck_all (xk_R S θ ρ N) ks vs → ck_Inv p l e R s m args below meth c locs 0 0 U M.1 (F0 m pc ls (vs.reverse ++ rest)) rest vs.toArray)
    (hfr : K.2.2.2.2.2.1 + 1 ≤ R.frames) (hst : st.all xk_kn = true) (hlo : (st.map fun v => if v.1 == 1 then 2 else 1).sum + (M.2.2.1 + 11) + K.2.2.2.2.2.2 ≤ R.locals) (hch : xk_ch T ks K μ σ) (hpl : K.2.1.all (fun c => c.2.all (fun v => decide (v.1 < 2 → v.2.1 ≤ K.2.2.2.2.1.2.1))) = true) (hnx : 0 < nx) (hΦ : ∀ r, r < wd K.2.2.2.2.1.1 → ρ (nx + r) = Φ K.2.2.2.2.1.1 r ((xk_ag σ K.2.2.2.2.1.2.2).map (xk_ov ρ)))
    (kk : xk_W p l e R s m args below meth c Q D AC S θ L nL ρ N H0 (pc + 3) (A, (K.2.2.1.map (xk_po T μ σ K.2.2.2.2.1.2.1 nx)).toList ++ st, xk_T2 T μ K.2.1 K.2.2.2.1 (xk_po T μ σ K.2.2.2.2.1.2.1 nx))) :
    xk_W p l e R s m args below meth c Q D AC S θ L nL ρ N H0 pc (A, ks.reverse ++ st, T) := by
  intro H ls vs locs h U hU Xs
  obtain ⟨lv, h1, h2, h3, h4, h5, h6⟩ := h
  obtain ⟨va, rest, rfl, ha, hrest⟩ := ck_all.split h3
  have ha := ck_all.rev ha
  obtain ⟨θ0, q1, q2, q3, q4, q5⟩ := h4.pre hch
  have hag := (xk_ch_ok hch).1
  have hargs : ck_all (xk_R S θ0 (xk_r0 ρ σ) (xk_n0 N μ)) K.1 va.reverse := by
    refine ⟨by rw [← hag.1]; exact ha.1, fun i f v hf hw => ?_⟩
    obtain ⟨a', x1, x2⟩ := hag.2 i f hf
    refine xk_lf_ok x2 (fun h5 => ?_) (ha.2 i a' v x1 hw)
    unfold xk_lf at x2
    rw [h5] at x2
    have hk := of_decide_eq_true x2
    omega
  have hi := hinv (ls := ls) (rest := rest) hU Xs h4 ha
  rw [List.reverse_reverse] at hi
  have hLU : xk_L L U.heap := by
    rw [hU]
    exact ⟨by have := hL.1; have := h5.1; omega, fun q hq => xk_base hL h4 h5 hq⟩
  obtain ⟨U', Ls, v, X', hLs, hps, hH', hF', hret⟩ := xk_call hO hn1 hn2 hi hexec rfl (by rw [hml]; exact h1.1) (ig := ig) (by rw [hb]; exact hd) hcode hplain htr hfr (by show 2 * 0 + _ + _ + _ ≤ _; rw [xk_words hrest hst]; omega) hKf hSt hLU rfl hargs (by rw [hU]; exact q1)
  rw [hU] at hF'
  have z3 := xk_H.post h4 hch q2 q3 q4 q5 hgd hpl hnx hΦ hH' hF'
  have z5 : xk_F N H0 U'.heap := ⟨hF'.1.trans h5.1, fun q hq => by
    rw [hF'.2 q (fun hm => hq ?_)]
    · exact h5.2 q hq
    · obtain ⟨j, hj⟩ := List.getElem?_of_mem hm
      obtain ⟨i', x1, x2⟩ := xk_n0_get hj q2
      exact List.mem_of_getElem? x2⟩
  have hlo2 : ∀ q ∈ locs ++ Ls, L.size ≤ q.base := fun q hq => by
    rcases List.mem_append.mp hq with z | z
    · exact h6 q z
    · exact hLs q z
  have hS2 : ck_all (xk_R S θ ρ N) ((K.2.2.1.map (xk_po T μ σ K.2.2.2.2.1.2.1 nx)).toList ++ st) (v.toList ++ rest) := by
    unfold xk_gd at hgd
    simp only [Bool.and_eq_true, beq_iff_eq] at hgd
    obtain ⟨⟨⟨⟨g1, g2⟩, g3⟩, g4⟩, g5⟩ := hgd
    unfold xk_rs at hps
    split at hps
    · rename_i hr
      rw [hr]
      cases hps
      exact hrest
    · rename_i k hr
      rw [hr] at g2 ⊢
      obtain ⟨w, hw, hk⟩ := hps
      cases hw
      exact ck_all.cons (xk_po_ok q3 g4 q2 hnx hΦ g2 hk) hrest
  obtain ⟨t, a, b⟩ := kk U'.heap ls (v.toList ++ rest) (locs ++ Ls) ⟨lv, h1, h2, hS2, z3, z5, hlo2⟩ U' rfl X'
  exact ⟨t, hret t a, b⟩
end XKD2
