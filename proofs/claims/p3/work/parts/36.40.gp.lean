/-! ===== two ends of one run ===== -/
theorem gk_el {t : State} {below : List Frame} {v : Option Value} (h : Ended t below (.returned v)) : t.frames.length = below.length := by
  cases below with
  | nil => exact congrArg List.length h.2
  | cons f r =>
    cases f with
    | java g =>
      obtain ⟨c, i, len, _, _, e⟩ := h
      rw [e]
      rfl
    | native g =>
      have h : t.frames = .native { g with awaiting := false, answer := some (.returned v) } :: r := h
      rw [h]
      rfl
    | proc g =>
      have h : t.frames = .proc { g with awaiting := false, answer := some (.returned v) } :: r := h
      rw [h]
      rfl
    | _ => exact congrArg List.length h.2
theorem gk_ew {t : State} {below : List Frame} {o : Outcome} (h : Ended t below o) : ¬ Within t below := by
  rintro ⟨above, h1, h2, h3⟩
  cases o with
  | threw a =>
    have h : t.frames = [Frame.throwing a] ++ below := h
    exact h3 a (List.append_cancel_right (h1.symm.trans h))
  | returned v =>
    have hl := gk_el h
    rw [h1, List.length_append] at hl
    cases above with
    | nil => exact h2 rfl
    | cons x y =>
      simp only [List.length_cons] at hl
      omega
theorem gk_vl {v w : Option Value} {s : List Value} (h : v.toList ++ s = w.toList ++ s) : v = w := by
  have h := List.append_cancel_right h
  cases v <;> cases w <;> simp_all
theorem gk_eo {t : State} {below : List Frame} {o1 o2 : Outcome} (h1 : Ended t below o1) (h2 : Ended t below o2) : o1 = o2 := by
  have hx : ∀ (a : Addr) (v : Option Value), Ended t below (.threw a) → Ended t below (.returned v) → False := fun a v q1 q2 => by
    have hl := gk_el q2
    have q1 : t.frames = .throwing a :: below := q1
    rw [q1] at hl
    simp only [List.length_cons] at hl
    omega
  cases o1 with
  | threw a =>
    cases o2 with
    | threw b =>
      have h1 : t.frames = .throwing a :: below := h1
      have h2 : t.frames = .throwing b :: below := h2
      cases h1.symm.trans h2
      rfl
    | returned w => exact (hx a w h1 h2).elim
  | returned v =>
    cases o2 with
    | threw b => exact (hx b v h2 h1).elim
    | returned w =>
      refine congrArg Outcome.returned ?_
      cases below with
      | nil => exact h1.1.trans h2.1.symm
      | cons f r =>
        cases f with
        | java g =>
          obtain ⟨c, i, len, _, _, e⟩ := h1
          obtain ⟨c', i', len', _, _, e'⟩ := h2
          have hh := List.head_eq_of_cons_eq (e.symm.trans e')
          have hg := congrArg JFrame.stack (Frame.java.inj hh)
          exact gk_vl hg
        | native g =>
          have h1 : t.frames = .native { g with awaiting := false, answer := some (.returned v) } :: r := h1
          have h2 : t.frames = .native { g with awaiting := false, answer := some (.returned w) } :: r := h2
          have hh := Frame.native.inj (List.head_eq_of_cons_eq (h1.symm.trans h2))
          injection hh
          simp_all
        | proc g =>
          have h1 : t.frames = .proc { g with awaiting := false, answer := some (.returned v) } :: r := h1
          have h2 : t.frames = .proc { g with awaiting := false, answer := some (.returned w) } :: r := h2
          have hh := Frame.proc.inj (List.head_eq_of_cons_eq (h1.symm.trans h2))
          injection hh
          simp_all
        | _ => exact h1.1.trans h2.1.symm
theorem gk_det {tb : Tables} {e : Env} {below : List Frame} {s t1 t2 : State} (h1 : Steps tb e below s t1) (h2 : Steps tb e below s t2) (n1 : ¬ Within t1 below) (n2 : ¬ Within t2 below) : t1 = t2 := by
  obtain ⟨a, rfl, ha⟩ := h1
  obtain ⟨b, rfl, hb⟩ := h2
  rcases Nat.lt_trichotomy a b with h | h | h
  · exact absurd (hb a h) n1
  · rw [h]
  · exact absurd (ha b h) n2
/-! ===== the law's run, in pieces ===== -/
def gk_Z (below : List Frame) (L : Heap) (ce sl : Nat) (s : State) : State → Prop := fun t => ∃ o, t.status = .running ∧ Ended t below o ∧ o = .returned (some (.int 1)) ∧ s.WarmedH t.vm ∧ ∃ Ls : List Loc, s.sameButNew ({ t with vm := s.vm } : State) Ls ce sl ∧ ∀ q ∈ Ls, L.size ≤ q.base
/-- what an abstract state says, of a state's own parts -/
def gk_S (D : va_G) (AC : Nat → ClassId) (S : Nat → Nat) (tab : List ck_D) (L : Heap) (nL : Nat) (ρ : Nat → Int) (G : Nat → Nat) (N : List Nat) (B : ck_A) (H : Heap) (ls : Array Slot) (st : List Value) : Prop :=
  ∃ lv : List (Nat × Value), lv_has ls nL lv ∧ ck_all (ck_RL S ρ G N) B.1 lv ∧ ck_all (ck_R S ρ G N) B.2.1 st ∧ ck_H D AC S tab L ρ G N B.2.2 H
section GP
variable {p : Program} {l : Launch} {e : Env} {R : Room} {s : State} {m : MethodId} {args : Array Value} {below : List Frame} {meth : Method} {c : Code} {H : Heap} {locs : List Loc} {ce sl : Nat} {g : JFrame}
variable {D : va_G} {AC : Nat → ClassId} {S : Nat → Nat} {tab : List ck_D} {L : Heap} {n : Nat} {M : ck_M}
theorem W.both {Q1 Q2 : State → Prop} (w1 : W p l e R s m args below meth c H locs ce sl Q1 g) (w2 : W p l e R s m args below meth c H locs ce sl Q2 g) (e1 : ∀ t, Q1 t → ∃ o, Ended t below o) (e2 : ∀ t, Q2 t → ∃ o, Ended t below o) : W p l e R s m args below meth c H locs ce sl (fun t => Q1 t ∧ Q2 t) g := by
  intro T hT X
  obtain ⟨t1, a1, b1⟩ := w1 T hT X
  obtain ⟨t2, a2, b2⟩ := w2 T hT X
  obtain ⟨o1, c1⟩ := e1 t1 b1
  obtain ⟨o2, c2⟩ := e2 t2 b2
  have ee := gk_det a1 a2 (gk_ew c1) (gk_ew c2)
  subst ee
  exact ⟨t1, a1, b1, b2⟩
theorem gk_Bmv {s' : State} (hB : ck_B p s m meth c M) (hW : s.WarmedH s'.vm) : ck_B p s' m meth c M := by
  obtain ⟨b1, b2, b3, b4, b5, b6, b7, b8⟩ := hB
  exact ⟨b1, b2, b3, b4, b5, by rw [hW.alike.findClass]; exact b6, b7, b8⟩
theorem gk_Z.mono {a b a' b' : Nat} {t : State} (ha : a ≤ a') (hb : b ≤ b') (h : gk_Z below L a b s t) : gk_Z below L a' b' s t := by
  obtain ⟨o, h1, h2, h3, h4, Ls, h5, h6⟩ := h
  exact ⟨o, h1, h2, h3, h4, Ls, h5.weaken (fun q hq _ => hq) ha hb, h6⟩
/-- here the run is told anew: it is as if it began here -/
theorem gk_cut {c2 s2 cZ sZ : Nat} (hce : ce ≤ R.cells) (hsl : sl ≤ R.slots) (hlo : ∀ q ∈ locs, L.size ≤ q.base) (hc : ce + c2 ≤ cZ) (hs : sl + s2 ≤ sZ)
    (k : ∀ s' : State, s'.heap = H → s.WarmedH s'.vm → W p l e { R with cells := R.cells - ce, slots := R.slots - sl } s' m args below meth c H [] 0 0 (gk_Z below L c2 s2 s') g) : W p l e R s m args below meth c H locs ce sl (gk_Z below L cZ sZ s) g := by
  intro U hU X
  have Y := ck_rebase X hce hsl
  have hWs : s.WarmedH (U.setFrames (.invoking m args :: below)).vm := X.warmed
  obtain ⟨t, t1, o, u1, u2, u3, u4, Ls, u5, u6⟩ := k (U.setFrames (.invoking m args :: below)) hU hWs U hU Y
  have hUt : U.sameButNew ({ t with vm := U.vm } : State) Ls c2 s2 := by
    obtain ⟨e1, e2⟩ := u5
    refine ⟨?_, e2⟩
    rw [State.setFrames_setFrames] at e1
    exact e1
  have hsm : s.sameButNew ({ t with vm := s.vm } : State) (locs ++ Ls) (ce + c2) (sl + s2) := X.same.trans (hUt.setVm s.vm)
  refine ⟨t, t1, o, u1, u2, u3, State.WarmedH.trans X.warmed u4, locs ++ Ls, hsm.weaken (fun q hq _ => hq) hc hs, fun q hq => ?_⟩
  rcases List.mem_append.mp hq with z | z
  · exact hlo q z
  · exact u6 q z
/-- a piece of the run, from one place to marked ones -/
theorem gk_piece {nb : Nat × Nat} {lw : Bool} {K : ck_Ct} {E : ck_E} {ms : List ck_MM} {cts : List (Nat × ck_Kt)} {nt : List (Nat × Nat × Nat)} {cod : List (List (Nat × Instr × Nat))} {al : List (List ck_C × (Option ck_V ⊕ Nat))} {wr : List Nat} {ops : List (Nat × List ck_O)} {ann : List (Nat × ck_An)} {f pc cZ sZ : Nat} {B : ck_A} {ls : Array Slot} {st : List Value} {ρ : Nat → Int} {G : Nat → Nat} {N : List Nat}
    (hB : ck_B p s m meth c M) (htr : e.platform.stackTraces = false) (hR : K.2.2.2.2.1 ≤ R.frames ∧ K.2.2.2.2.2.1 ≤ R.locals ∧ K.2.2.2.2.2.2.1 ≤ R.cells ∧ K.2.2.2.2.2.2.2 ≤ R.slots) (hn1 : nb.1 ≤ n) (hn2 : n ≤ nb.2) (hKf : ck_Kf D AC S L s n) (hE : ck_Eok ms E) (hEM : E.1 = M.1.cls) (hms : ∀ q ∈ ms, ck_Mok q) (hcts : ∀ q ∈ cts, ∃ M' : ck_MM, ms[q.1]? = some M' ∧ gck_Ok l tab nb M'.1 q.2) (hgl : ck_Glob) (hcod : ∀ pc i n, ck_cdAt cod pc = some (i, n) → decode M.2.1 pc = .ok (i, n))
    (hQ : ∀ a ∈ al, ∀ t, gck_Fin D AC S tab L ρ wr G N (ck_alt K a) below s t → gk_Z below L cZ sZ s t) (hnp : B.2.2.length = K.2.1.length) (hlw : lw = true → ρ 149 = (S 3 : Int)) (hann : ann.all (fun a => decide (a.2.2.2.1 ≤ K.2.2.2.2.2.2.1) && decide (a.2.2.2.2 ≤ K.2.2.2.2.2.2.2)) = true)
    (hex : gck_ex E tab nb lw ms cts nt cod M K al wr ops ann none f (pc, B, 0, 0) = true) (hS : gk_S D AC S tab L M.2.2.1 ρ G N B s.heap ls st)
    (kk : ∀ a ∈ ann, ∀ (s' : State) (ls' : Array Slot) (st' : List Value) (ρ' : Nat → Int) (G' : Nat → Nat) (N' : List Nat), s.WarmedH s'.vm → gk_S D AC S tab L M.2.2.1 ρ' G' N' a.2.1 s'.heap ls' st' → gck_F wr G N s.heap G' N' a.2.1.2.2 s'.heap → (∀ g, 100 ≤ g → g < 200 → ρ' g = ρ g) →
      ∃ c2 s2, a.2.2.2.1 + c2 ≤ cZ ∧ a.2.2.2.2 + s2 ≤ sZ ∧ W p l e { R with cells := R.cells - a.2.2.2.1, slots := R.slots - a.2.2.2.2 } s' m args below meth c s'.heap [] 0 0 (gk_Z below L c2 s2 s') (F0 m a.1 ls' st')) :
    W p l e R s m args below meth c s.heap [] 0 0 (gk_Z below L cZ sZ s) (F0 m pc ls st) := by
  obtain ⟨lv, s1, s2, s3, s4⟩ := hS
  have hNB : N.length = B.2.2.length := s4.2.1
  refine gcw_ex (z := none) (ann := ann) ⟨hB, htr, hR, ⟨n, hn1, hn2, hKf⟩, hE, hEM, hms, hcts, hgl, hcod⟩ hQ (by rw [hNB]; exact hnp) hlw (fun y a ha harr => ?_) f _ hex s.heap ls st [] ⟨ρ, G, N, lv, s1, s2, s3, s4, gck_F.refl hNB (fun q hq => s4.zero hq), (fun q hq => by cases hq), fun _ _ _ => rfl⟩
  intro H ls' st' locs hs
  unfold ck_arr at harr
  simp only [Bool.and_eq_true, decide_eq_true_eq] at harr
  obtain ⟨⟨⟨⟨e1, e2⟩, e3⟩, -⟩, -⟩ := harr
  have hab := List.all_eq_true.mp hann _ ha
  simp only [Bool.and_eq_true, decide_eq_true_eq] at hab
  refine W.widen e1 e2 ?_
  obtain ⟨ρ', G', N', lv', i1, i2, i3, i4, i5, i6, i7⟩ := hs.le e3
  intro U hU X
  have hWs : s.WarmedH (U.setFrames (.invoking m args :: below)).vm := X.warmed
  obtain ⟨c2, s2', q1, q2, w⟩ := kk _ ha (U.setFrames (.invoking m args :: below)) ls' st' ρ' G' N' hWs (by
    show gk_S D AC S tab L M.2.2.1 ρ' G' N' a.1 U.heap ls' st'
    rw [hU]
    exact ⟨lv', i1, i2, i3, i4⟩) (by
    show gck_F wr G N s.heap G' N' a.1.2.2 U.heap
    rw [hU]
    exact i5) i7
  have Y := ck_rebase X (Nat.le_trans hab.1 hR.2.2.1) (Nat.le_trans hab.2 hR.2.2.2)
  obtain ⟨t, t1, o, u1, u2, u3, u4, Ls, u5, u6⟩ := w U rfl Y
  have hUt : U.sameButNew ({ t with vm := U.vm } : State) Ls c2 s2' := by
    obtain ⟨e1, e2⟩ := u5
    refine ⟨?_, e2⟩
    rw [State.setFrames_setFrames] at e1
    exact e1
  have hsm : s.sameButNew ({ t with vm := s.vm } : State) (locs ++ Ls) (a.2.2.1 + c2) (a.2.2.2 + s2') := X.same.trans (hUt.setVm s.vm)
  refine ⟨t, t1, o, u1, u2, u3, State.WarmedH.trans X.warmed u4, locs ++ Ls, hsm.weaken (fun q hq _ => hq) q1 q2, fun q hq => ?_⟩
  rcases List.mem_append.mp hq with z | z
  · exact i6 q z
  · exact u6 q z
end GP
