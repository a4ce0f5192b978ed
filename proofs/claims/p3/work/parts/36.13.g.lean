/-! the second checker: 13 -/
def gck_Ps (D : va_G) (AC : Nat → ClassId) (S : Nat → Nat) (tab : List ck_D) (L : Heap) (ρ0 : Nat → Int) (wr : List Nat) (G0 : Nat → Nat) (N0 : List Nat) (H0 : Heap) (s : State) (K : ck_Ct) (o : Outcome) (H : Heap) : Prop :=
  ∃ (ρ : Nat → Int) (G : Nat → Nat) (N : List Nat), ck_H D AC S tab L ρ G N K.2.2.1 H ∧ gck_F wr G0 N0 H0 G N K.2.2.1 H ∧ (∀ g, 100 ≤ g → g < 200 → ρ g = ρ0 g) ∧ match K.2.2.2.1 with
    | .inl none => o = .returned none
    | .inl (some k) => ∃ w, o = .returned (some w) ∧ ck_R S ρ G N k w
    | .inr x => ∃ (a : Nat) (cell : Cell), o = .threw a ∧ H[a]? = some cell ∧ cell.vm.isStatics = false ∧ s.vm.findClass (ck_xn x) = some cell.cls
def gck_Fin (D : va_G) (AC : Nat → ClassId) (S : Nat → Nat) (tab : List ck_D) (L : Heap) (ρ0 : Nat → Int) (wr : List Nat) (G0 : Nat → Nat) (N0 : List Nat) (K : ck_Ct) (below : List Frame) (s : State) : State → Prop := fun t =>
  ∃ o, t.status = .running ∧ Ended t below o ∧ s.WarmedH t.vm ∧ (∃ Ls : List Loc, s.sameButNew ({ t with vm := s.vm } : State) Ls K.2.2.2.2.2.2.1 K.2.2.2.2.2.2.2 ∧ ∀ q ∈ Ls, L.size ≤ q.base) ∧ gck_Ps D AC S tab L ρ0 wr G0 N0 s.heap s K o t.heap
def gck_Ok (l : Launch) (tab : List ck_D) (nb : Nat × Nat) (M : ck_M) (X : ck_Kt) : Prop :=
  ∀ (p : Program) (e : Env) (R : Room) (s : State) (m : MethodId) (args : Array Value) (below : List Frame) (meth : Method) (c : Code) (D : va_G) (AC : Nat → ClassId) (S : Nat → Nat) (L : Heap) (ρ0 : Nat → Int) (G0 : Nat → Nat) (N0 : List Nat) (vs : List Value) (n : Nat), nb.1 ≤ n → n ≤ nb.2 →
    ck_B p s m meth c M → e.platform.stackTraces = false → X.1.2.2.2.2.1 ≤ R.frames → X.1.2.2.2.2.2.1 ≤ R.locals → X.1.2.2.2.2.2.2.1 ≤ R.cells → X.1.2.2.2.2.2.2.2 ≤ R.slots → ck_Kf D AC S L s n → args = vs.toArray → ck_all (ck_R S ρ0 G0 N0) X.1.1 vs → ck_H D AC S tab L ρ0 G0 N0 (ck_etag X.1.2.1) s.heap →
    W p l e R s m args below meth c s.heap [] 0 0 (fun t => ∃ a ∈ X.2.1, gck_Fin D AC S tab L ρ0 X.2.2 G0 N0 (ck_alt X.1 a) below s t) (entryFrame m args M.2.2.1)
section CKI
variable {p : Program} {l : Launch} {e : Env} {R : Room} {s : State} {m : MethodId} {args : Array Value} {below : List Frame} {meth : Method} {c : Code} {T : State} {locs : List Loc} {cells slots : Nat}
/-- a method is called, and either comes back, or its exception does -/
theorem gck_call {tab : List ck_D} {nb : Nat × Nat} {nS : Nat} {M : ck_M} {X : ck_Kt} (hO : gck_Ok l tab nb M X) (hn1 : nb.1 ≤ nS) (hn2 : nS ≤ nb.2) {g : JFrame} {rest : List Value} {a : Array Value} (hinv : ck_Inv p l e R s m args below meth c locs cells slots T M.1 g rest a) (hexec : p.tables.exec = Jvm.exec) (hg : g.method = m) (hsize : g.locals.size = c.maxLocals) {ig : Instr} (hdg : decode c.code g.pc = .ok (ig, 3))
    (hcode : (Cond.codeWith M.1 M.2.1 M.2.2.1 M.2.2.2.1 M.2.2.2.2).before args s = true) (hplain : plainName M.1.cls = true) (htr : e.platform.stackTraces = false) (hfr : X.1.2.2.2.2.1 + 1 ≤ R.frames) (hlo : 2 * g.monitorRoom + (rest.map fun v => v.category).sum + (M.2.2.1 + 11) + X.1.2.2.2.2.2.1 ≤ R.locals) (hce : cells + X.1.2.2.2.2.2.2.1 ≤ R.cells) (hsl : slots + X.1.2.2.2.2.2.2.2 ≤ R.slots)
    {D : va_G} {AC : Nat → ClassId} {S : Nat → Nat} {L : Heap} {ρ0 : Nat → Int} {G0 : Nat → Nat} {N0 : List Nat} {vs : List Value} (hK : ck_Kf D AC S L s nS) (ha : a = vs.toArray) (hv : ck_all (ck_R S ρ0 G0 N0) X.1.1 vs) (hH : ck_H D AC S tab L ρ0 G0 N0 (ck_etag X.1.2.1) T.heap) :
    ∃ (T' : State) (Ls : List Loc) (o : Outcome) (U : State) (al : List ck_C × (Option ck_V ⊕ Nat)), al ∈ X.2.1 ∧ Stand p l e R s m args below meth c T' (locs ++ Ls) (cells + X.1.2.2.2.2.2.2.1) (slots + X.1.2.2.2.2.2.2.2) ∧ (∀ q ∈ Ls, L.size ≤ q.base) ∧ s.WarmedH U.vm ∧ gck_Ps D AC S tab L ρ0 X.2.2 G0 N0 T.heap U (ck_alt X.1 al) o T'.heap ∧
      (∀ v, o = .returned v → ∀ target, Steps p.tables e below (T'.setTop { g with pc := g.pc + 3, stack := v.toList ++ rest }) target → Steps p.tables e below (T.setTop g) target) ∧
      (∀ x, o = .threw x → ∀ target, Steps p.tables e below ((T'.setTop { g with stack := rest }).pushFrame (.throwing x)) target → Steps p.tables e below (T.setTop g) target) := by
  obtain ⟨vm₁, mk, hW₁, Y0, hn, hstep⟩ := hinv
  obtain ⟨m9, methk, ck, hn9, hm9, hc9, hb9, hl9, ht9, hr9, hk9, -⟩ := Cond.codeWith_spec hcode
  cases hn.symm.trans hn9
  have hmk : (T.setVm vm₁).vm.method? mk = some methk := by
    show vm₁.method? mk = some methk
    rw [hW₁.alike.method?]; exact hm9
  have hnT : (T.setVm vm₁).methodNamed? M.1 = some mk := Y0.named hn
  have hpk : (T.setVm vm₁).plainMethod mk := State.plainMethod.of_name (fun k hk => by
    obtain ⟨k', hk', hnm⟩ := className_of_methodNamed hnT
    cases hk.symm.trans hk'
    rw [hnm]; exact hplain)
  obtain ⟨Y, hent⟩ := Y0.into (g := { g with stack := rest }) hg hsize hdg a (R' := { frames := X.1.2.2.2.2.1, locals := X.1.2.2.2.2.2.1, cells := X.1.2.2.2.2.2.2.1, slots := X.1.2.2.2.2.2.2.2 }) hmk hc9 hk9 hpk hfr (by rw [hl9]; exact hlo) hce hsl
  have hclass : ((T.setVm vm₁).calling { g with stack := rest } mk a).vm.findClass M.1.cls = some mk.cls := findClass_of_methodNamed (s := (T.setVm vm₁)) hnT
  have hname : methk.name = M.1.name := (name_of_methodNamed hn hm9).1
  have hWc : s.WarmedH ((T.setVm vm₁).calling { g with stack := rest } mk a).vm := hW₁
  have w := hO p e { frames := X.1.2.2.2.2.1, locals := X.1.2.2.2.2.2.1, cells := X.1.2.2.2.2.2.2.1, slots := X.1.2.2.2.2.2.2.2 } ((T.setVm vm₁).calling { g with stack := rest } mk a) mk a (.java { g with stack := rest } :: below) methk ck D AC S L ρ0 G0 N0 vs nS hn1 hn2 ⟨hexec, hb9, hl9, hr9, hk9, hclass, ht9, hname⟩ htr (Nat.le_refl _) (Nat.le_refl _) (Nat.le_refl _) (Nat.le_refl _) (hK.moved hWc) ha hv hH
  obtain ⟨t, st, al, hal, o, hrun, hend, hWt, ⟨Ls, hsame, hLs⟩, hps⟩ := w (((T.setVm vm₁).setTop { g with stack := rest }).pushFrame (.java (entryFrame mk a ck.maxLocals))) rfl Y
  have st2 : Steps p.tables e below (doInvoke e ((T.setVm vm₁).setTop { g with stack := rest }) [] mk a).1 t := by
    rw [hent []]
    rw [hl9] at st ⊢
    exact ck_weaken (mid := [.java { g with stack := rest }]) st
  cases o with
  | returned v =>
    obtain ⟨T', X', hWT, hsm, et⟩ := Y0.outOf (g := { g with stack := rest }) hg hdg hend hWt hsame
    refine ⟨T', Ls, .returned v, (T.setVm vm₁).calling { g with stack := rest } mk a, al, hal, X', hLs, hWc, ?_, ?_, ?_⟩
    · have : t.heap = T'.heap := by rw [et]; rfl
      rw [← this]
      exact hps
    · intro v' hv' target htg
      cases hv'
      refine hstep target (st2.trans ?_)
      rw [et]
      exact htg
    · intro x hx
      cases hx
  | threw x =>
    obtain ⟨T', X', hWT, hsm, et⟩ := Y0.outOfThrown (g := { g with stack := rest }) hg hend hWt hsame
    refine ⟨T', Ls, .threw x, (T.setVm vm₁).calling { g with stack := rest } mk a, al, hal, X', hLs, hWc, ?_, ?_, ?_⟩
    · have : t.heap = T'.heap := by rw [et]; rfl
      rw [← this]
      exact hps
    · intro v' hv'
      cases hv'
    · intro x' hx target htg
      cases hx
      refine hstep target (st2.trans ?_)
      rw [et]
      exact htg
end CKI
