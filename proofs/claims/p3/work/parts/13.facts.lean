/-! ===== what holds at every method's beginning; contracts ===== -/
theorem ck_AOA {A A' : Array Value} {t : FieldType} {u U : State} (hvm : u.vm.Alike U.vm) (h : (Cond.arrayOver (.array t)).before A u = true) : (Cond.arrayOver (.array t)).before A' U = true := by
  obtain ⟨comp, c, k, h1, h2, h3, h4, h5⟩ := arrayOverA_spec h
  obtain ⟨k', hk', he⟩ := hvm.2.2 _ _ h3
  have hi : (U.vm.classes.findIdx? fun (x : Class) => match x.kind with | .array component _ => component == comp | _ => false) = some c := by
    rw [hvm.findIdx?_eq _ (fun _ => rfl)]
    exact h2
  have hkind : k'.kind = .array comp (.array t) := by rw [he]; exact h4
  have f1 : U.vm.findClass (FieldType.array t).toString = some comp := by rw [hvm.findClass]; exact h1
  have f2 : U.vm.findClass ("[" ++ (FieldType.array t).toString) = some c := by rw [hvm.findClass]; exact h5
  unfold Cond.before Cond.holds
  simp only [Cond.value]
  rw [f1, Option.bind_some]
  refine (congrArg (fun o : Option Nat => (o.bind (fun c => (U.vm.classes[c]?).map fun (k : Class) => match k.kind with | .array _ ty => decide (ty = FieldType.array t) && decide (U.vm.findClass ("[" ++ (FieldType.array t).toString) = some c) | _ => false) == some true)) hi).trans ?_
  simp [hk', hkind, f2]
theorem ck_move {args args' : Array Value} {s U : State} {w : Cond} (hm : ck_mv w = true) (hW : s.WarmedH U.vm) (h : w.before args s = true) : w.before args' U = true := by
  unfold ck_mv at hm
  split at hm
  · exact va_Nw.use rfl (va_Nw.warmM hW (va_Nw.of rfl h))
  · exact word_at hW (Or.inr ⟨_, rfl⟩) h
  · exact va_AO.use (va_AO.moved hW.alike (va_AO.of h))
  · exact ck_AOA hW.alike h
  · simp only [Bool.and_eq_true, Bool.or_eq_true] at hm
    rcases hm.2 with k | k
    · exact word_at hW (Or.inl (by simp [hm.1, k])) h
    · have h1 := Cond.before_shiftedFace (args := args) (State.Shifted.of_warmed hW) _ k h
      exact va_tabs hm.1 (rfl : (s.setVm U.vm).vm = U.vm) h1
/-- a static field that holds a reference: all that is asked of it -/
def ck_ls (o n d : String) (L : Heap) (s : State) : Prop := ∃ (c : ClassId) (k : Class) (i : Nat) (f : Field) (a : Nat) (cell : Cell) (v : Value), s.vm.findClass o = some c ∧ s.fieldFound? o n d = some (c, k, i, f) ∧ f.isStatic = true ∧ k.statics = some a ∧ L[a]? = some cell ∧ cell.vm.isStatics = true ∧ cell.cls = c ∧ f.slot < cell.slots.size ∧ k.staticTypes[f.slot]? = some f.type ∧ cell.slots[f.slot]? = some v ∧ (v = .null ∨ ∃ t, v = .ref t)
theorem ck_ls.moved {o n d : String} {L : Heap} {u U : State} (hvm : u.vm.Alike U.vm) (h : ck_ls o n d L u) : ck_ls o n d L U := by
  obtain ⟨c, k, i, f, a, cell, v, h1, h2, h3, h4, h5, h6, h7, h8, h9, h10, h11⟩ := h
  obtain ⟨k', hi', he⟩ := State.fieldFound?_setVm hvm h2
  exact ⟨c, k', i, f, a, cell, v, by rw [hvm.findClass]; exact h1, hi', h3, by rw [he]; exact h4, h5, h6, h7, h8, by rw [he]; exact h9, h10, h11⟩
theorem ck_ls.of {o n d : String} {args : Array Value} {s : State} (hl : (Cond.laysStatic o n d).before args s = true) (hr : (Cond.isRef (.static o n d)).before args s = true) : ck_ls o n d s.heap s := by
  obtain ⟨c, k, i, f, a, cell, h1, h2, h3, h4, h5, h6, h7, h8, h9⟩ := Cond.laysStatic_spec hl
  cases hv : (Term.static o n d).eval args s none [] s with
  | none => simp [Cond.before, Cond.holds, Cond.value, hv] at hr
  | some w =>
    obtain ⟨-, a', cell', ha', hcell', -, hslot⟩ := Term.static_spec h2 hv
    cases h4.symm.trans ha'
    cases h5.symm.trans hcell'
    refine ⟨c, k, i, f, a, cell, w, h1, h2, h3, h4, h5, h6, h7, h8, h9, hslot, ?_⟩
    simp only [Cond.before, Cond.holds, Cond.value, hv] at hr
    cases w with
    | null => exact Or.inl rfl
    | ref t => exact Or.inr ⟨t, rfl⟩
    | _ => simp at hr
theorem ck_ls.lays {o n d : String} {L : Heap} {args : Array Value} {s : State} (h : ck_ls o n d L s) (hq : ∀ q, q < L.size → s.heap[q]? = L[q]?) : (Cond.laysStatic o n d).before args s = true := by
  obtain ⟨c, k, i, f, a, cell, v, h1, h2, h3, h4, h5, h6, h7, h8, h9, h10, h11⟩ := h
  have h5' : s.heap[a]? = some cell := by rw [hq a (Array.getElem?_eq_some_iff.mp h5).1]; exact h5
  simp [Cond.before, Cond.holds, Cond.value, h1, h2, h3, h4, h5', h6, h7, h8, h9]
theorem ck_ls.isref {o n d : String} {L : Heap} {args : Array Value} {s : State} (h : ck_ls o n d L s) (hq : ∀ q, q < L.size → s.heap[q]? = L[q]?) : (Cond.isRef (.static o n d)).before args s = true := by
  obtain ⟨c, k, i, f, a, cell, v, h1, h2, h3, h4, h5, h6, h7, h8, h9, h10, h11⟩ := h
  have h5' : s.heap[a]? = some cell := by rw [hq a (Array.getElem?_eq_some_iff.mp h5).1]; exact h5
  have hn : s.fieldNamed? o n d true = some (c, k, f.slot) := by
    unfold State.fieldNamed?
    simp [h2, h3]
  have hev : (Term.static o n d).eval args s none [] s = some v := by
    simp [Term.eval, hn, h4, h5', h6, h10]
  rcases h11 with rfl | ⟨t, rfl⟩ <;> simp [Cond.before, Cond.holds, Cond.value, hev]
def ck_strs : List (String × Nat × String) := [("RatchetDesk", 274, "there is no such thing"), ("RatchetDesk", 279, "there is no room for one more"), ("RatchetDesk", 132, "nobody begins with himself"), ("RatchetDesk", 189, "not a byte")]
def ck_xn (x : Nat) : String := if x == 0 then "java/lang/IndexOutOfBoundsException" else if x == 1 then "java/lang/IllegalStateException" else "java/lang/IllegalArgumentException"
def ck_tN : String := "java/lang/Throwable"
def ck_Kf (D : va_G) (AC : Nat → ClassId) (S : Nat → Nat) (L : Heap) (s : State) (nS : Nat) : Prop :=
  va_K D ck_cl (ck_tys AC) s ∧ (∀ w ∈ ck_tb, w.before #[] s = true) ∧ va_Z "RatchetDesk$Hash" "SQUARE_ROOTS" "[I" (.ref (S 0)) (fun q => L.size ≤ q) s L ∧ ck_sta S L s 0 8 ∧ va_Z "RatchetDesk$Hash" "CUBE_ROOTS" "[I" (.ref (S 1)) (fun q => L.size ≤ q) s L ∧ ck_sta S L s 1 64 ∧ ck_sta S L s 2 nS ∧
  ck_ls "java/lang/Throwable" "UNASSIGNED_STACK" "[Ljava/lang/StackTraceElement;" L s ∧ ck_ls "java/lang/Throwable" "SUPPRESSED_SENTINEL" "Ljava/util/List;" L s ∧ (∀ q ∈ ck_strs, ∃ a, vk_R q.1 q.2.1 q.2.2 a s) ∧ ∀ x y : Nat, x < 3 → y < 3 → x ≠ y → va_Nc (ck_xn x) (ck_xn y) s
theorem ck_sta.moved {S : Nat → Nat} {L : Heap} {u U : State} {j n : Nat} (hvm : u.vm.Alike U.vm) (h : ck_sta S L u j n) : ck_sta S L U j n := by
  obtain ⟨cell, h1, h2, h3, h4⟩ := h
  exact ⟨cell, h1, h2, State.isArrayOf_alike hvm h3, h4⟩
theorem ck_Kf.moved {D : va_G} {AC : Nat → ClassId} {S : Nat → Nat} {L : Heap} {s U : State} {nS : Nat} (hW : s.WarmedH U.vm) (h : ck_Kf D AC S L s nS) : ck_Kf D AC S L U nS := by
  obtain ⟨h1, h2, h3, h4, h5, h6, h7, h8, h9, h10, h11⟩ := h
  exact ⟨h1.moved hW.alike, fun w hw => ck_move (List.mem_filter.mp hw).2 hW (h2 w hw), h3.moved hW.alike, h4.moved hW.alike, h5.moved hW.alike, h6.moved hW.alike, h7.moved hW.alike, h8.moved hW.alike, h9.moved hW.alike, fun q hq => by
    obtain ⟨a, ha⟩ := h10 q hq
    exact ⟨a, ha.warm hW⟩, fun x y hx hy hne => (h11 x y hx hy hne).moved hW.alike⟩
theorem ck_Kf.ts {D : va_G} {AC : Nat → ClassId} {S : Nat → Nat} {L : Heap} {s : State} {nS : Nat} (h : ck_Kf D AC S L s nS) {args : Array Value} : ∀ w ∈ ck_tb, w.before args s = true := fun w hw => ck_move (List.mem_filter.mp hw).2 (State.WarmedH.refl s) (h.2.1 w hw)
/-! contracts: arguments; named cells before and behind; the answer, or the exception; frames, words, cells, slots -/
abbrev ck_Ct : Type := List ck_V × List ck_C × List ck_C × (Option ck_V ⊕ Nat) × (Nat × Nat × Nat × Nat)
/-- a contract of several endings, and the types that may be written -/
abbrev ck_Kt : Type := ck_Ct × List (List ck_C × (Option ck_V ⊕ Nat)) × List Nat
def ck_alt (K : ck_Ct) (a : List ck_C × (Option ck_V ⊕ Nat)) : ck_Ct := (K.1, K.2.1, a.1, a.2, K.2.2.2.2)
abbrev ck_M : Type := MethodName × ByteArray × Nat × Option FieldType × List (Nat × Nat × Nat × Nat)
def ck_tagF (b : Nat) : List ck_V → Nat → List ck_V
  | [], _ => []
  | .inl (lo, hi, _) :: t, k => .inl (lo, hi, if k < 50 then some (b + k, 0) else none) :: ck_tagF b t (k + 1)
  | x :: t, k => x :: ck_tagF b t (k + 1)
def ck_etX : Nat → List ck_C → List ck_C
  | _, [] => []
  | k, (h, fs) :: t => (h, ck_tagF 100 fs k) :: ck_etX (k + fs.length) t
def ck_etag (l : List ck_C) : List ck_C := ck_etX 0 l
theorem ck_etX_len : ∀ (l : List ck_C) (k : Nat), (ck_etX k l).length = l.length
  | [], _ => rfl
  | (h, fs) :: t, k => by
    show (ck_etX (k + fs.length) t).length + 1 = t.length + 1
    rw [ck_etX_len t]
def ck_Ps (D : va_G) (AC : Nat → ClassId) (S : Nat → Nat) (tab : List ck_D) (L : Heap) (ρ0 : Nat → Int) (wr : List Nat) (G0 : Nat → Nat) (N0 : List Nat) (H0 : Heap) (s : State) (K : ck_Ct) (o : Outcome) (H : Heap) : Prop :=
  ∃ (ρ : Nat → Int) (G : Nat → Nat) (N : List Nat), ck_H D AC S tab L ρ G N K.2.2.1 H ∧ ck_F wr G0 N0 H0 G N K.2.2.1 H ∧ (∀ g, 100 ≤ g → g < 200 → ρ g = ρ0 g) ∧ match K.2.2.2.1 with
    | .inl none => o = .returned none
    | .inl (some k) => ∃ w, o = .returned (some w) ∧ ck_R S ρ G N k w
    | .inr x => ∃ (a : Nat) (cell : Cell), o = .threw a ∧ H[a]? = some cell ∧ cell.vm.isStatics = false ∧ s.vm.findClass (ck_xn x) = some cell.cls
def ck_Fin (D : va_G) (AC : Nat → ClassId) (S : Nat → Nat) (tab : List ck_D) (L : Heap) (ρ0 : Nat → Int) (wr : List Nat) (G0 : Nat → Nat) (N0 : List Nat) (K : ck_Ct) (below : List Frame) (s : State) : State → Prop := fun t =>
  ∃ o, t.status = .running ∧ Ended t below o ∧ s.WarmedH t.vm ∧ (∃ Ls : List Loc, s.sameButNew ({ t with vm := s.vm } : State) Ls K.2.2.2.2.2.2.1 K.2.2.2.2.2.2.2 ∧ ∀ q ∈ Ls, L.size ≤ q.base) ∧ ck_Ps D AC S tab L ρ0 wr G0 N0 s.heap s K o t.heap
def ck_B (p : Program) (s : State) (m : MethodId) (meth : Method) (c : Code) (M : ck_M) : Prop :=
  p.tables.exec = Jvm.exec ∧ c.code = M.2.1 ∧ c.maxLocals = M.2.2.1 ∧ meth.sig.returnType = M.2.2.2.1 ∧ meth.locks = false ∧ s.vm.findClass M.1.cls = some m.cls ∧ c.exceptionTable.toList.map (fun h => (h.startPc, h.endPc, h.handlerPc, h.catchType)) = M.2.2.2.2 ∧ meth.name = M.1.name
def ck_Ok (l : Launch) (tab : List ck_D) (nb : Nat × Nat) (M : ck_M) (X : ck_Kt) : Prop :=
  ∀ (p : Program) (e : Env) (R : Room) (s : State) (m : MethodId) (args : Array Value) (below : List Frame) (meth : Method) (c : Code) (D : va_G) (AC : Nat → ClassId) (S : Nat → Nat) (L : Heap) (ρ0 : Nat → Int) (G0 : Nat → Nat) (N0 : List Nat) (vs : List Value) (n : Nat), nb.1 ≤ n → n ≤ nb.2 →
    ck_B p s m meth c M → e.platform.stackTraces = false → X.1.2.2.2.2.1 ≤ R.frames → X.1.2.2.2.2.2.1 ≤ R.locals → X.1.2.2.2.2.2.2.1 ≤ R.cells → X.1.2.2.2.2.2.2.2 ≤ R.slots → ck_Kf D AC S L s n → args = vs.toArray → ck_all (ck_R S ρ0 G0 N0) X.1.1 vs → ck_H D AC S tab L ρ0 G0 N0 (ck_etag X.1.2.1) s.heap →
    W p l e R s m args below meth c s.heap [] 0 0 (fun t => ∃ a ∈ X.2.1, ck_Fin D AC S tab L ρ0 X.2.2 G0 N0 (ck_alt X.1 a) below s t) (entryFrame m args M.2.2.1)
/-! entering and leaving a called method -/
theorem ck_weaken {tb : Tables} {e : Env} {mid below : List Frame} {a b : State} (h : Steps tb e (mid ++ below) a b) : Steps tb e below a b := by
  obtain ⟨n, h1, h2⟩ := h
  exact ⟨n, h1, fun k hk => (h2 k hk).weaken⟩
section CKI
variable {p : Program} {l : Launch} {e : Env} {R : Room} {s : State} {m : MethodId} {args : Array Value} {below : List Frame} {meth : Method} {c : Code} {T : State} {locs : List Loc} {cells slots : Nat}
def ck_Inv (p : Program) (l : Launch) (e : Env) (R : Room) (s : State) (m : MethodId) (args : Array Value) (below : List Frame) (meth : Method) (c : Code) (locs : List Loc) (cells slots : Nat) (T : State) (y : MethodName) (g : JFrame) (rest : List Value) (a : Array Value) : Prop :=
  ∃ (vm₁ : Vm) (mk : MethodId), s.WarmedH vm₁ ∧ Stand p l e R s m args below meth c (T.setVm vm₁) locs cells slots ∧ s.methodNamed? y = some mk ∧ ∀ target, Steps p.tables e below (doInvoke e ((T.setVm vm₁).setTop { g with stack := rest }) [] mk a).1 target → Steps p.tables e below (T.setTop g) target
/-- a method is called, and either comes back, or its exception does -/
theorem ck_call {tab : List ck_D} {nb : Nat × Nat} {nS : Nat} {M : ck_M} {X : ck_Kt} (hO : ck_Ok l tab nb M X) (hn1 : nb.1 ≤ nS) (hn2 : nS ≤ nb.2) {g : JFrame} {rest : List Value} {a : Array Value} (hinv : ck_Inv p l e R s m args below meth c locs cells slots T M.1 g rest a) (hexec : p.tables.exec = Jvm.exec) (hg : g.method = m) (hsize : g.locals.size = c.maxLocals) {ig : Instr} (hdg : decode c.code g.pc = .ok (ig, 3))
    (hcode : (Cond.codeWith M.1 M.2.1 M.2.2.1 M.2.2.2.1 M.2.2.2.2).before args s = true) (hplain : plainName M.1.cls = true) (htr : e.platform.stackTraces = false) (hfr : X.1.2.2.2.2.1 + 1 ≤ R.frames) (hlo : 2 * g.monitorRoom + (rest.map fun v => v.category).sum + (M.2.2.1 + 11) + X.1.2.2.2.2.2.1 ≤ R.locals) (hce : cells + X.1.2.2.2.2.2.2.1 ≤ R.cells) (hsl : slots + X.1.2.2.2.2.2.2.2 ≤ R.slots)
    {D : va_G} {AC : Nat → ClassId} {S : Nat → Nat} {L : Heap} {ρ0 : Nat → Int} {G0 : Nat → Nat} {N0 : List Nat} {vs : List Value} (hK : ck_Kf D AC S L s nS) (ha : a = vs.toArray) (hv : ck_all (ck_R S ρ0 G0 N0) X.1.1 vs) (hH : ck_H D AC S tab L ρ0 G0 N0 (ck_etag X.1.2.1) T.heap) :
    ∃ (T' : State) (Ls : List Loc) (o : Outcome) (U : State) (al : List ck_C × (Option ck_V ⊕ Nat)), al ∈ X.2.1 ∧ Stand p l e R s m args below meth c T' (locs ++ Ls) (cells + X.1.2.2.2.2.2.2.1) (slots + X.1.2.2.2.2.2.2.2) ∧ (∀ q ∈ Ls, L.size ≤ q.base) ∧ s.WarmedH U.vm ∧ ck_Ps D AC S tab L ρ0 X.2.2 G0 N0 T.heap U (ck_alt X.1 al) o T'.heap ∧
      (∀ v, o = .returned v → ∀ target, Steps p.tables e below (T'.setTop { g with pc := g.pc + 3, stack := v.toList ++ rest }) target → Steps p.tables e below (T.setTop g) target) ∧
      (∀ x, o = .threw x → ∀ target, Steps p.tables e below ((T'.setTop { g with stack := rest }).pushFrame (.throwing x)) target → Steps p.tables e below (T.setTop g) target) := by
  obtain ⟨vm₁, mk, hW₁, Y0, hn, hstep⟩ := hinv
  obtain ⟨m9, methk, ck, hn9, hm9, hc9, hb9, hl9, ht9, hr9, hk9, -⟩ := Cond.codeWith_spec hcode
  cases hn.symm.trans hn9
  have hmk : (T.setVm vm₁).vm.method? mk = some methk := by
    show vm₁.method? mk = some methk
    rw [hW₁.alike.method?]; exact hm9
  have hnT : (T.setVm vm₁).methodNamed? M.1 = some mk := Y0.named hn
  have hpk : (T.setVm vm₁).plainMethod mk := State.plainMethod.of_name (fun k hk => by
    obtain ⟨k', hk', hnm⟩ := className_of_methodNamed hnT
    cases hk.symm.trans hk'
    rw [hnm]; exact hplain)
  obtain ⟨Y, hent⟩ := Y0.into (g := { g with stack := rest }) hg hsize hdg a (R' := { frames := X.1.2.2.2.2.1, locals := X.1.2.2.2.2.2.1, cells := X.1.2.2.2.2.2.2.1, slots := X.1.2.2.2.2.2.2.2 }) hmk hc9 hk9 hpk hfr (by rw [hl9]; exact hlo) hce hsl
  have hclass : ((T.setVm vm₁).calling { g with stack := rest } mk a).vm.findClass M.1.cls = some mk.cls := findClass_of_methodNamed (s := (T.setVm vm₁)) hnT
  have hname : methk.name = M.1.name := (name_of_methodNamed hn hm9).1
  have hWc : s.WarmedH ((T.setVm vm₁).calling { g with stack := rest } mk a).vm := hW₁
  have w := hO p e { frames := X.1.2.2.2.2.1, locals := X.1.2.2.2.2.2.1, cells := X.1.2.2.2.2.2.2.1, slots := X.1.2.2.2.2.2.2.2 } ((T.setVm vm₁).calling { g with stack := rest } mk a) mk a (.java { g with stack := rest } :: below) methk ck D AC S L ρ0 G0 N0 vs nS hn1 hn2 ⟨hexec, hb9, hl9, hr9, hk9, hclass, ht9, hname⟩ htr (Nat.le_refl _) (Nat.le_refl _) (Nat.le_refl _) (Nat.le_refl _) (hK.moved hWc) ha hv hH
  obtain ⟨t, st, al, hal, o, hrun, hend, hWt, ⟨Ls, hsame, hLs⟩, hps⟩ := w (((T.setVm vm₁).setTop { g with stack := rest }).pushFrame (.java (entryFrame mk a ck.maxLocals))) rfl Y
  have st2 : Steps p.tables e below (doInvoke e ((T.setVm vm₁).setTop { g with stack := rest }) [] mk a).1 t := by
    rw [hent []]
    rw [hl9] at st ⊢
    exact ck_weaken (mid := [.java { g with stack := rest }]) st
  cases o with
  | returned v =>
    obtain ⟨T', X', hWT, hsm, et⟩ := Y0.outOf (g := { g with stack := rest }) hg hdg hend hWt hsame
    refine ⟨T', Ls, .returned v, (T.setVm vm₁).calling { g with stack := rest } mk a, al, hal, X', hLs, hWc, ?_, ?_, ?_⟩
    · have : t.heap = T'.heap := by rw [et]; rfl
      rw [← this]
      exact hps
    · intro v' hv' target htg
      cases hv'
      refine hstep target (st2.trans ?_)
      rw [et]
      exact htg
    · intro x hx
      cases hx
  | threw x =>
    obtain ⟨T', X', hWT, hsm, et⟩ := Y0.outOfThrown (g := { g with stack := rest }) hg hend hWt hsame
    refine ⟨T', Ls, .threw x, (T.setVm vm₁).calling { g with stack := rest } mk a, al, hal, X', hLs, hWc, ?_, ?_, ?_⟩
    · have : t.heap = T'.heap := by rw [et]; rfl
      rw [← this]
      exact hps
    · intro v' hv'
      cases hv'
    · intro x' hx target htg
      cases hx
      refine hstep target (st2.trans ?_)
      rw [et]
      exact htg
end CKI
