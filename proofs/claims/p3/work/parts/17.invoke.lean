/-! ===== invocations ===== -/
section CKV
variable {p : Program} {l : Launch} {e : Env} {R : Room} {s : State} {m : MethodId} {args : Array Value} {below : List Frame} {meth : Method} {c : Code} {T : State} {locs : List Loc} {cells slots : Nat}
theorem ck_codeW {A : Array Value} {s : State} {y : MethodName} {cc : ByteArray} {n : Nat} {ret : Option FieldType} (h : (Cond.code y cc n ret).before A s = true) : (Cond.codeWith y cc n ret []).before A s = true := by
  unfold Cond.before Cond.holds at h ⊢
  rw [← Cond.code_iff_codeWith_nil]
  exact h
theorem ck_invS (X : Stand p l e R s m args below meth c T locs cells slots) (hexec : p.tables.exec = Jvm.exec) {own : String} {index : Nat} {M : ck_M} (hown : s.vm.findClass own = some m.cls) (hcode : (Cond.codeWith M.1 M.2.1 M.2.2.1 M.2.2.2.1 M.2.2.2.2).before args s = true)
    (hlink : (Cond.methodLink own index M.1).before args s = true ∨ ∃ host, (Cond.methodLinkNest own index M.1 host).before args s = true) (hstat : (Cond.static M.1).before args s = true) (hinit : (Cond.initialized M.1.cls).before args s = true) (hy : M.1.cls ≠ "java/lang/invoke/MethodHandle" ∧ M.1.cls ≠ "java/lang/invoke/VarHandle")
    {g : JFrame} (hg : g.method = m) {argsL rest : List Value} {n : Nat} (hn : (parseMethodDescriptor M.1.desc).map (fun d => d.parameters.length) = some n) (hlen : argsL.length = n) (hstack : g.stack = argsL.reverse ++ rest) (hdg : decode c.code g.pc = .ok (.invokestatic index, 3)) :
    ck_Inv p l e R s m args below meth c locs cells slots T M.1 g rest argsL.toArray := by
  obtain ⟨mk, methM, cM, hnamed, hmethM, -, -, -, -, -, -, hsig⟩ := Cond.codeWith_spec hcode
  have hstatic : methM.isStatic = true := Cond.static_spec hnamed hmethM hstat
  obtain ⟨kP, hkP, -⟩ := className_of_methodNamed hnamed
  have hinitP : kP.init = .initialized := Cond.initialized_spec (findClass_of_methodNamed hnamed) hkP hinit
  have hl : argsL.length = methM.sig.parameters.length := by
    rw [hsig] at hn
    simp at hn
    omega
  rcases hlink with hlink | ⟨host, hlink⟩
  · obtain ⟨vm₁, X₁, hstep₁⟩ := X.invokestatic hexec hown hlink hnamed hmethM hstatic hkP hinitP hy (g := g) hg (argsL := argsL) (rest := rest) hl hstack hdg
    exact ⟨vm₁, mk, X₁.warmed, X₁, hnamed, fun target h => hstep₁ _ fun acts => by rw [doInvoke_state]; exact h⟩
  · obtain ⟨vm₁, X₁, hstep₁⟩ := X.invokestaticNest hexec hown hlink hnamed hmethM hstatic hkP hinitP hy (g := g) hg (argsL := argsL) (rest := rest) hl hstack hdg
    exact ⟨vm₁, mk, X₁.warmed, X₁, hnamed, fun target h => hstep₁ _ fun acts => by rw [doInvoke_state]; exact h⟩
theorem ck_invV (X : Stand p l e R s m args below meth c T locs cells slots) (hexec : p.tables.exec = Jvm.exec) {own : String} {index : Nat} {M : ck_M} (hown : s.vm.findClass own = some m.cls) (hcode : (Cond.codeWith M.1 M.2.1 M.2.2.1 M.2.2.2.1 M.2.2.2.2).before args s = true)
    (hlink : (Cond.methodLink own index M.1).before args s = true ∨ ∃ host, (Cond.methodLinkNest own index M.1 host).before args s = true) (hinst : (Cond.instanceMethod M.1).before args s = true) (hsel : (Cond.selects M.1.cls M.1 M.1).before args s = true) (hy : M.1.cls ≠ "java/lang/invoke/MethodHandle" ∧ M.1.cls ≠ "java/lang/invoke/VarHandle")
    {b : Addr} {cellB : Cell} (hcell : T.heap[b]? = some cellB) (hobj : cellB.vm.isStatics = false) (hcls : s.vm.findClass M.1.cls = some cellB.cls)
    {g : JFrame} (hg : g.method = m) {argsL rest : List Value} {n : Nat} (hn : (parseMethodDescriptor M.1.desc).map (fun d => d.parameters.length) = some n) (hlen : argsL.length = n) (hstack : g.stack = argsL.reverse ++ .ref b :: rest) (hdg : decode c.code g.pc = .ok (.invokevirtual index, 3)) :
    ck_Inv p l e R s m args below meth c locs cells slots T M.1 g rest (Value.ref b :: argsL).toArray := by
  obtain ⟨mk, methM, hnamed, hmethM, hstM, habM⟩ := Cond.instanceMethod_spec hinst
  obtain ⟨mk', methM', cM, hnamed', hmethM', -, -, -, -, -, -, hsig⟩ := Cond.codeWith_spec hcode
  cases hnamed.symm.trans hnamed'
  cases hmethM.symm.trans hmethM'
  have hl : argsL.length = methM.sig.parameters.length := by
    rw [hsig] at hn
    simp at hn
    omega
  obtain ⟨c2, r2, m2, q1, q2, q3, q4, kP, hkP, hkPi⟩ := Cond.selects_spec hsel
  cases hcls.symm.trans q1
  cases (State.methodFound?_of_named hnamed hy).symm.trans q2
  cases hnamed.symm.trans q3
  have hselP : selectMethod e.platform s.vm cellB.cls mk = .method mk := by rw [Launch.admits_selectMethod X.admits]; exact q4
  rcases hlink with hlink | ⟨host, hlink⟩
  · obtain ⟨vm₁, X₁, hstep₁⟩ := X.invokevirtual hexec hown hlink hnamed hmethM hstM hkP hkPi hy (a := b) (cell := cellB) hcell
      (fun z h => by rw [h] at hobj; cases hobj) hselP hmethM habM hkP hkPi (g := g) hg (argsL := argsL) (rest := rest) hl hstack hdg
    exact ⟨vm₁, mk, X₁.warmed, X₁, hnamed, fun target h => hstep₁ _ fun acts => by rw [doInvoke_state]; exact h⟩
  · obtain ⟨vm₁, X₁, hstep₁⟩ := X.invokevirtualNest hexec hown hlink hnamed hmethM hstM hkP hkPi hy (a := b) (cell := cellB) hcell
      (fun z h => by rw [h] at hobj; cases hobj) hselP hmethM habM hkP hkPi (g := g) hg (argsL := argsL) (rest := rest) hl hstack hdg
    exact ⟨vm₁, mk, X₁.warmed, X₁, hnamed, fun target h => hstep₁ _ fun acts => by rw [doInvoke_state]; exact h⟩
theorem ck_invI (X : Stand p l e R s m args below meth c T locs cells slots) (hexec : p.tables.exec = Jvm.exec) {own : String} {index : Nat} {M : ck_M} (hown : s.vm.findClass own = some m.cls) (hcode : (Cond.code M.1 M.2.1 M.2.2.1 none).before args s = true)
    (hlink : (Cond.methodLink own index M.1).before args s = true ∨ ∃ host, (Cond.methodLinkNest own index M.1 host).before args s = true) (hinst : (Cond.instanceMethod M.1).before args s = true) (hy1 : M.1.name = "<init>") (hy : M.1.cls ≠ "java/lang/invoke/MethodHandle" ∧ M.1.cls ≠ "java/lang/invoke/VarHandle")
    {b : Addr} {g : JFrame} (hg : g.method = m) {argsL rest : List Value} {n : Nat} (hn : (parseMethodDescriptor M.1.desc).map (fun d => d.parameters.length) = some n) (hlen : argsL.length = n) (hstack : g.stack = argsL.reverse ++ .ref b :: rest) (hdg : decode c.code g.pc = .ok (.invokespecial index, 3)) :
    ck_Inv p l e R s m args below meth c locs cells slots T M.1 g rest (Value.ref b :: argsL).toArray := by
  subst hg
  have hl : ∀ sig, parseMethodDescriptor M.1.desc = some sig → argsL.length = sig.parameters.length := fun sig h => by
    rw [h] at hn
    simp at hn
    omega
  have hpl : e.platform.magicAccessors = ({} : Platform).magicAccessors := by rw [X.admits.platform]
  rcases hlink with hlink | ⟨host, hlink⟩
  · obtain ⟨mk, methM, cM, kP, vm₁, hnamed, hmethM, hcodeM, -, hlocalsM, -, hkP, -, hW₁, hstep₁⟩ := Steps.initColdArgs (e := e) X.here hexec X.warmed hpl hown hy1 hy hlink hinst hcode (f := g) rfl hl hstack hdg
    exact ⟨vm₁, mk, hW₁, X.noted hW₁, hnamed, fun target h => hstep₁ _ fun acts => by rw [doInvoke_state]; exact h⟩
  · obtain ⟨mk, methM, cM, kP, vm₁, hnamed, hmethM, hcodeM, -, hlocalsM, -, hkP, -, hW₁, hstep₁⟩ := Steps.initColdArgsNest (e := e) X.here hexec X.warmed hpl hown hy1 hy hlink hinst hcode (f := g) rfl hl hstack hdg
    exact ⟨vm₁, mk, hW₁, X.noted hW₁, hnamed, fun target h => hstep₁ _ fun acts => by rw [doInvoke_state]; exact h⟩
end CKV
section CKX
variable {p : Program} {l : Launch} {e : Env} {R : Room} {s : State} {m : MethodId} {args : Array Value} {below : List Frame} {meth : Method} {c : Code} {cells slots : Nat} {Q : State → Prop}
variable {cc : ByteArray} {pc pc2 nL nS : Nat} {D : va_G} {AC : Nat → ClassId} {S : Nat → Nat} {tab : List ck_D} {L : Heap} {ρ0 : Nat → Int} {wr : List Nat} {G0 : Nat → Nat} {N0 : List Nat} {H0 : Heap}
variable {A : List (Nat × ck_V)} {st ks : List ck_V} {T : List ck_C} {K : ck_Ct} {M : ck_M} {μ : List Nat}
def ck_cargs (T : List ck_C) (μ : List Nat) (ks ks' : List ck_V) : Bool := ks.length == ks'.length && (ks.zip ks').all (fun q => ck_la T μ q.1 q.2)
theorem ck_cargs_ok {ρ ρ1 : Nat → Int} {G : Nat → Nat} {N N1 : List Nat} {H : Heap} (h4 : ck_H D AC S tab L ρ G N T H) (hN : ∀ (j i : Nat), μ[j]? = some i → N1[j]? = N[i]?) {ks' : List ck_V} {vs : List Value} (h : ck_cargs T μ ks ks' = true) (hv : ck_all (ck_R S ρ G N) ks vs) : ck_all (ck_R S ρ1 G N1) ks' vs := by
  unfold ck_cargs at h
  simp only [Bool.and_eq_true, beq_iff_eq] at h
  refine ⟨by rw [← h.1]; exact hv.1, fun i k v hk hv' => ?_⟩
  have hil : i < ks.length := by rw [h.1]; exact (List.getElem?_eq_some_iff.mp hk).1
  have hz := List.all_eq_true.mp h.2 (ks[i], k) (List.mem_of_getElem? (i := i) (by rw [List.getElem?_zip_eq_some]; exact ⟨List.getElem?_eq_getElem hil, hk⟩))
  exact ck_la_ok h4 hN hz (hv.2 i _ v (List.getElem?_eq_getElem hil) hv')
def ck_push (f0 : List ck_V) (μ : List Nat) (r : Option ck_V) (st : List ck_V) : List ck_V := match r with
  | none => st
  | some k => ck_pv f0 μ k :: st
end CKX
