/-! ===== throwing and catching ===== -/
section CKTH
variable {p : Program} {l : Launch} {e : Env} {R : Room} {s : State} {m : MethodId} {args : Array Value} {below : List Frame} {meth : Method} {c : Code} {T : State} {locs : List Loc} {cells slots : Nat}
/-- a walk, seen as begun where it stands -/
theorem ck_rebase (X : Stand p l e R s m args below meth c T locs cells slots) (hc : cells ≤ R.cells) (hs : slots ≤ R.slots) : Stand p l e { R with cells := R.cells - cells, slots := R.slots - slots } (T.setFrames (.invoking m args :: below)) m args below meth c T [] 0 0 := by
  obtain ⟨g₀, hfr⟩ := X.frames_eq
  have hcurT : T.cur < T.threads.size := State.cur_lt_of_frames hfr
  have hF : (T.setFrames (.invoking m args :: below)).frames = .invoking m args :: below := State.frames_setFrames _ hcurT
  obtain ⟨t, ht, -⟩ := State.frames_cons hF
  have hcur' : (T.setFrames (.invoking m args :: below)).cur < (T.setFrames (.invoking m args :: below)).threads.size := State.cur_lt_of_frames hF
  have eT : T = ({ s.setFrames T.frames with heap := T.heap, slotsUsed := T.slotsUsed } : State).setVm T.vm := by
    have h1 : T.setVm s.vm = ({ s.setFrames T.frames with heap := T.heap, slotsUsed := T.slotsUsed } : State) := X.same.1
    have h3 : (T.setVm s.vm).setVm T.vm = ({ s.setFrames T.frames with heap := T.heap, slotsUsed := T.slotsUsed } : State).setVm T.vm := by rw [h1]
    exact h3
  have es : T.setFrames (.invoking m args :: below) = ({ s.setFrames (.invoking m args :: below) with heap := T.heap, slotsUsed := T.slotsUsed } : State).setVm T.vm := by
    rw [← State.setFrames_setFrames (s := s) (fs := T.frames)]
    conv => lhs; rw [eT]
    rfl
  have es2 : s.setFrames (.invoking m args :: below) = s := by
    obtain ⟨t0, ht0, -⟩ := State.frames_cons X.frames
    rw [← X.frames]
    exact State.setFrames_self ht0
  rw [es2] at es
  have hroom : (T.setFrames (.invoking m args :: below)).hasRoom e.platform { R with cells := R.cells - cells, slots := R.slots - slots } = true := by
    have h := X.room
    have hh := X.heapSize
    have hu := X.used
    have hb := X.book
    have hli : (T.setFrames (.invoking m args :: below)).localsInUse = s.localsInUse := by
      unfold State.localsInUse
      rw [hF, X.frames]
      show _ + ((((T.vm.method? m).bind (·.code)).map (·.maxLocals)).getD 0 + 11) = _
      rw [X.warmed.alike.method?]
    rw [es] at hli
    rw [es]
    simp only [State.hasRoom, Bool.and_eq_true, decide_eq_true_eq] at h ⊢
    obtain ⟨⟨⟨⟨h1, h2⟩, h3⟩, h4⟩, h5⟩ := h
    rw [hli]
    refine ⟨⟨⟨⟨h1, h2⟩, ?_⟩, ?_⟩, ?_⟩
    · show T.heap.size + (R.cells - cells) ≤ _
      omega
    · show T.slotsUsed + (R.slots - slots) ≤ _
      omega
    · exact hb
  refine ⟨X.admits, X.cas, X.clock, hF, hroom, ?_, X.method', X.code, X.here, X.tail, State.WarmedH.refl _, by rw [State.stackLimits_setFrames], by rw [State.stackBytes_setFrames], ?_⟩
  · have h := X.hears
    have hal := X.warmed.alike
    unfold State.hears at h ⊢
    split
    · rename_i g r
      simp only at h
      have e1 : (T.setFrames (.invoking m args :: .java g :: r)).code? g.method = s.code? g.method := by
        rw [State.code?_eq, State.code?_eq]
        show (T.vm.method? _).bind _ = _
        rw [hal.method?]
      rw [e1]
      exact h
    · rfl
    · rfl
    · rename_i h1 h2 h3
      split at h
      · exact absurd rfl (h1 _ _)
      · exact absurd rfl (h2 _ _)
      · exact absurd rfl (h3 _ _)
      · show (T.vm.method? m).any _ = true
        rw [hal.method?]
        exact h
  · have h := (State.sameButNew.refl (T.setFrames (.invoking m args :: below)) ht).setFrames T.frames hcur'
    have e9 : (T.setFrames (.invoking m args :: below)).setFrames T.frames = T := by
      obtain ⟨t0, ht0, -⟩ := State.frames_cons hfr
      rw [State.setFrames_setFrames]
      exact State.setFrames_self ht0
    rw [e9] at h
    exact h
end CKTH
