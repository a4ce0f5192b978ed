/-! ===== long runs, a piece at a time ===== -/
section XT
variable (E : ck_E) (ms : List ck_MM) (cts : List xk_Q) (cod : List (List (Nat × Instr × Nat))) (nL fr lo : Nat) (nm : String) (wd : Nat → Nat) (stops : List Nat)
/-- so many steps -/
def xk_nst : Nat → xk_X → Option xk_X
  | 0, x => some x
  | k + 1, x => if stops.contains x.1 then none else (match xk_stp E ms cts cod nL fr lo nm wd x with
    | some y => xk_nst k y
    | none => none)
def xk_to (x y : xk_X) : Prop := ∃ f, xk_run E ms cts cod nL fr lo nm wd stops f x = some y
end XT
section XT2
variable {E : ck_E} {ms : List ck_MM} {cts : List xk_Q} {cod : List (List (Nat × Instr × Nat))} {nL fr lo : Nat} {nm : String} {wd : Nat → Nat} {stops : List Nat}
theorem xk_nst_run {f : Nat} {y : xk_X} : ∀ {k : Nat} {x : xk_X}, xk_nst E ms cts cod nL fr lo nm wd stops k x = some y → xk_run E ms cts cod nL fr lo nm wd stops (f + k) x = xk_run E ms cts cod nL fr lo nm wd stops f y
  | 0, x, h => by
    have h : some x = some y := h
    cases h
    rfl
  | k + 1, x, h => by
    unfold xk_nst at h
    split at h
    · cases h
    · rename_i hs
      split at h
      · rename_i z hz
        have ih := xk_nst_run (f := f) h
        show (if stops.contains x.1 then some x else (match xk_stp E ms cts cod nL fr lo nm wd x with
          | some y => xk_run E ms cts cod nL fr lo nm wd stops (f + k) y
          | none => none)) = _
        rw [if_neg hs, hz]
        exact ih
      · cases h
theorem xk_to.step {k : Nat} {x x' y : xk_X} (h : xk_nst E ms cts cod nL fr lo nm wd stops k x = some x') (h' : xk_to E ms cts cod nL fr lo nm wd stops x' y) : xk_to E ms cts cod nL fr lo nm wd stops x y := by
  obtain ⟨f, hf⟩ := h'
  exact ⟨f + k, by rw [xk_nst_run h, hf]⟩
theorem xk_to.fin {y : xk_X} (h : stops.contains y.1 = true) : xk_to E ms cts cod nL fr lo nm wd stops y y := ⟨1, by unfold xk_run; rw [if_pos h]⟩
end XT2
/-- all that a contract needs of where a run ends -/
def xk_all2 (cod : List (List (Nat × Instr × Nat))) (M : ck_M) (wd : Nat → Nat) (K : xk_K) (tb : List xk_E) (y : xk_X) : Bool :=
  K.1.all xk_kn && decide (xk_wo K.1 ≤ M.2.2.1) && xk_wf wd (K.2.2.2.2.1.2.1 + 1) tb && xk_ws K.2.2.2.2.1.2.1 K.2.2.2.2.1.2.2 tb && (match ck_cdAt cod y.1 with
      | some (i, n) => decide (xk_ret M i n y.2.2.1 y.2.2.2.2.1 = some K.2.2.1) && decide (y.2.2.2.1 = K.2.2.2.1) && decide (y.2.2.2.2.1.reverse = tb)
      | none => false) && K.2.1.all (fun c => c.2.all (fun v => decide (v.1 < 2 → v.2.1 ≤ K.2.2.2.2.1.2.1))) && K.1.all (xk_lw K.2.2.2.2.1.2.1) && xk_gd wd K
theorem xk_all2_ok {E : ck_E} {ms : List ck_MM} {cts : List xk_Q} {cod : List (List (Nat × Instr × Nat))} {M : ck_M} {wd : Nat → Nat} {stops : List Nat} {K : xk_K} {tb : List xk_E} {y : xk_X} (h : xk_all2 cod M wd K tb y = true) (hr : xk_to E ms cts cod M.2.2.1 K.2.2.2.2.2.1 K.2.2.2.2.2.2 M.1.name wd stops (0, xk_largs 0 K.1, [], K.2.1, [], K.2.2.2.2.1.2.1 + 1) y) : ∃ f, xk_all1 E ms cts cod M wd stops f K tb = true := by
  obtain ⟨f, hf⟩ := hr
  refine ⟨f, ?_⟩
  unfold xk_all2 at h
  simp only [Bool.and_eq_true] at h
  obtain ⟨⟨⟨⟨⟨⟨⟨h1, h2⟩, h3⟩, h4⟩, h5⟩, h6⟩, h7⟩, h8⟩ := h
  unfold xk_all1 xk_meth
  simp only [Bool.and_eq_true]
  exact ⟨⟨⟨⟨⟨⟨⟨h1, h2⟩, h3⟩, h4⟩, by rw [hf]; exact h5⟩, h6⟩, h7⟩, h8⟩
theorem xk_done3 {l : Launch} {Φ : Nat → Nat → List Int → Int} {wd : Nat → Nat} {nb : Nat × Nat} {E : ck_E} {ms : List ck_MM} {cts : List xk_Q} {cod : List (List (Nat × Instr × Nat))} {M : ck_M} {stops : List Nat} {K : xk_K} {tb : List xk_E} {y : xk_X} (h : xk_all2 cod M wd K tb y = true) (hr : xk_to E ms cts cod M.2.2.1 K.2.2.2.2.2.1 K.2.2.2.2.2.2 M.1.name wd stops (0, xk_largs 0 K.1, [], K.2.1, [], K.2.2.2.2.1.2.1 + 1) y) (hΦ : ∀ r inp, Φ K.2.2.2.2.1.1 r inp = xk_fn Φ wd tb K.2.2.2.2.1.2.1 K.2.2.2.2.1.2.2 r inp)
    (hE : ck_Eok ms E) (hEM : E.1 = M.1.cls) (hms : ∀ q ∈ ms, ck_Mok q) (hcts : xk_Cts l Φ wd nb ms cts) (hg : ck_Glob) (hcod : ∀ pc i n, ck_cdAt cod pc = some (i, n) → decode M.2.1 pc = .ok (i, n)) : xk_Cd l Φ wd nb M K := by
  obtain ⟨f, hf⟩ := xk_all2_ok h hr
  exact xk_done2 hf hΦ hE hEM hms hcts hg hcod
