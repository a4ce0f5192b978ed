/-! the second checker: 29 -/
def gck_ex (E : ck_E) (tab : List ck_D) (nb : Nat × Nat) (lw : Bool) (ms : List ck_MM) (cts : List (Nat × ck_Kt)) (nt : List (Nat × Nat × Nat)) (cod : List (List (Nat × Instr × Nat))) (M : ck_M) (K : ck_Ct) (al : List (List ck_C × (Option ck_V ⊕ Nat))) (wr : List Nat) (ops : List (Nat × List ck_O)) (ann : List (Nat × ck_An)) (z : Option (ck_Ms × List (Nat × ck_V))) : Nat → ck_N → Bool
  | 0, _ => false
  | f + 1, x => gck_opsK tab K.2.1.length (fun B => match gck_step E tab nb lw ms cts nt cod M K al wr (x.1, B, x.2.2) with
    | some X => ck_alT (fun y => match ck_lk ann y.1 with
      | some _ => ann.any (fun a => a.1 == y.1 && ck_arr z a.2 y)
      | none => gck_ex E tab nb lw ms cts nt cod M K al wr ops ann z f y) X
    | none => false) (ck_oz ops x.1) x.2.1
section CKEX
variable {p : Program} {l : Launch} {e : Env} {R : Room} {s : State} {m : MethodId} {args : Array Value} {below : List Frame} {meth : Method} {c : Code} {ce sl : Nat} {Q : State → Prop}
variable {pc : Nat} {nb : Nat × Nat} {al : List (List ck_C × (Option ck_V ⊕ Nat))} {D : va_G} {AC : Nat → ClassId} {S : Nat → Nat} {tab : List ck_D} {L : Heap} {ρ0 : Nat → Int} {wr : List Nat} {G0 : Nat → Nat} {N0 : List Nat} {H0 : Heap}
variable {A : List (Nat × ck_V)} {st : List ck_V} {T : List ck_C} {M : ck_M} {K : ck_Ct} {E : ck_E} {ms : List ck_MM} {cts : List (Nat × ck_Kt)} {cod : List (List (Nat × Instr × Nat))} {nt : List (Nat × Nat × Nat)}
theorem gcw_ex (hy : gck_Hy p l e R s m meth c M K E ms cts tab nb D AC S L cod) (hQ : ∀ a ∈ al, ∀ t, gck_Fin D AC S tab L ρ0 wr G0 N0 (ck_alt K a) below s t → Q t) (hnp : N0.length = K.2.1.length) {lw : Bool} (hlw : lw = true → ρ0 149 = (S 3 : Int)) {ops : List (Nat × List ck_O)} {ann : List (Nat × ck_An)} {z : Option (ck_Ms × List (Nat × ck_V))}
    (ha : ∀ (y : ck_N) (a : ck_An), (y.1, a) ∈ ann → ck_arr z a y = true → gck_W p l e R s m args below meth c Q D AC S tab L M.2.2.1 ρ0 wr G0 N0 s.heap y.1 y.2.1 y.2.2.1 y.2.2.2) :
    ∀ (f : Nat) (x : ck_N), gck_ex E tab nb lw ms cts nt cod M K al wr ops ann z f x = true → gck_W p l e R s m args below meth c Q D AC S tab L M.2.2.1 ρ0 wr G0 N0 s.heap x.1 x.2.1 x.2.2.1 x.2.2.2
  | 0, _, h => by cases h
  | f + 1, x, h => by
    unfold gck_ex at h
    refine gcw_opsK hnp (fun B hB => ?_) h
    split at hB
    · rename_i X hX
      refine gcw_step (x := (x.1, B, x.2.2)) hy hnp hlw hQ hX fun y hyX => ?_
      have := ck_alT_ok hB y hyX
      split at this
      · obtain ⟨a, ham, hab⟩ := List.any_eq_true.mp this
        simp only [Bool.and_eq_true, beq_iff_eq] at hab
        exact ha y a.2 (by rw [← hab.1]; exact ham) hab.2
      · exact gcw_ex hy hQ hnp hlw ha f y this
    · cases hB
/-- what is described by one state is by a wider one -/
theorem gck_st.le {ρ1 : Nat → Int} {B B' : ck_A} {nL : Nat} {H : Heap} {ls : Array Slot} {vs : List Value} {locs : List Loc} (hl : ck_leA B B' = true) (h : gck_st D AC S tab L nL ρ1 wr G0 N0 H0 B H ls vs locs) : gck_st D AC S tab L nL ρ1 wr G0 N0 H0 B' H ls vs locs := by
  obtain ⟨ρ, G, N, lv, h1, h2, h3, h4, h5, h6, h7⟩ := h
  unfold ck_leA at hl
  simp only [Bool.and_eq_true, beq_iff_eq] at hl
  obtain ⟨⟨⟨l1, l2⟩, l3⟩, l4⟩ := hl
  have key : ∀ A' : List (Nat × ck_V), A'.all (fun q => match ck_loc B.1 q.1 with
    | some v => ck_le v q.2
    | none => false) = true → ∃ lv', lv_has ls nL lv' ∧ ck_all (ck_RL S ρ G N) A' lv' := by
    intro A'
    induction A' with
    | nil => exact fun _ => ⟨[], ⟨h1.1, h1.2.1, fun q hq => by cases hq⟩, ck_all.nil⟩
    | cons q t ih =>
      intro hall
      rw [List.all_cons, Bool.and_eq_true] at hall
      obtain ⟨lv', i1, i2⟩ := ih hall.2
      have hq := hall.1
      split at hq
      · rename_i v hv
        obtain ⟨j, w, g1, g2⟩ := ck_loc_ok h2 hv
        have hls : ls[q.1]? = some (.val w) := lv_at h1 j g1
        refine ⟨(q.1, w) :: lv', ⟨h1.1, h1.2.1, fun r hr => ?_⟩, ck_all.cons ⟨rfl, g2.le hq⟩ i2⟩
        rcases List.mem_cons.mp hr with rfl | hr
        · exact hls
        · exact i1.2.2 r hr
      · cases hq
  obtain ⟨lv', i1, i2⟩ := key B'.1 l1
  refine ⟨ρ, G, N, lv', i1, i2, ⟨by rw [← l2]; exact h3.1, fun i k v hk hv => ?_⟩, h4.leT l4, h5.leT l4, h6, h7⟩
  have hil : i < B.2.1.length := by rw [l2]; exact (List.getElem?_eq_some_iff.mp hk).1
  have hk0 : B.2.1[i]? = some B.2.1[i] := List.getElem?_eq_getElem hil
  have hz : (B.2.1[i], k) ∈ B.2.1.zip B'.2.1 := List.mem_of_getElem? (i := i) (by rw [List.getElem?_zip_eq_some]; exact ⟨hk0, hk⟩)
  exact (h3.2 i _ v hk0 hv).le (List.all_eq_true.mp l3 _ hz)
end CKEX
