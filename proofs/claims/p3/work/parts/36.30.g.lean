/-! the second checker: 30 -/
def gck_meth (E : ck_E) (tab : List ck_D) (nb : Nat × Nat) (lw : Bool) (ms : List ck_MM) (cts : List (Nat × ck_Kt)) (nt : List (Nat × Nat × Nat)) (cod : List (List (Nat × Instr × Nat))) (M : ck_M) (X : ck_Kt) (ops : List (Nat × List ck_O)) (ann : List (Nat × ck_An)) (f : Nat) : Bool :=
  ck_resg X && X.1.1.all ck_kn && decide (ck_words X.1.1 ≤ M.2.2.1) && ck_ngA (ck_largs 0 X.1.1, [], ck_etag X.1.2.1) &&
  gck_ex E tab nb lw ms cts nt cod M X.1 X.2.1 X.2.2 ops ann none f (0, (ck_tgM (ck_largs 0 X.1.1), [], ck_etag X.1.2.1), 0, 0) &&
  ann.all (fun a => ck_ngA a.2.1 && gck_ex E tab nb lw ms cts nt cod M X.1 X.2.1 X.2.2 ops ann (some (a.2.2.1, a.2.1.1)) f (a.1, (ck_tgM a.2.1.1, a.2.1.2.1, a.2.1.2.2), a.2.2.2.1, a.2.2.2.2))
section CKME
variable {p : Program} {l : Launch} {e : Env} {R : Room} {s : State} {m : MethodId} {args : Array Value} {below : List Frame} {meth : Method} {c : Code} {ce sl : Nat} {Q : State → Prop}
variable {pc : Nat} {nb : Nat × Nat} {al : List (List ck_C × (Option ck_V ⊕ Nat))} {D : va_G} {AC : Nat → ClassId} {S : Nat → Nat} {tab : List ck_D} {L : Heap} {ρ0 : Nat → Int} {wr : List Nat} {G0 : Nat → Nat} {N0 : List Nat} {H0 : Heap}
variable {M : ck_M} {K : ck_Ct} {E : ck_E} {ms : List ck_MM} {cts : List (Nat × ck_Kt)} {cod : List (List (Nat × Instr × Nat))} {nt : List (Nat × Nat × Nat)}
/-- a run begins: its locals have ghosts -/
theorem gck_st.seg {ρ1 : Nat → Int} {B : ck_A} {nL : Nat} {H : Heap} {ls : Array Slot} {vs : List Value} {locs : List Loc} (hn : ck_ngA B = true) (h : gck_st D AC S tab L nL ρ1 wr G0 N0 H0 B H ls vs locs) : gck_st D AC S tab L nL (ck_sg ρ1 ls) wr G0 N0 H0 (ck_tgM B.1, B.2.1, B.2.2) H ls vs locs := by
  obtain ⟨ρ, G, N, lv, h1, h2, h3, h4, h5, h6, h7⟩ := h
  unfold ck_ngA at hn
  simp only [Bool.and_eq_true] at hn
  obtain ⟨⟨n1, n2⟩, n3⟩ := hn
  have hg : ∀ g, (g < 150 ∨ 200 ≤ g) → ck_sg ρ ls g = ρ g := fun g hg => by
    unfold ck_sg
    rw [if_neg (by omega)]
  refine ⟨ck_sg ρ ls, G, N, lv, h1, ⟨by simp [ck_tgM, h2.1], fun i q w hq hw => ?_⟩, h3.mono (fun k v hk hv => hv.ng hg (List.all_eq_true.mp n2 k hk)), h4.ng hg n3, h5, h6, fun g a1 a2 => ?_⟩
  · simp only [ck_tgM, List.getElem?_map] at hq
    obtain ⟨q0, hq0, rfl⟩ := Option.map_eq_some_iff.mp hq
    obtain ⟨r1, r2⟩ := h2.2 i q0 w hq0 hw
    have r3 := r2.ng hg (List.all_eq_true.mp n1 q0 (List.mem_of_getElem? hq0))
    refine ⟨r1, ?_⟩
    obtain ⟨q1, q2⟩ := q0
    dsimp only at r1 r2 r3 ⊢
    split
    · split
      · rename_i lo hi hlt
        obtain ⟨x, ex, x1, x2, -⟩ := r2
        refine ⟨x, ex, x1, x2, fun g c hgc => ?_⟩
        cases hgc
        have hsl : ls[w.1]? = some (.val w.2) := h1.2.2 w (List.mem_of_getElem? hw)
        have : ck_sg ρ ls (150 + q1) = x.toInt := by
          unfold ck_sg
          rw [if_pos (by omega), show 150 + q1 - 150 = q1 by omega]
          unfold ck_lvI
          rw [r1, hsl, ex]
        rw [this]
        omega
      · exact r3
    · exact r3
  · unfold ck_sg
    split
    · rfl
    · exact h7 g a1 a2
theorem gck_Fin.sg {ρ0 ρ1 : Nat → Int} (hK : ck_resg1 K = true) (hg : ∀ g, (g < 150 ∨ 200 ≤ g) → ρ1 g = ρ0 g) {t : State} (h : gck_Fin D AC S tab L ρ1 wr G0 N0 K below s t) : gck_Fin D AC S tab L ρ0 wr G0 N0 K below s t := by
  unfold ck_resg1 at hK
  simp only [Bool.and_eq_true] at hK
  obtain ⟨k1, k2⟩ := hK
  obtain ⟨o, a1, a2, a3, a4, ρ, G, N, b1, b2, b3, b4⟩ := h
  have hg' : ∀ g, (g < 150 ∨ 200 ≤ g) → (fun g => if 150 ≤ g ∧ g < 200 then ρ0 g else ρ g) g = ρ g := fun g hg => by
    dsimp only
    rw [if_neg (by omega)]
  refine ⟨o, a1, a2, a3, a4, fun g => if 150 ≤ g ∧ g < 200 then ρ0 g else ρ g, G, N, b1.ng hg' k1, b2, fun g c1 c2 => ?_, ?_⟩
  · dsimp only
    split
    · rfl
    · rw [b3 g c1 c2, hg g (by omega)]
  · generalize hr : K.2.2.2.1 = r at b4 k2
    match r, b4, k2 with
    | .inl none, b4, k2 => exact b4
    | .inl (some k), b4, k2 =>
      obtain ⟨w, w1, w2⟩ := b4
      exact ⟨w, w1, w2.ng hg' k2⟩
    | .inr x, b4, k2 => exact b4
/-- a method that the checker takes keeps its contract -/
theorem gck_run {X : ck_Kt} (hy : gck_Hy p l e R s m meth c M X.1 E ms cts tab nb D AC S L cod) (hnp : N0.length = X.1.2.1.length) {ops : List (Nat × List ck_O)} {ann : List (Nat × ck_An)} {f : Nat} (h : gck_meth E tab nb false ms cts nt cod M X ops ann f = true)
    {vs : List Value} (hargs : args = vs.toArray) (hv : ck_all (ck_R S ρ0 G0 N0) X.1.1 vs) (hH : ck_H D AC S tab L ρ0 G0 N0 (ck_etag X.1.2.1) s.heap) :
    W p l e R s m args below meth c s.heap [] 0 0 (fun t => ∃ a ∈ X.2.1, gck_Fin D AC S tab L ρ0 X.2.2 G0 N0 (ck_alt X.1 a) below s t) (entryFrame m args M.2.2.1) := by
  unfold gck_meth at h
  simp only [Bool.and_eq_true, decide_eq_true_eq] at h
  obtain ⟨⟨⟨⟨⟨hres, hkn⟩, hwd⟩, hng⟩, hent⟩, hann⟩ := h
  have hQ : ∀ (ρ1 : Nat → Int) (ls : Array Slot), (∀ g, (g < 150 ∨ 200 ≤ g) → ρ1 g = ρ0 g) → ∀ a ∈ X.2.1, ∀ t, gck_Fin D AC S tab L (ck_sg ρ1 ls) X.2.2 G0 N0 (ck_alt X.1 a) below s t → ∃ a ∈ X.2.1, gck_Fin D AC S tab L ρ0 X.2.2 G0 N0 (ck_alt X.1 a) below s t := fun ρ1 ls h1 a ha t ht => ⟨a, ha, ht.sg (List.all_eq_true.mp hres a ha) (fun g hg => by
    unfold ck_sg
    rw [if_neg (by omega)]
    exact h1 g hg)⟩
  have key : ∀ (n : Nat) (ρ1 : Nat → Int), (∀ g, (g < 150 ∨ 200 ≤ g) → ρ1 g = ρ0 g) → ∀ (pc : Nat) (a : ck_An), (pc, a) ∈ ann → ∀ (H : Heap) (ls : Array Slot) (st : List Value) (locs : List Loc), gck_st D AC S tab L M.2.2.1 ρ1 X.2.2 G0 N0 s.heap a.1 H ls st locs → ck_me a.2.1 ls < (n : Int) → 0 ≤ ck_me a.2.1 ls → W p l e R s m args below meth c H locs a.2.2.1 a.2.2.2 (fun t => ∃ a ∈ X.2.1, gck_Fin D AC S tab L ρ0 X.2.2 G0 N0 (ck_alt X.1 a) below s t) (F0 m pc ls st) := by
    intro n
    induction n with
    | zero => intro _ _ _ _ _ _ _ _ _ _ h1 h2; omega
    | succ n ih =>
      intro ρ1 hρ1 pc a hmem H ls st locs hst hm hm0
      have hseg := List.all_eq_true.mp hann _ hmem
      simp only [Bool.and_eq_true] at hseg
      obtain ⟨g1, g2⟩ := hseg
      have hst' := hst.seg g1
      refine gcw_ex hy (hQ ρ1 ls hρ1) hnp (fun h => by cases h) (fun y a' hl harr => ?_) f _ g2 H ls st locs hst'
      intro H' ls' st' locs' hs'
      unfold ck_arr at harr
      simp only [Bool.and_eq_true, decide_eq_true_eq] at harr
      obtain ⟨⟨⟨⟨e1, e2⟩, e3⟩, e4⟩, e5⟩ := harr
      obtain ⟨ρ, G, N, lv, z1, z2, z3, z4, z5, z6, z7⟩ := hs'
      have hs' : gck_st D AC S tab L M.2.2.1 (ck_sg ρ1 ls) X.2.2 G0 N0 s.heap y.2.1 H' ls' st' locs' := ⟨ρ, G, N, lv, z1, z2, z3, z4, z5, z6, z7⟩
      refine W.widen e1 e2 ?_
      have hlow : 0 ≤ ck_me a'.2.1 ls' := by
        split at e4
        · rename_i k hk
          have := ck_lb_ok z1 z2 hk
          have := of_decide_eq_true e4
          unfold ck_me
          omega
        · cases e4
      refine ih (ck_sg ρ1 ls) (fun g hg => by
        unfold ck_sg
        rw [if_neg (by omega)]
        exact hρ1 g hg) y.1 a' hl H' ls' st' locs' (hs'.le e3) ?_ hlow
      unfold ck_dec at e5
      split at e5
      · rename_i k lt hk
        split at e5
        · rename_i u hu
          have e5 := of_decide_eq_true e5
          have b1 := ck_eb_ok (σ := ck_lvI ls) (fun g q1 q2 => by
            rw [z7 g (by omega) q2]
            unfold ck_sg
            rw [if_pos ⟨q1, q2⟩]) z1 z2 hk
          obtain ⟨ρs, Gs, Ns, lvs, y1, y2, y3⟩ := hst
          have b2 := ck_ub_ok (σ := ck_lvI ls) (fun i q hq => by
            obtain ⟨u1, u2, -⟩ := ck_loc_int y1 y2 hq
            exact ⟨u1, u2⟩) hu
          rw [ck_subL_ev] at b2
          unfold ck_me at hm ⊢
          omega
        · cases e5
      · cases e5
  refine gcw_entry (M := M) (K := X.1) (wr := X.2.2) hy.1.2.2.1 hargs hv hH hkn hwd ?_
  intro H ls st locs hst
  refine gcw_ex hy (hQ ρ0 ls (fun _ _ => rfl)) hnp (fun h => by cases h) (fun y a' hl harr => ?_) f _ hent H ls st locs (hst.seg hng)
  intro H' ls' st' locs' hs'
  unfold ck_arr at harr
  simp only [Bool.and_eq_true, decide_eq_true_eq] at harr
  obtain ⟨⟨⟨⟨e1, e2⟩, e3⟩, e4⟩, e5⟩ := harr
  obtain ⟨ρ, G, N, lv, z1, z2, z3, z4, z5, z6, z7⟩ := hs'
  have hs' : gck_st D AC S tab L M.2.2.1 (ck_sg ρ0 ls) X.2.2 G0 N0 s.heap y.2.1 H' ls' st' locs' := ⟨ρ, G, N, lv, z1, z2, z3, z4, z5, z6, z7⟩
  refine W.widen e1 e2 ?_
  have hlow : 0 ≤ ck_me a'.2.1 ls' := by
    split at e4
    · rename_i k hk
      have := ck_lb_ok z1 z2 hk
      have := of_decide_eq_true e4
      unfold ck_me
      omega
    · cases e4
  exact key (ck_me a'.2.1 ls' + 1).toNat (ck_sg ρ0 ls) (fun g hg => by
    unfold ck_sg
    rw [if_neg (by omega)]) y.1 a' hl H' ls' st' locs' (hs'.le e3) (by omega) hlow
/-- so it may be called -/
theorem gck_done {X : ck_Kt} {ops : List (Nat × List ck_O)} {ann : List (Nat × ck_An)} {f : Nat} (h : gck_meth E tab nb false ms cts nt cod M X ops ann f = true) (hE : ck_Eok ms E) (hEM : E.1 = M.1.cls) (hms : ∀ q ∈ ms, ck_Mok q) (hcts : ∀ q ∈ cts, ∃ M' : ck_MM, ms[q.1]? = some M' ∧ gck_Ok l tab nb M'.1 q.2) (hg : ck_Glob) (hcod : ∀ pc i n, ck_cdAt cod pc = some (i, n) → decode M.2.1 pc = .ok (i, n)) : gck_Ok l tab nb M X := by
  intro p e R s m args below meth c D AC S L ρ0 G0 N0 vs n hn1 hn2 hB htr r1 r2 r3 r4 hKf hargs hv hH
  have hnp : N0.length = X.1.2.1.length := by
    rw [hH.2.1]
    exact ck_etX_len _ _
  exact gck_run ⟨hB, htr, ⟨r1, r2, r3, r4⟩, ⟨n, hn1, hn2, hKf⟩, hE, hEM, hms, hcts, hg, hcod⟩ hnp h hargs hv hH
theorem gck_Ok.wid {X : ck_Kt} {nb' : Nat × Nat} (h : gck_Ok l tab nb M X) (h1 : nb.1 ≤ nb'.1) (h2 : nb'.2 ≤ nb.2) : gck_Ok l tab nb' M X := fun p e R s m args below meth c D AC S L ρ0 G0 N0 vs n hn1 hn2 => h p e R s m args below meth c D AC S L ρ0 G0 N0 vs n (Nat.le_trans h1 hn1) (Nat.le_trans hn2 h2)
end CKME
