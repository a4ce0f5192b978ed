/-! ===== the law's loop ===== -/
def lp_A (b : Nat) : List (Nat × ck_V) := [(0, kv_r 1 0), (1, kv_r 1 1), (2, kv_r 1 12), (3, kv_r 1 15), (4, .inl ((b : Int), (b : Int), none))]
def lp_Z (below : List Frame) (L : Heap) (ce sl : Nat) (s : State) : State → Prop := fun t => ∃ o, t.status = .running ∧ Ended t below o ∧ o = .returned (some (.int 1)) ∧ s.WarmedH t.vm ∧ ∃ Ls : List Loc, s.sameButNew ({ t with vm := s.vm } : State) Ls ce sl ∧ ∀ q ∈ Ls, L.size ≤ q.base
section LP
variable {p : Program} {l : Launch} {e : Env} {R : Room} {s : State} {m : MethodId} {args : Array Value} {below : List Frame} {meth : Method} {c : Code}
variable {D : va_G} {AC : Nat → ClassId} {S : Nat → Nat} {L : Heap} {n : Nat}
theorem lp_fin {ρ0 : Nat → Int} {G0 : Nat → Nat} {N0 : List Nat} {ce sl : Nat} {K : ck_Ct} {t : State} (hc : K.2.2.2.2.2.2.1 ≤ ce) (hs : K.2.2.2.2.2.2.2 ≤ sl) (hr : K.2.2.2.1 = .inl (some (kv_i 1 1))) (h : ck_Fin D AC S kv_tab L ρ0 klw_wr G0 N0 K below s t) : lp_Z below L ce sl s t := by
  obtain ⟨o, a1, a2, a3, ⟨Ls, a4, a5⟩, ρ, G, N, b1, b2, b3, b4⟩ := h
  rw [hr] at b4
  obtain ⟨w, rfl, x, rfl, x1, x2, -⟩ := b4
  have hx : x = 1 := Int32.toInt_inj.mp (by
    have h1 : (1 : Int) ≤ x.toInt := x1
    have h2 : x.toInt ≤ 1 := x2
    show x.toInt = 1
    omega)
  subst hx
  exact ⟨_, a1, a2, rfl, a3, Ls, a4.weaken (fun q hq _ => hq) hc hs, a5⟩
theorem lp_al {ρ0 : Nat → Int} {G0 : Nat → Nat} {N0 : List Nat} {ce sl : Nat} (hc : 3 ≤ ce) (hs : 18 ≤ sl) : ∀ a ∈ klw2_al, ∀ t, ck_Fin D AC S kv_tab L ρ0 klw_wr G0 N0 (ck_alt klw2_K a) below s t → lp_Z below L ce sl s t := by
  intro a ha t ht
  rw [klw2_al, List.mem_singleton] at ha
  subst ha
  exact lp_fin hc hs rfl ht
theorem lp_hy {S' : Nat → Nat} (hf : 9 ≤ R.frames) (hlo : 207 ≤ R.locals) (hc : 3 ≤ R.cells) (hs : 18 ≤ R.slots) (h1 : 1 ≤ n) (h2 : n ≤ 2561) (htr : e.platform.stackTraces = false) (hB : ck_B p s m meth c klw_M) (hKf : ck_Kf D AC S' L s n) : ck_Hy p l e R s m meth c klw_M klw2_K ce_11 cm_ms klw2_c kv_tab (1, 2561) D AC S' L kco_law :=
  ⟨hB, htr, ⟨hf, hlo, hc, hs⟩, ⟨n, h1, h2, hKf⟩, ce_ok11, rfl, cm_ok, klw2_h, ce_glob, kco_law_ok⟩
theorem lp_dec (pc : Nat) {i : Instr} {k : Nat} (h : ck_cdAt kco_law pc = some (i, k)) : decode code pc = .ok (i, k) := kco_law_ok pc i k h
/-- the loop's end -/
theorem lp_exit {Q : State → Prop} {ρ0 : Nat → Int} {G0 : Nat → Nat} {N0 : List Nat} {b : Nat} {es : List ck_V} (hy : ck_Hy p l e R s m meth c klw_M klw2_K ce_11 cm_ms klw2_c kv_tab (1, 2561) D AC S L kco_law) (hKf : ck_Kf D AC S L s n) (h1 : 1 ≤ n) (h2 : n ≤ 2561) (hb1 : 1 ≤ b) (hb2 : b ≤ 2566) (hx : n < b + 5) (hnp : N0.length = 16) (hQ : ∀ a ∈ klw2_al, ∀ t, ck_Fin D AC S kv_tab L ρ0 klw_wr G0 N0 (ck_alt klw2_K a) below s t → Q t) :
    ck_W p l e R s m args below meth c Q D AC S kv_tab L 8 ρ0 klw_wr G0 N0 s.heap 33 (lp_A b, [], ((5, 2), es) :: lp_Tr) 0 0 := by
  have hexec := hy.1.1
  have hb := hy.1.2.1
  refine cw_load (i := 4) (pc2 := 35) (k := .inl ((b : Int), (b : Int), none)) rfl (fun {H} {ls} {rest} {locs} {ρ} {G} {N} {v} hl hv w => ?_) ?_
  · obtain ⟨x, rfl, -⟩ := hv
    exact lv_iload hexec hb (lp_dec 33 rfl) hl w
  refine cw_load (i := 0) (pc2 := 36) (k := kv_r 1 0) rfl (fun {H} {ls} {rest} {locs} {ρ} {G} {N} {v} hl hv w => ?_) ?_
  · obtain ⟨a, -, rfl⟩ := hv
    exact lv_aload_n hexec hb (lp_dec 35 rfl) rfl hl w
  refine cw_lenW (i := 0) (j := 2) (kd := 5) (n := n) (lo := (n : Int)) (hi' := (n : Int)) hexec hb (hKf.sta (show 2 < 3 by omega)) rfl (Or.inl rfl) (Int.le_refl _) (Int.le_refl _) (by omega) (lp_dec 36 rfl) ?_
  refine cw_pushI (pc2 := 38) 5 5 rfl (fun w => lv_iconst hexec hb (lp_dec 37 rfl) rfl w) ?_
  refine cw_op2 (pc2 := 39) (r := .inl ((n : Int) - 5, (n : Int) - 5, none)) (f := fun x y => x - y) (fun ρ x y hx hy => ?_) (fun _ _ w => lv_isub hexec hb (lp_dec 38 rfl) w) ?_
  · have := ck_sub_ok hx hy
    unfold ck_sub at this
    rw [if_pos (by unfold ck_iok; simp; omega)] at this
    exact this
  refine cw_icmp (k := .gt) (tgt := 1048) hexec hb (lp_dec 39 rfl) (by rfl) (fun r hr => ?_) (fun r hr => ?_)
  · have hex := cw_ex (lw := false) (ρ0 := ρ0) (G0 := G0) (N0 := N0) (wr := klw_wr) (args := args) hy hQ (by rw [hnp]; rfl) (fun h => by cases h) (fun y a ha _ => by cases ha) _ _ klw2_e
    intro H ls st locs hs
    exact hex H ls st locs (hs.le (by rfl))
  · exfalso
    have hn : ck_ref (ck_neg .gt) ((b : Int), (b : Int)) ((n : Int) - 5, (n : Int) - 5) = none := by
      unfold ck_ref
      dsimp only [ck_neg]
      exact if_neg (fun hc => by
        have h8 := ck_min_r (b : Int) ((n : Int) - 5)
        have h9 := hc.1
        omega)
    have e : (none : Option ((Int × Int) × (Int × Int))) = some r := hn.symm.trans hr
    cases e
theorem lp_out {ρ : Nat → Int} {G : Nat → Nat} {N : List Nat} {lv : List (Nat × Value)} {H : Heap} {ls : Array Slot} {b ce sl : Nat} (htr : e.platform.stackTraces = false) (h1 : 1 ≤ n) (h2 : n ≤ 2561) (hb1 : 1 ≤ b) (hb2 : b ≤ 2566) (hx : n < b + 5) (hc : 3 ≤ R.cells) (hs : 18 ≤ R.slots) (hf : 9 ≤ R.frames) (hlo : 207 ≤ R.locals) (hce : 3 ≤ ce) (hsl : 18 ≤ sl) (hh : s.heap = H) (hB : ck_B p s m meth c klw_M) (hKf : ck_Kf D AC S L s n) (hl : lv_has ls 8 lv) (hA : ck_all (ck_RL S ρ G N) (lp_A b) lv) (hH : ck_H D AC S kv_tab L ρ G N (((5, 2), []) :: lp_Tr) H) :
    W p l e R s m args below meth c H [] 0 0 (lp_Z below L ce sl s) (F0 m 33 ls []) := by
  subst hh
  have hnp : N.length = 16 := hH.2.1
  exact lp_exit (ρ0 := ρ) (G0 := G) (N0 := N) (lp_hy hf hlo hc hs h1 h2 htr hB hKf) hKf h1 h2 hb1 hb2 hx hnp (lp_al hce hsl) s.heap ls [] [] ⟨ρ, G, N, lv, hl, hA, ck_all.nil, hH, ck_F.refl hH.2.1, (fun q hq => by cases hq), fun _ _ _ => rfl⟩
/-- from what a state says, at the head, of the run's own frame: on with the rest of the run -/
theorem lp_go {ce sl k : Nat} {S' : Nat → Nat} {ρ1 : Nat → Int} {G0 : Nat → Nat} {N0 : List Nat} {H0 : Heap} {A1 : ck_V} {es : List ck_V} {kd b' : Nat} {TrE : List ck_C} {Z D' : List (Nat × Int)} (hZD : Z = [] ∨ D' = []) (hcv : ck_cvT Z D' TrE lp_Tr = true) (hkd : kd = 5 ∨ kd = 6) (hS : S' 2 = S 2) (hB : ck_B p s m meth c klw_M) (hKf : ck_Kf D AC S L s n) (hce : ce ≤ R.cells) (hsl : sl ≤ R.slots)
    (hA1 : ∀ (ρ2 : Nat → Int) (G2 : Nat → Nat) (N2 : List Nat) (v : Value), (∀ g, 100 ≤ g → g < 200 → ρ2 g = ρ1 g) → ck_R S' ρ2 G2 N2 A1 v → ∃ x : Int32, v = .int x ∧ x.toInt = (b' : Int))
    (ih : ∀ {s : State} {R : Room} {H : Heap} {ls : Array Slot} {ρ : Nat → Int} {G : Nat → Nat} {N : List Nat} {lv : List (Nat × Value)}, 3 * (k + 1) ≤ R.cells → 18 * (k + 1) ≤ R.slots → 9 ≤ R.frames → 207 ≤ R.locals → s.heap = H → ck_B p s m meth c klw_M → ck_Kf D AC S L s n → lv_has ls 8 lv → ck_all (ck_RL S ρ G N) (lp_A b') lv → ck_H D AC S kv_tab L ρ G N (((5, 2), []) :: lp_Tr) H → W p l e R s m args below meth c H [] 0 0 (lp_Z below L (3 * (k + 1)) (18 * (k + 1)) s) (F0 m 33 ls []))
    (hc : ce + 3 * (k + 1) ≤ R.cells) (hs : sl + 18 * (k + 1) ≤ R.slots) (hf : 9 ≤ R.frames) (hlo : 207 ≤ R.locals) :
    ck_W p l e R s m args below meth c (lp_Z below L (ce + 3 * (k + 1)) (sl + 18 * (k + 1)) s) D AC S' kv_tab L 8 ρ1 klw_wr G0 N0 H0 33 ([(0, kv_r 1 0), (1, kv_r 1 1), (2, kv_r 1 12), (3, kv_r 1 15), (4, A1)], [], ((kd, 2), es) :: TrE) ce sl := by
  intro H2 ls2 st2 locs2 hs2 U hU X
  obtain ⟨ρ2, G2, N2, lv2, i1, i2, i3, i4, i5, i6, i7⟩ := hs2
  have hst : st2 = [] := by
    have := i3.1
    cases st2 with
    | nil => rfl
    | cons a b => simp at this
  subst hst
  obtain ⟨w0, m0, rfl, r0, j0⟩ := i2.uncons
  obtain ⟨w1, m1, rfl, r1, j1⟩ := j0.uncons
  obtain ⟨w2, m2, rfl, r2, j2⟩ := j1.uncons
  obtain ⟨w3, m3, rfl, r3, j3⟩ := j2.uncons
  obtain ⟨w4, m4, rfl, r4, j4⟩ := j3.uncons
  obtain ⟨x, ex, hx⟩ := hA1 ρ2 G2 N2 w4.2 i7 r4.2
  have hA2 : ck_all (ck_RL S (fun g => match ck_lk Z g with | some z => z | none => (match ck_lk D' g with | some δ => ρ2 g + δ | none => ρ2 g)) G2 N2) (lp_A b') (w0 :: w1 :: w2 :: w3 :: w4 :: m4) := by
    have hm : m4 = [] := by
      have := j4.1
      cases m4 with
      | nil => rfl
      | cons a b => simp at this
    subst hm
    exact ck_all.cons ⟨r0.1, r0.2.ch rfl⟩ (ck_all.cons ⟨r1.1, r1.2.ch rfl⟩ (ck_all.cons ⟨r2.1, r2.2.ch rfl⟩ (ck_all.cons ⟨r3.1, r3.2.ch rfl⟩ (ck_all.cons ⟨r4.1, x, ex, by dsimp only; omega, by dsimp only; omega, fun g c q => by cases q⟩ ck_all.nil))))
  have hH2 : ck_H D AC S kv_tab L (fun g => match ck_lk Z g with | some z => z | none => (match ck_lk D' g with | some δ => ρ2 g + δ | none => ρ2 g)) G2 N2 (((5, 2), []) :: lp_Tr) H2 := by
    refine i4.cvt lp_sf (Z := Z) (D' := D') (fun g z hz => ?_) (fun g δ hδ => ?_) hcv (fun a ha => ?_) rfl
    · rw [hz]
    · have hn : ck_lk Z g = none := by
        rcases hZD with e | e
        · rw [e]; rfl
        · rw [e] at hδ; cases hδ
      rw [hn, hδ]
    have h0 := i4.2.2.1 0 _ a rfl ha
    rcases hkd with rfl | rfl
    · obtain ⟨e0, cell', z1, z2, z3⟩ := h0
      exact ⟨by rw [e0]; exact hS, cell', z1, z2, fun k v hk => by simp at hk⟩
    · obtain ⟨e0, cell', z1, z2, z3⟩ := h0
      exact ⟨by rw [e0]; exact hS, cell', z1, z2, fun k v hk => by simp at hk⟩
  have Y := ck_rebase X hce hsl
  have hWs : s.WarmedH (U.setFrames (.invoking m args :: below)).vm := X.warmed
  obtain ⟨b1, b2, b3, b4, b5, b6, b7, b8⟩ := hB
  have w := ih (s := U.setFrames (.invoking m args :: below)) (R := { R with cells := R.cells - ce, slots := R.slots - sl }) (H := H2) (ls := ls2) (by show _ ≤ R.cells - ce; omega) (by show _ ≤ R.slots - sl; omega) hf hlo hU ⟨b1, b2, b3, b4, b5, by show U.vm.findClass _ = _; rw [X.warmed.alike.findClass]; exact b6, b7, b8⟩ (hKf.moved hWs) i1 hA2 hH2
  obtain ⟨t, t1, o, u1, u2, u3, u4, Ls, u5, u6⟩ := w U hU Y
  have hUt : U.sameButNew ({ t with vm := U.vm } : State) Ls (3 * (k + 1)) (18 * (k + 1)) := by
    obtain ⟨e1, e2⟩ := u5
    refine ⟨?_, e2⟩
    rw [State.setFrames_setFrames] at e1
    exact e1
  have hsm : s.sameButNew ({ t with vm := s.vm } : State) (locs2 ++ Ls) (ce + 3 * (k + 1)) (sl + 18 * (k + 1)) := X.same.trans (hUt.setVm s.vm)
  refine ⟨t, t1, o, u1, u2, u3, State.WarmedH.trans X.warmed u4, locs2 ++ Ls, hsm, fun q hq => ?_⟩
  rcases List.mem_append.mp hq with z | z
  · exact i6 q z
  · exact u6 q z
theorem lp_loop (htr : e.platform.stackTraces = false) (hn1 : 1 ≤ n) (hn2 : n ≤ 2561) : ∀ (k : Nat) {b : Nat} {s : State} {R : Room} {H : Heap} {ls : Array Slot} {ρ : Nat → Int} {G : Nat → Nat} {N : List Nat} {lv : List (Nat × Value)}, 1 ≤ b → b ≤ 2566 → n < b + 5 * k + 5 → 3 * (k + 1) ≤ R.cells → 18 * (k + 1) ≤ R.slots → 9 ≤ R.frames → 207 ≤ R.locals → s.heap = H → ck_B p s m meth c klw_M → ck_Kf D AC S L s n → lv_has ls 8 lv → ck_all (ck_RL S ρ G N) (lp_A b) lv → ck_H D AC S kv_tab L ρ G N (((5, 2), []) :: lp_Tr) H →
    W p l e R s m args below meth c H [] 0 0 (lp_Z below L (3 * (k + 1)) (18 * (k + 1)) s) (F0 m 33 ls []) := by
  intro k
  induction k with
  | zero =>
    intro b s R H ls ρ G N lv hb1 hb2 hk hc hs hf hlo hh hB hKf hl hA hH
    exact lp_out htr hn1 hn2 hb1 hb2 (by omega) (by omega) (by omega) hf hlo (by omega) (by omega) hh hB hKf hl hA hH
  | succ k ih =>
    intro b s R H ls ρ G N lv hb1 hb2 hk hc hs hf hlo hh hB hKf hl hA hH
    by_cases hx : n < b + 5
    · exact lp_out htr hn1 hn2 hb1 hb2 hx (by omega) (by omega) hf hlo (by omega) (by omega) hh hB hKf hl hA hH
    subst hh
    have hKf' : ck_Kf D AC (fun j => if j = 3 then b else S j) L s n := hKf
    obtain ⟨cell, c1, c2, c3, c4, c5, c6⟩ := hKf.sta (show 2 < 3 by omega)
    have hH' : ck_H D AC (fun j => if j = 3 then b else S j) kv_tab L (fun g => if g = 149 then (b : Int) else ρ g) G N klw2_T s.heap := by
      refine hH.cvt lp_sf (fun g z hz => by cases hz) (fun g δ hδ => ?_) lp_cvI (fun a ha => ?_) rfl
      · have hg : g ≠ 149 ∧ δ = 0 := by
          have := ck_lk_mem hδ
          simp only [List.mem_cons, Prod.mk.injEq, List.not_mem_nil, or_false] at this
          omega
        rw [if_neg hg.1, hg.2]
        omega
      have h0 := hH.2.2.1 0 _ a rfl ha
      have e0 : a = S 2 := h0.1
      subst e0
      refine ⟨rfl, cell, c1, c2, fun k v hv => ?_⟩
      have hk5 : k < 5 := by
        have := (List.getElem?_eq_some_iff.mp hv).1
        simpa using this
      have hvF : v = kv_F := by
        have := List.mem_of_getElem? hv
        simpa using this
      obtain ⟨x, hx'⟩ := c6 (b + k) (by show b + k < ck_slen n 2; have : ck_slen n 2 = n := rfl; omega)
      subst hvF
      exact ⟨.int x, hx', x, rfl, (ck_i32 x).1, (ck_i32 x).2, fun g c q => by cases q⟩
    obtain ⟨w0, m0, rfl, r0, j0⟩ := hA.uncons
    obtain ⟨w1, m1, rfl, r1, j1⟩ := j0.uncons
    obtain ⟨w2, m2, rfl, r2, j2⟩ := j1.uncons
    obtain ⟨w3, m3, rfl, r3, j3⟩ := j2.uncons
    obtain ⟨w4, m4, rfl, r4, j4⟩ := j3.uncons
    have hm : m4 = [] := by
      have := j4.1
      cases m4 with
      | nil => rfl
      | cons a b => simp at this
    subst hm
    obtain ⟨r4a, x, ex, x1, x2, -⟩ := r4
    dsimp only at x1 x2
    have hA' : ck_all (ck_RL (fun j => if j = 3 then b else S j) (fun g => if g = 149 then (b : Int) else ρ g) G N) klw2_A [w0, w1, w2, w3, w4] := by
      refine ck_all.cons ⟨r0.1, r0.2.ch rfl⟩ (ck_all.cons ⟨r1.1, r1.2.ch rfl⟩ (ck_all.cons ⟨r2.1, r2.2.ch rfl⟩ (ck_all.cons ⟨r3.1, r3.2.ch rfl⟩ (ck_all.cons ⟨r4a, x, ex, ?_, ?_, fun g c hg => ?_⟩ ck_all.nil))))
      · show (1 : Int) ≤ x.toInt
        omega
      · show x.toInt ≤ 2556
        omega
      · cases hg
        show x.toInt = (b : Int) + 0
        omega
    have hy := lp_hy (l := l) (S' := fun j => if j = 3 then b else S j) hf hlo (show 3 ≤ R.cells by omega) (show 18 ≤ R.slots by omega) hn1 hn2 htr hB hKf'
    have hnp : N.length = klw2_K.2.1.length := hH'.2.1
    have hlw : true = true → (fun g => if g = 149 then (b : Int) else ρ g) 149 = (((fun j => if j = 3 then b else S j) 3 : Nat) : Int) := fun _ => rfl
    have e1 : 3 * (k + 1 + 1) = 3 + 3 * (k + 1) := by omega
    have e2 : 18 * (k + 1 + 1) = 18 + 18 * (k + 1) := by omega
    have hQ := lp_al (D := D) (AC := AC) (S := fun j => if j = 3 then b else S j) (L := L) (s := s) (below := below) (ρ0 := fun g => if g = 149 then (b : Int) else ρ g) (G0 := G) (N0 := N) (ce := 3 * (k + 1 + 1)) (sl := 18 * (k + 1 + 1)) (by omega) (by omega)
    have hhead0 : ck_W p l e R s m args below meth c (lp_Z below L (3 * (k + 1 + 1)) (18 * (k + 1 + 1)) s) D AC (fun j => if j = 3 then b else S j) kv_tab L 8 (fun g => if g = 149 then (b : Int) else ρ g) klw_wr G N s.heap 33 klw2_hd0.1 3 18 := by
      rw [e1, e2]
      refine lp_go (b' := b + 5) (S := S) (n := n) (Or.inl rfl) lp_cvE0 (Or.inr rfl) rfl hB hKf (by omega) (by omega) (fun ρ2 G2 N2 v hρ hv => ?_) (fun {s} {R} {H} {ls} {ρ} {G} {N} {lv} a1 a2 a3 a4 a5 a6 a7 a8 a9 a10 => ih (by omega) (by omega) (by omega) a1 a2 a3 a4 a5 a6 a7 a8 a9 a10) (by omega) (by omega) hf hlo
      obtain ⟨y, ey, y1, y2, y3⟩ := hv
      refine ⟨y, ey, ?_⟩
      have := y3 149 5 rfl
      rw [hρ 149 (by omega) (by omega)] at this
      have this : y.toInt = (b : Int) + 5 := this
      rw [this]
      omega
    have hhead1 : ck_W p l e R s m args below meth c (lp_Z below L (3 * (k + 1 + 1)) (18 * (k + 1 + 1)) s) D AC (fun j => if j = 3 then b else S j) kv_tab L 8 (fun g => if g = 149 then (b : Int) else ρ g) klw_wr G N s.heap 33 klw2_hd1.1 3 18 := by
      rw [e1, e2]
      refine lp_go (b' := b + 5) (S := S) (n := n) (Or.inl rfl) lp_cvE1 (Or.inr rfl) rfl hB hKf (by omega) (by omega) (fun ρ2 G2 N2 v hρ hv => ?_) (fun {s} {R} {H} {ls} {ρ} {G} {N} {lv} a1 a2 a3 a4 a5 a6 a7 a8 a9 a10 => ih (by omega) (by omega) (by omega) a1 a2 a3 a4 a5 a6 a7 a8 a9 a10) (by omega) (by omega) hf hlo
      obtain ⟨y, ey, y1, y2, y3⟩ := hv
      refine ⟨y, ey, ?_⟩
      have := y3 149 5 rfl
      rw [hρ 149 (by omega) (by omega)] at this
      have this : y.toInt = (b : Int) + 5 := this
      rw [this]
      omega
    have hhead2 : ck_W p l e R s m args below meth c (lp_Z below L (3 * (k + 1 + 1)) (18 * (k + 1 + 1)) s) D AC (fun j => if j = 3 then b else S j) kv_tab L 8 (fun g => if g = 149 then (b : Int) else ρ g) klw_wr G N s.heap 33 klw2_hd2.1 3 18 := by
      rw [e1, e2]
      refine lp_go (b' := b + 5) (S := S) (n := n) (Or.inl rfl) lp_cvE2 (Or.inr rfl) rfl hB hKf (by omega) (by omega) (fun ρ2 G2 N2 v hρ hv => ?_) (fun {s} {R} {H} {ls} {ρ} {G} {N} {lv} a1 a2 a3 a4 a5 a6 a7 a8 a9 a10 => ih (by omega) (by omega) (by omega) a1 a2 a3 a4 a5 a6 a7 a8 a9 a10) (by omega) (by omega) hf hlo
      obtain ⟨y, ey, y1, y2, y3⟩ := hv
      refine ⟨y, ey, ?_⟩
      have := y3 149 5 rfl
      rw [hρ 149 (by omega) (by omega)] at this
      have this : y.toInt = (b : Int) + 5 := this
      rw [this]
      omega
    have hhead3 : ck_W p l e R s m args below meth c (lp_Z below L (3 * (k + 1 + 1)) (18 * (k + 1 + 1)) s) D AC (fun j => if j = 3 then b else S j) kv_tab L 8 (fun g => if g = 149 then (b : Int) else ρ g) klw_wr G N s.heap 33 klw2_hd3.1 3 18 := by
      rw [e1, e2]
      refine lp_go (b' := b + 5) (S := S) (n := n) (Or.inl rfl) lp_cvE3 (Or.inr rfl) rfl hB hKf (by omega) (by omega) (fun ρ2 G2 N2 v hρ hv => ?_) (fun {s} {R} {H} {ls} {ρ} {G} {N} {lv} a1 a2 a3 a4 a5 a6 a7 a8 a9 a10 => ih (by omega) (by omega) (by omega) a1 a2 a3 a4 a5 a6 a7 a8 a9 a10) (by omega) (by omega) hf hlo
      obtain ⟨y, ey, y1, y2, y3⟩ := hv
      refine ⟨y, ey, ?_⟩
      have := y3 149 5 rfl
      rw [hρ 149 (by omega) (by omega)] at this
      have this : y.toInt = (b : Int) + 5 := this
      rw [this]
      omega
    have hhead4 : ck_W p l e R s m args below meth c (lp_Z below L (3 * (k + 1 + 1)) (18 * (k + 1 + 1)) s) D AC (fun j => if j = 3 then b else S j) kv_tab L 8 (fun g => if g = 149 then (b : Int) else ρ g) klw_wr G N s.heap 33 klw2_hd4.1 3 18 := by
      rw [e1, e2]
      refine lp_go (b' := b + 5) (S := S) (n := n) (Or.inl rfl) lp_cvE4 (Or.inr rfl) rfl hB hKf (by omega) (by omega) (fun ρ2 G2 N2 v hρ hv => ?_) (fun {s} {R} {H} {ls} {ρ} {G} {N} {lv} a1 a2 a3 a4 a5 a6 a7 a8 a9 a10 => ih (by omega) (by omega) (by omega) a1 a2 a3 a4 a5 a6 a7 a8 a9 a10) (by omega) (by omega) hf hlo
      obtain ⟨y, ey, y1, y2, y3⟩ := hv
      refine ⟨y, ey, ?_⟩
      have := y3 149 5 rfl
      rw [hρ 149 (by omega) (by omega)] at this
      have this : y.toInt = (b : Int) + 5 := this
      rw [this]
      omega
    have hone : ∀ (y : ck_N) (a : ck_An), (y.1, a) ∈ klw2_hds → ck_arr none a y = true → ck_W p l e R s m args below meth c (lp_Z below L (3 * (k + 1 + 1)) (18 * (k + 1 + 1)) s) D AC (fun j => if j = 3 then b else S j) kv_tab L klw_M.2.2.1 (fun g => if g = 149 then (b : Int) else ρ g) klw_wr G N s.heap y.1 y.2.1 y.2.2.1 y.2.2.2 := by
      intro y a ha harr
      rw [klw2_hds] at ha
      rcases List.mem_cons.mp ha with h | ha
      · obtain ⟨z1, z2⟩ := Prod.mk.inj h
        subst z2
        rw [z1]
        exact ck_W.arr harr hhead0
      rcases List.mem_cons.mp ha with h | ha
      · obtain ⟨z1, z2⟩ := Prod.mk.inj h
        subst z2
        rw [z1]
        exact ck_W.arr harr hhead1
      rcases List.mem_cons.mp ha with h | ha
      · obtain ⟨z1, z2⟩ := Prod.mk.inj h
        subst z2
        rw [z1]
        exact ck_W.arr harr hhead2
      rcases List.mem_cons.mp ha with h | ha
      · obtain ⟨z1, z2⟩ := Prod.mk.inj h
        subst z2
        rw [z1]
        exact ck_W.arr harr hhead3
      rcases List.mem_cons.mp ha with h | ha
      · obtain ⟨z1, z2⟩ := Prod.mk.inj h
        subst z2
        rw [z1]
        exact ck_W.arr harr hhead4
      cases ha
    refine cw_ex (lw := true) hy hQ hnp hlw (fun y a ha harr => ?_) _ _ klw2_m s.heap ls [] [] ⟨_, G, N, _, hl, hA', ck_all.nil, hH', ck_F.refl hH'.2.1, (fun q hq => by cases hq), fun _ _ _ => rfl⟩
    rw [klw2_n] at ha
    rcases List.mem_append.mp ha with h | ha
    · exact hone y a h harr
    rcases List.mem_cons.mp ha with h | ha
    · obtain ⟨z1, z2⟩ := Prod.mk.inj h
      subst z2
      rw [z1]
      exact ck_W.arr harr (cw_ex (lw := true) hy hQ hnp hlw hone _ _ klw2_m148)
    rcases List.mem_cons.mp ha with h | ha
    · obtain ⟨z1, z2⟩ := Prod.mk.inj h
      subst z2
      rw [z1]
      exact ck_W.arr harr (cw_ex (lw := true) hy hQ hnp hlw hone _ _ klw2_m229)
    rcases List.mem_cons.mp ha with h | ha
    · obtain ⟨z1, z2⟩ := Prod.mk.inj h
      subst z2
      rw [z1]
      exact ck_W.arr harr (cw_ex (lw := true) hy hQ hnp hlw hone _ _ klw2_m269)
    rcases List.mem_cons.mp ha with h | ha
    · obtain ⟨z1, z2⟩ := Prod.mk.inj h
      subst z2
      rw [z1]
      exact ck_W.arr harr (cw_ex (lw := true) hy hQ hnp hlw hone _ _ klw2_m318)
    rcases List.mem_cons.mp ha with h | ha
    · obtain ⟨z1, z2⟩ := Prod.mk.inj h
      subst z2
      rw [z1]
      exact ck_W.arr harr (cw_ex (lw := true) hy hQ hnp hlw hone _ _ klw2_m367)
    rcases List.mem_cons.mp ha with h | ha
    · obtain ⟨z1, z2⟩ := Prod.mk.inj h
      subst z2
      rw [z1]
      exact ck_W.arr harr (cw_ex (lw := true) hy hQ hnp hlw hone _ _ klw2_m404)
    rcases List.mem_cons.mp ha with h | ha
    · obtain ⟨z1, z2⟩ := Prod.mk.inj h
      subst z2
      rw [z1]
      exact ck_W.arr harr (cw_ex (lw := true) hy hQ hnp hlw hone _ _ klw2_m460)
    rcases List.mem_cons.mp ha with h | ha
    · obtain ⟨z1, z2⟩ := Prod.mk.inj h
      subst z2
      rw [z1]
      exact ck_W.arr harr (cw_ex (lw := true) hy hQ hnp hlw hone _ _ klw2_m488)
    rcases List.mem_cons.mp ha with h | ha
    · obtain ⟨z1, z2⟩ := Prod.mk.inj h
      subst z2
      rw [z1]
      exact ck_W.arr harr (cw_ex (lw := true) hy hQ hnp hlw hone _ _ klw2_m528)
    rcases List.mem_cons.mp ha with h | ha
    · obtain ⟨z1, z2⟩ := Prod.mk.inj h
      subst z2
      rw [z1]
      exact ck_W.arr harr (cw_ex (lw := true) hy hQ hnp hlw hone _ _ klw2_m600)
    rcases List.mem_cons.mp ha with h | ha
    · obtain ⟨z1, z2⟩ := Prod.mk.inj h
      subst z2
      rw [z1]
      exact ck_W.arr harr (cw_ex (lw := true) hy hQ hnp hlw hone _ _ klw2_m652)
    rcases List.mem_cons.mp ha with h | ha
    · obtain ⟨z1, z2⟩ := Prod.mk.inj h
      subst z2
      rw [z1]
      exact ck_W.arr harr (cw_ex (lw := true) hy hQ hnp hlw hone _ _ klw2_m692)
    rcases List.mem_cons.mp ha with h | ha
    · obtain ⟨z1, z2⟩ := Prod.mk.inj h
      subst z2
      rw [z1]
      exact ck_W.arr harr (cw_ex (lw := true) hy hQ hnp hlw hone _ _ klw2_m732)
    rcases List.mem_cons.mp ha with h | ha
    · obtain ⟨z1, z2⟩ := Prod.mk.inj h
      subst z2
      rw [z1]
      exact ck_W.arr harr (cw_ex (lw := true) hy hQ hnp hlw hone _ _ klw2_m760)
    rcases List.mem_cons.mp ha with h | ha
    · obtain ⟨z1, z2⟩ := Prod.mk.inj h
      subst z2
      rw [z1]
      exact ck_W.arr harr (cw_ex (lw := true) hy hQ hnp hlw hone _ _ klw2_m773)
    rcases List.mem_cons.mp ha with h | ha
    · obtain ⟨z1, z2⟩ := Prod.mk.inj h
      subst z2
      rw [z1]
      exact ck_W.arr harr (cw_ex (lw := true) hy hQ hnp hlw hone _ _ klw2_m829)
    rcases List.mem_cons.mp ha with h | ha
    · obtain ⟨z1, z2⟩ := Prod.mk.inj h
      subst z2
      rw [z1]
      exact ck_W.arr harr (cw_ex (lw := true) hy hQ hnp hlw hone _ _ klw2_m842)
    rcases List.mem_cons.mp ha with h | ha
    · obtain ⟨z1, z2⟩ := Prod.mk.inj h
      subst z2
      rw [z1]
      exact ck_W.arr harr (cw_ex (lw := true) hy hQ hnp hlw hone _ _ klw2_m870)
    rcases List.mem_cons.mp ha with h | ha
    · obtain ⟨z1, z2⟩ := Prod.mk.inj h
      subst z2
      rw [z1]
      exact ck_W.arr harr (cw_ex (lw := true) hy hQ hnp hlw hone _ _ klw2_m910)
    rcases List.mem_cons.mp ha with h | ha
    · obtain ⟨z1, z2⟩ := Prod.mk.inj h
      subst z2
      rw [z1]
      exact ck_W.arr harr (cw_ex (lw := true) hy hQ hnp hlw hone _ _ klw2_m950)
    rcases List.mem_cons.mp ha with h | ha
    · obtain ⟨z1, z2⟩ := Prod.mk.inj h
      subst z2
      rw [z1]
      exact ck_W.arr harr (cw_ex (lw := true) hy hQ hnp hlw hone _ _ klw2_m990)
    cases ha
/-- from the entry, of one int or more -/
theorem lp_start {b : Nat} {vs : List Value} {ρ0 : Nat → Int} {N0 : List Nat} (htr : e.platform.stackTraces = false) (hn1 : 1 ≤ n) (hn2 : n ≤ 2561) (hc : 557 + 3 * 513 ≤ R.cells) (hs : 26186 + 18 * 513 ≤ R.slots) (hf : 9 ≤ R.frames) (hlo : 207 ≤ R.locals) (hB : ck_B p s m meth c klw_M) (hKf : ck_Kf D AC S L s n) (hargs : args = vs.toArray) (hv : ck_all (ck_R S ρ0 (fun _ => 0) N0) klw1_K.1 vs) (hH : ck_H D AC S kv_tab L ρ0 (fun _ => 0) N0 (ck_etag klw1_K.2.1) s.heap) :
    W p l e R s m args below meth c s.heap [] 0 0 (lp_Z below L (557 + 3 * 513) (26186 + 18 * 513) s) (entryFrame m args 8) := by
  have hy : ck_Hy p l e R s m meth c klw_M klw1_K ce_11 cm_ms klw1_c kv_tab (1, 2561) D AC S L kco_law := ⟨hB, htr, ⟨by show 6 ≤ _; omega, by show 94 ≤ _; omega, by show 557 ≤ _; omega, by show 26186 ≤ _; omega⟩, ⟨n, hn1, hn2, hKf⟩, ce_ok11, rfl, cm_ok, klw1_h, ce_glob, kco_law_ok⟩
  refine cw_entry (M := klw_M) (K := klw1_K) (wr := klw_wr) hB.2.2.1 hargs hv hH rfl (by decide) ?_
  refine cw_ex (lw := false) (al := []) hy (fun a ha => by cases ha) (by rw [hH.2.1]; exact ck_etX_len _ _) (fun h => by cases h) (fun y a ha harr => ?_) _ _ klw1_m
  obtain ⟨z1, z2⟩ := Prod.mk.inj (List.mem_singleton.mp ha)
  subst z2
  rw [z1]
  refine ck_W.arr harr ?_
  refine lp_go (b' := 1) (k := 512) (S := S) (n := n) (Or.inr rfl) lp_cv1 (Or.inl rfl) rfl hB hKf (by show 557 ≤ _; omega) (by show 26186 ≤ _; omega) (fun ρ2 G2 N2 v hρ hv => ?_) (fun {s} {R} {H} {ls} {ρ} {G} {N} {lv} a1 a2 a3 a4 a5 a6 a7 a8 a9 a10 => lp_loop htr hn1 hn2 512 (by omega) (by omega) (by omega) a1 a2 a3 a4 a5 a6 a7 a8 a9 a10) hc hs (by omega) (by omega)
  obtain ⟨y, ey, y1, y2, y3⟩ := hv
  refine ⟨y, ey, ?_⟩
  have h1 : (1 : Int) ≤ y.toInt := y1
  have h2 : y.toInt ≤ 1 := y2
  show y.toInt = ((1 : Nat) : Int)
  omega
end LP
