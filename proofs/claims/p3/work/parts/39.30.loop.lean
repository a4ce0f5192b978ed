/-! ===== the law's loop ===== -/
def gl_xD : List ck_C := [((2, 0), []), ((2, 0), []), ((2, 0), []), ((2, 0), []), ((2, 0), []), ((2, 0), []), ((2, 0), []), ((2, 0), []), ((2, 0), []), ((2, 0), []), ((2, 0), []), ((2, 0), []), ((2, 0), []), ((2, 0), []), ((2, 0), []), ((2, 0), []), ((2, 0), [])]
def gl_xK : ck_Ct := ([], gl_xD, [], .inl none, (0, 0, 0, 0))
def gl_xl : List (List ck_C × (Option ck_V ⊕ Nat)) := [(gl_xD, .inl (some (gv_i 1 1)))]
theorem gl_xm : gck_ex ce_11 gv_tab (1, 2561) false cm_ms [] [] kco_law glw_M gl_xK gl_xl [] [] [] none 5 (1047, ([], [], gl_xD), 0, 0) = true := by decide +kernel
def gl_Tr : List ck_C := [gc_71, gc_192, ((2, 0), []), ((2, 0), []), ((2, 0), []), ((2, 0), []), ((2, 0), []), gc_16, gc_16, gc_16, gc_16, gc_195, ((2, 0), []), gc_28, gc_29, ((1, 1), [gv_L])]
def gl_B (b : Nat) : ck_A := ([(0, gv_r 1 0), (1, gv_r 1 1), (2, gv_r 1 12), (3, gv_r 1 16), (4, .inl ((b : Int), (b : Int), none))], [], ((5, 2), []) :: gl_Tr)
theorem gl_sf : gv_tab.all ck_sfD = true := by decide +kernel
theorem gl_cv : ck_cvT [] [] gl_Tr gl_Tr = true := by decide +kernel
def gl_W (w : List (Int × Int × Nat)) : List ck_V := gv_F :: w.map (fun q => gv_g q.1 q.2.1 q.2.2 0)
def gl_SH : ck_A := ([(0, gv_r 1 0), (1, gv_r 1 1), (2, gv_r 1 12), (3, gv_r 1 16), (4, gv_g 1 2556 149 0)], [], ((6, 2), gl_W [(-2147483648, 2147483647, 144), (-2147483648, 2147483647, 145), (-2147483648, 2147483647, 146), (-2147483648, 2147483647, 147)]) :: gl_Tr)
def gl_SE : ck_A := ([(0, gv_r 1 0), (1, gv_r 1 1), (2, gv_r 1 12), (3, gv_r 1 16), (4, gv_g 6 2561 149 5)], [], ((6, 2), gl_W [(-2147483648, 2147483647, 144), (-2147483648, 2147483647, 145), (-2147483648, 2147483647, 146), (-2147483648, 2147483647, 147)]) :: gl_Tr)
theorem gl_eH : gl_SH = gp_h_B := rfl
theorem gl_eE : gl_SE = gs_7 := rfl
/-- where the script is read: from the b-th int on -/
def gl_S (S : Nat → Nat) (b : Nat) : Nat → Nat := fun j => if j = 3 then b else S j
section GL
variable {p : Program} {l : Launch} {e : Env} {R : Room} {s : State} {m : MethodId} {args : Array Value} {below : List Frame} {meth : Method} {c : Code}
variable {D : va_G} {AC : Nat → ClassId} {S : Nat → Nat} {L : Heap} {n : Nat}
theorem gl_fin {ρ0 : Nat → Int} {G0 : Nat → Nat} {N0 : List Nat} {ce sl : Nat} {wr : List Nat} {K : ck_Ct} {t : State} (hc : K.2.2.2.2.2.2.1 ≤ ce) (hs : K.2.2.2.2.2.2.2 ≤ sl) (hr : K.2.2.2.1 = .inl (some (gv_i 1 1))) (h : gck_Fin D AC S gv_tab L ρ0 wr G0 N0 K below s t) : gk_Z below L ce sl s t := by
  obtain ⟨o, a1, a2, a3, ⟨Ls, a4, a5⟩, ρ, G, N, b1, b2, b3, b4⟩ := h
  rw [hr] at b4
  obtain ⟨w, rfl, x, rfl, x1, x2, -⟩ := b4
  have hx : x = 1 := Int32.toInt_inj.mp (by
    have h1 : (1 : Int) ≤ x.toInt := x1
    have h2 : x.toInt ≤ 1 := x2
    show x.toInt = 1
    omega)
  subst hx
  exact ⟨_, a1, a2, rfl, a3, Ls, a4.weaken (fun q hq _ => hq) hc hs, a5⟩
/-- the loop goes on from here with the b-th int, k rounds at most -/
def gl_I (p : Program) (l : Launch) (e : Env) (m : MethodId) (args : Array Value) (below : List Frame) (meth : Method) (c : Code) (D : va_G) (AC : Nat → ClassId) (S : Nat → Nat) (L : Heap) (n k b : Nat) : Prop :=
  ∀ (s : State) (R : Room) (ls : Array Slot) (ρ : Nat → Int) (G : Nat → Nat) (N : List Nat) (d a : Nat) (r : Nat → Nat), 3 * (k + 1) ≤ R.cells → 18 * (k + 1) ≤ R.slots → 9 ≤ R.frames → 207 ≤ R.locals → ck_B p s m meth c glw_M → ck_Kf D AC S L s n → xk_St S L s → gk_S D AC S gv_tab L 8 ρ G N (gl_B b) s.heap ls [] → gr_R G s.heap d a r → gr_E s.heap a r →
    W p l e R s m args below meth c s.heap [] 0 0 (gk_Z below L (3 * (k + 1)) (18 * (k + 1)) s) (F0 m 33 ls [])
theorem gl_back {ρ : Nat → Int} {G : Nat → Nat} {N : List Nat} {H : Heap} {ls : Array Slot} {st : List Value} {b : Nat} (hb : ρ 149 = (b : Int)) (h : gk_S D AC (gl_S S b) gv_tab L 8 ρ G N gl_SE H ls st) : st = [] ∧ gk_S D AC S gv_tab L 8 ρ G N (gl_B (b + 5)) H ls [] := by
  obtain ⟨lv, i1, i2, i3, i4⟩ := h
  have hst : st = [] := by
    have := i3.1
    cases st with
    | nil => rfl
    | cons a b => simp [gl_SE] at this
  refine ⟨hst, lv, i1, ?_, ck_all.nil, ?_⟩
  · obtain ⟨w0, m0, rfl, r0, j0⟩ := i2.uncons
    obtain ⟨w1, m1, rfl, r1, j1⟩ := j0.uncons
    obtain ⟨w2, m2, rfl, r2, j2⟩ := j1.uncons
    obtain ⟨w3, m3, rfl, r3, j3⟩ := j2.uncons
    obtain ⟨w4, m4, rfl, r4, j4⟩ := j3.uncons
    have hm : m4 = [] := by
      have := j4.1
      cases m4 with
      | nil => rfl
      | cons a b => simp at this
    subst hm
    obtain ⟨x, ex, x1, x2, x3⟩ := r4.2
    have hx := x3 149 5 rfl
    rw [hb] at hx
    exact ck_all.cons ⟨r0.1, r0.2.ch rfl⟩ (ck_all.cons ⟨r1.1, r1.2.ch rfl⟩ (ck_all.cons ⟨r2.1, r2.2.ch rfl⟩ (ck_all.cons ⟨r3.1, r3.2.ch rfl⟩ (ck_all.cons ⟨r4.1, x, ex, by dsimp only; omega, by dsimp only; omega, fun g c q => by cases q⟩ ck_all.nil))))
  · refine i4.cvt gl_sf (Z := []) (D' := []) (fun g z hz => by cases hz) (fun g δ hδ => by cases hδ) gl_cv (fun a ha => ?_) rfl
    obtain ⟨e0, cell', z1, z2, z3⟩ := i4.2.2.1 0 _ a rfl ha
    exact ⟨e0, cell', z1, z2, fun k v hk => by simp at hk⟩
theorem gl_open {ρ : Nat → Int} {G : Nat → Nat} {N : List Nat} {H : Heap} {ls : Array Slot} {b : Nat} (hKf : ck_Kf D AC S L s n) (hb1 : 1 ≤ b) (hb2 : b + 5 ≤ n) (hn : n ≤ 2561) (h : gk_S D AC S gv_tab L 8 ρ G N (gl_B b) H ls []) : ∃ ρ' : Nat → Int, ρ' 149 = (b : Int) ∧ (∀ k, 1 ≤ k → k < 5 → -2147483648 ≤ ρ' (143 + k) ∧ ρ' (143 + k) ≤ 2147483647) ∧ gk_S D AC (gl_S S b) gv_tab L 8 ρ' G N gl_SH H ls [] := by
  obtain ⟨cell, c1, c2, c3, c4, c5, c6⟩ := hKf.sta (show 2 < 3 by omega)
  have c5 : cell.slots.size = n := c5
  obtain ⟨f, hf⟩ := Classical.axiomOfChoice (r := fun (k : Nat) (x : Int32) => k < n → cell.slots[k]? = some (.int x)) (fun k => by
    by_cases hk : k < n
    · obtain ⟨x, hx⟩ := c6 k hk
      exact ⟨x, fun _ => hx⟩
    · exact ⟨0, fun h => absurd h hk⟩)
  obtain ⟨lv, i1, i2, i3, i4⟩ := h
  refine ⟨fun g => if g = 149 then (b : Int) else (f (b + (g - 143))).toInt, rfl, fun k h1 h2 => ?_, lv, i1, ?_, ck_all.nil, ?_⟩
  · dsimp only
    rw [if_neg (by omega)]
    exact ck_i32 _
  · obtain ⟨w0, m0, rfl, r0, j0⟩ := i2.uncons
    obtain ⟨w1, m1, rfl, r1, j1⟩ := j0.uncons
    obtain ⟨w2, m2, rfl, r2, j2⟩ := j1.uncons
    obtain ⟨w3, m3, rfl, r3, j3⟩ := j2.uncons
    obtain ⟨w4, m4, rfl, r4, j4⟩ := j3.uncons
    have hm : m4 = [] := by
      have := j4.1
      cases m4 with
      | nil => rfl
      | cons a b => simp at this
    subst hm
    obtain ⟨x, ex, x1, x2, -⟩ := r4.2
    dsimp only at x1 x2
    refine ck_all.cons ⟨r0.1, r0.2.ch rfl⟩ (ck_all.cons ⟨r1.1, r1.2.ch rfl⟩ (ck_all.cons ⟨r2.1, r2.2.ch rfl⟩ (ck_all.cons ⟨r3.1, r3.2.ch rfl⟩ (ck_all.cons ⟨r4.1, x, ex, ?_, ?_, fun g c hg => ?_⟩ ck_all.nil))))
    · show (1 : Int) ≤ x.toInt
      omega
    · show x.toInt ≤ 2556
      omega
    · cases hg
      show x.toInt = (b : Int) + 0
      omega
  · refine i4.cvt gl_sf (Z := []) (D' := []) (fun g z hz => by cases hz) (fun g δ hδ => by cases hδ) gl_cv (fun a ha => ?_) rfl
    obtain ⟨e0, -⟩ := i4.2.2.1 0 _ a rfl ha
    have e0 : a = S 2 := e0
    subst e0
    refine ⟨rfl, cell, c1, c2, fun k v hv => ?_⟩
    have hk5 : k < 5 := by
      have := (List.getElem?_eq_some_iff.mp hv).1
      simpa [gl_W] using this
    refine ⟨.int (f (b + k)), hf (b + k) (by omega), ?_⟩
    match k, hk5, hv with
    | 0, _, hv =>
      cases hv
      exact ⟨f (b + 0), rfl, (ck_i32 _).1, (ck_i32 _).2, fun g c q => by cases q⟩
    | 1, _, hv =>
      cases hv
      exact ⟨f (b + 1), rfl, (ck_i32 _).1, (ck_i32 _).2, fun g c q => by cases q; show _ = _ + (0 : Int); rw [Int.add_zero]; rfl⟩
    | 2, _, hv =>
      cases hv
      exact ⟨f (b + 2), rfl, (ck_i32 _).1, (ck_i32 _).2, fun g c q => by cases q; show _ = _ + (0 : Int); rw [Int.add_zero]; rfl⟩
    | 3, _, hv =>
      cases hv
      exact ⟨f (b + 3), rfl, (ck_i32 _).1, (ck_i32 _).2, fun g c q => by cases q; show _ = _ + (0 : Int); rw [Int.add_zero]; rfl⟩
    | 4, _, hv =>
      cases hv
      exact ⟨f (b + 4), rfl, (ck_i32 _).1, (ck_i32 _).2, fun g c q => by cases q; show _ = _ + (0 : Int); rw [Int.add_zero]; rfl⟩
/-- what is known of the script's ints -/
theorem gl_nar {S' : Nat → Nat} {ρ : Nat → Int} {G : Nat → Nat} {N : List Nat} {H : Heap} {ls : Array Slot} {st : List Value} {A : List (Nat × ck_V)} {sk : List ck_V} {T : List ck_C} {w w' : List (Int × Int × Nat)} (hl : w'.length = w.length) (hw : ∀ (k : Nat) (q q' : Int × Int × Nat), w[k]? = some q → w'[k]? = some q' → q'.2.2 = q.2.2 ∧ q'.1 ≤ ρ q.2.2 ∧ ρ q.2.2 ≤ q'.2.1) (h : gk_S D AC S' gv_tab L 8 ρ G N (A, sk, ((6, 2), gl_W w) :: T) H ls st) : gk_S D AC S' gv_tab L 8 ρ G N (A, sk, ((6, 2), gl_W w') :: T) H ls st := by
  obtain ⟨lv, i1, i2, i3, i4⟩ := h
  refine ⟨lv, i1, i2, i3, i4.1, by rw [i4.2.1]; simp, fun i cc a hi ha => ?_, fun i j c1 c2 a hi hj o1 o2 n1 n2 => ?_⟩
  · cases i with
    | zero =>
      cases hi
      obtain ⟨e0, cell, z1, z2, z3⟩ := i4.2.2.1 0 _ a rfl ha
      refine ⟨e0, cell, z1, z2, fun k v hv => ?_⟩
      cases k with
      | zero =>
        cases hv
        exact z3 0 _ rfl
      | succ k =>
        have hv : (w'.map (fun q => gv_g q.1 q.2.1 q.2.2 0))[k]? = some v := by simpa [gl_W] using hv
        rw [List.getElem?_map] at hv
        obtain ⟨q', hq', rfl⟩ := Option.map_eq_some_iff.mp hv
        have hkl : k < w.length := by rw [← hl]; exact (List.getElem?_eq_some_iff.mp hq').1
        have hq : w[k]? = some w[k] := List.getElem?_eq_getElem hkl
        obtain ⟨u1, u2, u3⟩ := hw k _ q' hq hq'
        obtain ⟨wv, y1, x, y2, y3, y4, y5⟩ := z3 (k + 1) (gv_g w[k].1 w[k].2.1 w[k].2.2 0) (by show ((w.map (fun q => gv_g q.1 q.2.1 q.2.2 0)))[k]? = _; rw [List.getElem?_map, hq]; rfl)
        have y6 := y5 _ _ rfl
        refine ⟨wv, y1, x, y2, ?_, ?_, fun g c hg => ?_⟩
        · show q'.1 ≤ x.toInt
          omega
        · show x.toInt ≤ q'.2.1
          omega
        · cases hg
          rw [u1]
          exact y6
    | succ i => exact i4.2.2.1 (i + 1) cc a hi ha
  · cases i with
    | zero => cases hi; cases o1
    | succ i =>
      cases j with
      | zero => cases hj; cases o2
      | succ j => exact i4.2.2.2 (i + 1) (j + 1) c1 c2 a hi hj o1 o2 n1 n2
theorem gl_dec (pc : Nat) {i : Instr} {k : Nat} (h : ck_cdAt kco_law pc = some (i, k)) : decode code pc = .ok (i, k) := kco_law_ok pc i k h
/-- the loop's end -/
theorem gl_out {ρ : Nat → Int} {G : Nat → Nat} {N : List Nat} {ls : Array Slot} {b cZ sZ : Nat} (htr : e.platform.stackTraces = false) (h1 : 1 ≤ n) (h2 : n ≤ 2561) (hb1 : 1 ≤ b) (hb2 : b ≤ 2566) (hx : n < b + 5) (hB : ck_B p s m meth c glw_M) (hKf : ck_Kf D AC S L s n) (hS : gk_S D AC S gv_tab L 8 ρ G N (gl_B b) s.heap ls []) :
    W p l e R s m args below meth c s.heap [] 0 0 (gk_Z below L cZ sZ s) (F0 m 33 ls []) := by
  obtain ⟨lv, i1, i2, i3, i4⟩ := hS
  have hnp : N.length = 17 := i4.2.1
  have hexec := hB.1
  have hb := hB.2.1
  have key : gck_W p l e R s m args below meth c (gk_Z below L cZ sZ s) D AC S gv_tab L 8 ρ [] G N s.heap 33 (gl_B b) 0 0 := by
    refine gcw_load (i := 4) (pc2 := 35) (k := .inl ((b : Int), (b : Int), none)) rfl (fun {H} {ls} {rest} {locs} {ρ} {G} {N} {v} hl hv w => ?_) ?_
    · obtain ⟨x, rfl, -⟩ := hv
      exact lv_iload hexec hb (gl_dec 33 rfl) hl w
    refine gcw_load (i := 0) (pc2 := 36) (k := gv_r 1 0) rfl (fun {H} {ls} {rest} {locs} {ρ} {G} {N} {v} hl hv w => ?_) ?_
    · obtain ⟨a, -, rfl⟩ := hv
      exact lv_aload_n hexec hb (gl_dec 35 rfl) rfl hl w
    refine gcw_lenW (i := 0) (j := 2) (kd := 5) (n := n) (lo := (n : Int)) (hi' := (n : Int)) hexec hb (hKf.sta (show 2 < 3 by omega)) rfl (Or.inl rfl) (Int.le_refl _) (Int.le_refl _) (by omega) (gl_dec 36 rfl) ?_
    refine gcw_pushI (pc2 := 38) 5 5 rfl (fun w => lv_iconst hexec hb (gl_dec 37 rfl) rfl w) ?_
    refine gcw_op2 (pc2 := 39) (r := .inl ((n : Int) - 5, (n : Int) - 5, none)) (f := fun x y => x - y) (fun ρ x y hx hy => ?_) (fun _ _ w => lv_isub hexec hb (gl_dec 38 rfl) w) ?_
    · have := ck_sub_ok hx hy
      unfold ck_sub at this
      rw [if_pos (by unfold ck_iok; simp; omega)] at this
      exact this
    refine gcw_icmp (k := .gt) (tgt := 1047) hexec hb (gl_dec 39 rfl) (by rfl) (fun r hr => ?_) (fun r hr => ?_)
    · have hex := gcw_ex (Q := gk_Z below L cZ sZ s) (below := below) (R := R) (l := l) (K := gl_xK) (al := gl_xl) (cts := []) (lw := false) (ρ0 := ρ) (G0 := G) (N0 := N) (wr := []) (args := args) ⟨hB, htr, ⟨Nat.zero_le _, Nat.zero_le _, Nat.zero_le _, Nat.zero_le _⟩, ⟨n, h1, h2, hKf⟩, ce_ok11, rfl, cm_ok, (fun q hq => by cases hq), ce_glob, kco_law_ok⟩ (fun a ha t ht => by
          rw [gl_xl, List.mem_singleton] at ha
          subst ha
          exact gl_fin (Nat.zero_le _) (Nat.zero_le _) rfl ht) (by rw [hnp]; rfl) (fun h => by cases h) (fun y a ha _ => by cases ha) _ _ gl_xm
      intro H ls st locs hs
      exact hex H ls st locs (hs.le (by rfl))
    · exfalso
      have hn : ck_ref (ck_neg .gt) ((b : Int), (b : Int)) ((n : Int) - 5, (n : Int) - 5) = none := by
        unfold ck_ref
        dsimp only [ck_neg]
        exact if_neg (fun hc => by
          have h8 := ck_min_r (b : Int) ((n : Int) - 5)
          have h9 := hc.1
          omega)
      have e : (none : Option ((Int × Int) × (Int × Int))) = some r := hn.symm.trans hr
      cases e
  exact key s.heap ls [] [] ⟨ρ, G, N, lv, i1, i2, i3, i4, gck_F.refl i4.2.1 (fun q hq => i4.zero hq), (fun q hq => by cases hq), fun _ _ _ => rfl⟩
/-- once round, in case c: where its ints are in range -/
def gl_In (p : Program) (l : Launch) (e : Env) (m : MethodId) (args : Array Value) (below : List Frame) (meth : Method) (c : Code) (D : va_G) (AC : Nat → ClassId) (S : Nat → Nat) (L : Heap) (n : Nat) (pc : Nat) (B : ck_A) : Prop :=
  ∀ (k b : Nat) (s : State) (R : Room) (ls : Array Slot) (ρ : Nat → Int) (G : Nat → Nat) (N : List Nat) (d a : Nat) (r : Nat → Nat), gl_I p l e m args below meth c D AC S L n k (b + 5) → 3 * (k + 1 + 1) ≤ R.cells → 18 * (k + 1 + 1) ≤ R.slots → 9 ≤ R.frames → 207 ≤ R.locals → ck_B p s m meth c glw_M → ck_Kf D AC S L s n → xk_St S L s → ρ 149 = (b : Int) → b + 5 ≤ n → gk_S D AC (gl_S S b) gv_tab L 8 ρ G N B s.heap ls [] → gr_R G s.heap d a r → gr_E s.heap a r →
    W p l e R s m args below meth c s.heap [] 0 0 (gk_Z below L (3 * (k + 1 + 1)) (18 * (k + 1 + 1)) s) (F0 m pc ls [])
/-- a piece that comes back to the head -/
theorem gl_pc {K : ck_Ct} {cts : List (Nat × ck_Kt)} {wr : List Nat} {f pc ce sl k b : Nat} {B : ck_A} {ls : Array Slot} {st : List Value} {ρ : Nat → Int} {G : Nat → Nat} {N : List Nat} {d a : Nat} {r : Nat → Nat} (htr : e.platform.stackTraces = false) (hn1 : 1 ≤ n) (hn2 : n ≤ 2561) (ih : gl_I p l e m args below meth c D AC S L n k (b + 5)) (hc : 3 * (k + 1 + 1) ≤ R.cells) (hs : 18 * (k + 1 + 1) ≤ R.slots) (hf : 9 ≤ R.frames) (hlo : 207 ≤ R.locals) (hB : ck_B p s m meth c glw_M) (hKf : ck_Kf D AC S L s n) (hSt : xk_St S L s) (hρ : ρ 149 = (b : Int)) (hK : (decide (K.2.2.2.2.1 ≤ 9) && decide (K.2.2.2.2.2.1 ≤ 207) && decide (K.2.2.2.2.2.2.1 ≤ 3) && decide (K.2.2.2.2.2.2.2 ≤ 18) && decide (ce ≤ K.2.2.2.2.2.2.1) && decide (sl ≤ K.2.2.2.2.2.2.2) && gr_wk wr && gr_we wr) = true)
    (hcts : ∀ q ∈ cts, ∃ M' : ck_MM, cm_ms[q.1]? = some M' ∧ gck_Ok l gv_tab (1, 2561) M'.1 q.2) (hnp : B.2.2.length = K.2.1.length) (hex : gck_ex ce_11 gv_tab (1, 2561) true cm_ms cts [] kco_law glw_M K [] wr [] [(33, (gl_SE, (0, []), ce, sl))] none f (pc, B, 0, 0) = true) (hS : gk_S D AC (gl_S S b) gv_tab L 8 ρ G N B s.heap ls st) (hR : gr_R G s.heap d a r) (hE : gr_E s.heap a r) :
    W p l e R s m args below meth c s.heap [] 0 0 (gk_Z below L (3 * (k + 1 + 1)) (18 * (k + 1 + 1)) s) (F0 m pc ls st) := by
  simp only [Bool.and_eq_true, decide_eq_true_eq] at hK
  obtain ⟨⟨⟨⟨⟨⟨⟨k1, k2⟩, k3⟩, k4⟩, k5⟩, k6⟩, k7⟩, k8⟩ := hK
  have hz : ∀ q, s.heap.size ≤ q → G q = 0 := by
    obtain ⟨lv, -, -, -, i4⟩ := hS
    exact fun q hq => i4.zero hq
  refine gk_piece (M := glw_M) (S := gl_S S b) (n := n) (al := []) hB htr ⟨by omega, by omega, by omega, by omega⟩ hn1 hn2 hKf ce_ok11 rfl cm_ok hcts ce_glob kco_law_ok (fun a ha => by cases ha) hnp (fun _ => hρ) (by simp [k5, k6]) hex hS (fun a' ha' s' ls' st' ρ' G' N' hW hS' hF hρ' => ?_)
  rw [List.mem_singleton] at ha'
  subst ha'
  obtain ⟨rfl, hS2⟩ := gl_back (by rw [hρ' 149 (by omega) (by omega)]; exact hρ) hS'
  refine ⟨3 * (k + 1), 18 * (k + 1), ?_, ?_, ?_⟩
  · show ce + 3 * (k + 1) ≤ 3 * (k + 1 + 1)
    omega
  · show sl + 18 * (k + 1) ≤ 18 * (k + 1 + 1)
    omega
  · exact ih s' _ ls' ρ' G' N' d a r (by show _ ≤ R.cells - ce; omega) (by show _ ≤ R.slots - sl; omega) hf hlo (gk_Bmv hB hW) (hKf.moved hW) (hSt.moved hW.alike) hS2 (hR.keep hF hz k7) (hE.keep hF hz k8 hR)
def gl_w4 : List (Int × Int × Nat) := [(-2147483648, 2147483647, 144), (-2147483648, 2147483647, 145), (-2147483648, 2147483647, 146), (-2147483648, 2147483647, 147)]
theorem gl_nar4 {ρ : Nat → Int} {a1 b1 a2 b2 a3 b3 a4 b4 : Int} (hw : ∀ k, 1 ≤ k → k < 5 → -2147483648 ≤ ρ (143 + k) ∧ ρ (143 + k) ≤ 2147483647) (h1 : (-2147483648 ≤ ρ 144 ∧ ρ 144 ≤ 2147483647) → a1 ≤ ρ 144 ∧ ρ 144 ≤ b1) (h2 : (-2147483648 ≤ ρ 145 ∧ ρ 145 ≤ 2147483647) → a2 ≤ ρ 145 ∧ ρ 145 ≤ b2) (h3 : (-2147483648 ≤ ρ 146 ∧ ρ 146 ≤ 2147483647) → a3 ≤ ρ 146 ∧ ρ 146 ≤ b3) (h4 : (-2147483648 ≤ ρ 147 ∧ ρ 147 ≤ 2147483647) → a4 ≤ ρ 147 ∧ ρ 147 ≤ b4) :
    ∀ (k : Nat) (q q' : Int × Int × Nat), gl_w4[k]? = some q → [(a1, b1, 144), (a2, b2, 145), (a3, b3, 146), (a4, b4, 147)][k]? = some q' → q'.2.2 = q.2.2 ∧ q'.1 ≤ ρ q.2.2 ∧ ρ q.2.2 ≤ q'.2.1 := by
  intro k q q' hq hq'
  have w1 := h1 (hw 1 (by omega) (by omega))
  have w2 := h2 (hw 2 (by omega) (by omega))
  have w3 := h3 (hw 3 (by omega) (by omega))
  have w4 := h4 (hw 4 (by omega) (by omega))
  match k, hq, hq' with
  | 0, hq, hq' => cases hq; cases hq'; exact ⟨rfl, w1⟩
  | 1, hq, hq' => cases hq; cases hq'; exact ⟨rfl, w2⟩
  | 2, hq, hq' => cases hq; cases hq'; exact ⟨rfl, w3⟩
  | 3, hq, hq' => cases hq; cases hq'; exact ⟨rfl, w4⟩
  | k + 4, hq, _ => simp [gl_w4] at hq
theorem gl_loop (htr : e.platform.stackTraces = false) (hn1 : 1 ≤ n) (hn2 : n ≤ 2561) (hin0 : gl_In p l e m args below meth c D AC S L n 148 gp_i0_1_B) (hin1 : gl_In p l e m args below meth c D AC S L n 229 gp_i1_1_B) (hin2 : gl_In p l e m args below meth c D AC S L n 296 gp_i2_1_B) (hin3 : gl_In p l e m args below meth c D AC S L n 345 gp_i3_1_B) (hin4 : gl_In p l e m args below meth c D AC S L n 394 gp_i4_1_B) : ∀ (k b : Nat), 1 ≤ b → b ≤ 2566 → n < b + 5 * k + 5 → gl_I p l e m args below meth c D AC S L n k b := by
  intro k
  induction k with
  | zero =>
    intro b hb1 hb2 hk s R ls ρ G N d a r hc hs hf hlo hB hKf hSt hS hR hE
    exact gl_out htr hn1 hn2 hb1 hb2 (by omega) hB hKf hS
  | succ k ih0 =>
    intro b hb1 hb2 hk s R ls ρ G N d a r hc hs hf hlo hB hKf hSt hS hR hE
    by_cases hx : n < b + 5
    · exact gl_out htr hn1 hn2 hb1 hb2 hx hB hKf hS
    have ih : gl_I p l e m args below meth c D AC S L n k (b + 5) := ih0 (b + 5) (by omega) (by omega) (by omega)
    obtain ⟨ρ1, g1, g2, hS1⟩ := gl_open hKf hb1 (by omega) hn2 hS
    have hz : ∀ q, s.heap.size ≤ q → G q = 0 := by
      obtain ⟨lv, -, -, -, i4⟩ := hS
      exact fun q hq => i4.zero hq
    refine gk_piece (M := glw_M) (S := gl_S S b) (n := n) hB htr ⟨by show 0 ≤ _; omega, by show 0 ≤ _; omega, by show 0 ≤ _; omega, by show 0 ≤ _; omega⟩ hn1 hn2 hKf ce_ok11 rfl cm_ok gp_h_h ce_glob kco_law_ok (fun a ha t ht => ?_) rfl (fun _ => g1) (by decide) gp_h_m (by rw [← gl_eH]; exact hS1) (fun a' ha' s' ls' st' ρ' G' N' hW hS' hF hρ' => ?_)
    · rw [gp_h_l, List.mem_singleton] at ha
      subst ha
      exact gl_fin (by show 0 ≤ _; omega) (by show 0 ≤ _; omega) rfl ht
    have hρ1 : ρ' 149 = (b : Int) := by rw [hρ' 149 (by omega) (by omega)]; exact g1
    have hw : ∀ k, 1 ≤ k → k < 5 → -2147483648 ≤ ρ' (143 + k) ∧ ρ' (143 + k) ≤ 2147483647 := fun k q1 q2 => by
      rw [hρ' (143 + k) (by omega) (by omega)]
      exact g2 k q1 q2
    have hR' := hR.keep hF hz rfl
    have hE' := hE.keep hF hz rfl hR
    have hB' := gk_Bmv hB hW
    have hKf' := hKf.moved hW
    have hSt' := hSt.moved hW.alike
    rw [gp_h_n] at ha'
    rcases List.mem_cons.mp ha' with h | ha'
    · subst h
      obtain ⟨rfl, hS2⟩ := gl_back hρ1 (by rw [gl_eE]; exact hS')
      exact ⟨3 * (k + 1), 18 * (k + 1), by show 0 + _ ≤ _; omega, by show 0 + _ ≤ _; omega, ih s' _ ls' ρ' G' N' d a r (by show _ ≤ R.cells - 0; omega) (by show _ ≤ R.slots - 0; omega) hf hlo hB' hKf' hSt' hS2 hR' hE'⟩
    rcases List.mem_cons.mp ha' with h | ha'
    · subst h
      have hst : st' = [] := by
        obtain ⟨lv, -, -, i3, -⟩ := hS'
        have := i3.1
        cases st' with
        | nil => rfl
        | cons a b => simp [gs_8] at this
      subst hst
      refine ⟨3 * (k + 1 + 1), 18 * (k + 1 + 1), by show 0 + _ ≤ _; omega, by show 0 + _ ≤ _; omega, ?_⟩
      by_cases h1 : ρ' 144 < 0
      · exact gl_pc (S := S) (K := gp_o0_0a_K) (cts := gp_o0_0a_c) (wr := gp_o0_0a_w) (B := gp_o0_0a_B) (r := r) htr hn1 hn2 ih (by show _ ≤ R.cells - 0; omega) (by show _ ≤ R.slots - 0; omega) hf hlo hB' hKf' hSt' hρ1 (by decide) gp_o0_0a_h rfl gp_o0_0a_m (gl_nar (w := gl_w4) (w' := [(-2147483648, -1, 144), (-2147483648, 2147483647, 145), (-2147483648, 2147483647, 146), (-2147483648, 2147483647, 147)]) rfl (gl_nar4 hw (by omega) (by omega) (by omega) (by omega)) hS') hR' hE'
      by_cases h2 : 3 < ρ' 144
      · exact gl_pc (S := S) (K := gp_o0_0b_K) (cts := gp_o0_0b_c) (wr := gp_o0_0b_w) (B := gp_o0_0b_B) (r := r) htr hn1 hn2 ih (by show _ ≤ R.cells - 0; omega) (by show _ ≤ R.slots - 0; omega) hf hlo hB' hKf' hSt' hρ1 (by decide) gp_o0_0b_h rfl gp_o0_0b_m (gl_nar (w := gl_w4) (w' := [(4, 2147483647, 144), (-2147483648, 2147483647, 145), (-2147483648, 2147483647, 146), (-2147483648, 2147483647, 147)]) rfl (gl_nar4 hw (by omega) (by omega) (by omega) (by omega)) hS') hR' hE'
      by_cases h3 : ρ' 145 < 0
      · exact gl_pc (S := S) (K := gp_o0_1a_K) (cts := gp_o0_1a_c) (wr := gp_o0_1a_w) (B := gp_o0_1a_B) (r := r) htr hn1 hn2 ih (by show _ ≤ R.cells - 0; omega) (by show _ ≤ R.slots - 0; omega) hf hlo hB' hKf' hSt' hρ1 (by decide) gp_o0_1a_h rfl gp_o0_1a_m (gl_nar (w := gl_w4) (w' := [(0, 3, 144), (-2147483648, -1, 145), (-2147483648, 2147483647, 146), (-2147483648, 2147483647, 147)]) rfl (gl_nar4 hw (by omega) (by omega) (by omega) (by omega)) hS') hR' hE'
      by_cases h4 : 3 < ρ' 145
      · exact gl_pc (S := S) (K := gp_o0_1b_K) (cts := gp_o0_1b_c) (wr := gp_o0_1b_w) (B := gp_o0_1b_B) (r := r) htr hn1 hn2 ih (by show _ ≤ R.cells - 0; omega) (by show _ ≤ R.slots - 0; omega) hf hlo hB' hKf' hSt' hρ1 (by decide) gp_o0_1b_h rfl gp_o0_1b_m (gl_nar (w := gl_w4) (w' := [(0, 3, 144), (4, 2147483647, 145), (-2147483648, 2147483647, 146), (-2147483648, 2147483647, 147)]) rfl (gl_nar4 hw (by omega) (by omega) (by omega) (by omega)) hS') hR' hE'
      exact hin0 k b s' _ ls' ρ' G' N' d a r ih (by show _ ≤ R.cells - 0; omega) (by show _ ≤ R.slots - 0; omega) hf hlo hB' hKf' hSt' hρ1 (by omega) (gl_nar (w := gl_w4) (w' := [(0, 3, 144), (0, 3, 145), (-2147483648, 2147483647, 146), (-2147483648, 2147483647, 147)]) rfl (gl_nar4 hw (by omega) (by omega) (by omega) (by omega)) hS') hR' hE'
    rcases List.mem_cons.mp ha' with h | ha'
    · subst h
      have hst : st' = [] := by
        obtain ⟨lv, -, -, i3, -⟩ := hS'
        have := i3.1
        cases st' with
        | nil => rfl
        | cons a b => simp [gs_9] at this
      subst hst
      refine ⟨3 * (k + 1 + 1), 18 * (k + 1 + 1), by show 0 + _ ≤ _; omega, by show 0 + _ ≤ _; omega, ?_⟩
      by_cases h1 : ρ' 144 < 0
      · exact gl_pc (S := S) (K := gp_o1_0a_K) (cts := gp_o1_0a_c) (wr := gp_o1_0a_w) (B := gp_o1_0a_B) (r := r) htr hn1 hn2 ih (by show _ ≤ R.cells - 0; omega) (by show _ ≤ R.slots - 0; omega) hf hlo hB' hKf' hSt' hρ1 (by decide) gp_o1_0a_h rfl gp_o1_0a_m (gl_nar (w := gl_w4) (w' := [(-2147483648, -1, 144), (-2147483648, 2147483647, 145), (-2147483648, 2147483647, 146), (-2147483648, 2147483647, 147)]) rfl (gl_nar4 hw (by omega) (by omega) (by omega) (by omega)) hS') hR' hE'
      by_cases h2 : 3 < ρ' 144
      · exact gl_pc (S := S) (K := gp_o1_0b_K) (cts := gp_o1_0b_c) (wr := gp_o1_0b_w) (B := gp_o1_0b_B) (r := r) htr hn1 hn2 ih (by show _ ≤ R.cells - 0; omega) (by show _ ≤ R.slots - 0; omega) hf hlo hB' hKf' hSt' hρ1 (by decide) gp_o1_0b_h rfl gp_o1_0b_m (gl_nar (w := gl_w4) (w' := [(4, 2147483647, 144), (-2147483648, 2147483647, 145), (-2147483648, 2147483647, 146), (-2147483648, 2147483647, 147)]) rfl (gl_nar4 hw (by omega) (by omega) (by omega) (by omega)) hS') hR' hE'
      by_cases h3 : ρ' 145 < 0
      · exact gl_pc (S := S) (K := gp_o1_1a_K) (cts := gp_o1_1a_c) (wr := gp_o1_1a_w) (B := gp_o1_1a_B) (r := r) htr hn1 hn2 ih (by show _ ≤ R.cells - 0; omega) (by show _ ≤ R.slots - 0; omega) hf hlo hB' hKf' hSt' hρ1 (by decide) gp_o1_1a_h rfl gp_o1_1a_m (gl_nar (w := gl_w4) (w' := [(0, 3, 144), (-2147483648, -1, 145), (-2147483648, 2147483647, 146), (-2147483648, 2147483647, 147)]) rfl (gl_nar4 hw (by omega) (by omega) (by omega) (by omega)) hS') hR' hE'
      by_cases h4 : 3 < ρ' 145
      · exact gl_pc (S := S) (K := gp_o1_1b_K) (cts := gp_o1_1b_c) (wr := gp_o1_1b_w) (B := gp_o1_1b_B) (r := r) htr hn1 hn2 ih (by show _ ≤ R.cells - 0; omega) (by show _ ≤ R.slots - 0; omega) hf hlo hB' hKf' hSt' hρ1 (by decide) gp_o1_1b_h rfl gp_o1_1b_m (gl_nar (w := gl_w4) (w' := [(0, 3, 144), (4, 2147483647, 145), (-2147483648, 2147483647, 146), (-2147483648, 2147483647, 147)]) rfl (gl_nar4 hw (by omega) (by omega) (by omega) (by omega)) hS') hR' hE'
      exact hin1 k b s' _ ls' ρ' G' N' d a r ih (by show _ ≤ R.cells - 0; omega) (by show _ ≤ R.slots - 0; omega) hf hlo hB' hKf' hSt' hρ1 (by omega) (gl_nar (w := gl_w4) (w' := [(0, 3, 144), (0, 3, 145), (-2147483648, 2147483647, 146), (-2147483648, 2147483647, 147)]) rfl (gl_nar4 hw (by omega) (by omega) (by omega) (by omega)) hS') hR' hE'
    rcases List.mem_cons.mp ha' with h | ha'
    · subst h
      have hst : st' = [] := by
        obtain ⟨lv, -, -, i3, -⟩ := hS'
        have := i3.1
        cases st' with
        | nil => rfl
        | cons a b => simp [gs_10] at this
      subst hst
      refine ⟨3 * (k + 1 + 1), 18 * (k + 1 + 1), by show 0 + _ ≤ _; omega, by show 0 + _ ≤ _; omega, ?_⟩
      by_cases h1 : ρ' 144 < 0
      · exact gl_pc (S := S) (K := gp_o2_0a_K) (cts := gp_o2_0a_c) (wr := gp_o2_0a_w) (B := gp_o2_0a_B) (r := r) htr hn1 hn2 ih (by show _ ≤ R.cells - 0; omega) (by show _ ≤ R.slots - 0; omega) hf hlo hB' hKf' hSt' hρ1 (by decide) gp_o2_0a_h rfl gp_o2_0a_m (gl_nar (w := gl_w4) (w' := [(-2147483648, -1, 144), (-2147483648, 2147483647, 145), (-2147483648, 2147483647, 146), (-2147483648, 2147483647, 147)]) rfl (gl_nar4 hw (by omega) (by omega) (by omega) (by omega)) hS') hR' hE'
      by_cases h2 : 3 < ρ' 144
      · exact gl_pc (S := S) (K := gp_o2_0b_K) (cts := gp_o2_0b_c) (wr := gp_o2_0b_w) (B := gp_o2_0b_B) (r := r) htr hn1 hn2 ih (by show _ ≤ R.cells - 0; omega) (by show _ ≤ R.slots - 0; omega) hf hlo hB' hKf' hSt' hρ1 (by decide) gp_o2_0b_h rfl gp_o2_0b_m (gl_nar (w := gl_w4) (w' := [(4, 2147483647, 144), (-2147483648, 2147483647, 145), (-2147483648, 2147483647, 146), (-2147483648, 2147483647, 147)]) rfl (gl_nar4 hw (by omega) (by omega) (by omega) (by omega)) hS') hR' hE'
      by_cases h3 : ρ' 145 < 0
      · exact gl_pc (S := S) (K := gp_o2_1a_K) (cts := gp_o2_1a_c) (wr := gp_o2_1a_w) (B := gp_o2_1a_B) (r := r) htr hn1 hn2 ih (by show _ ≤ R.cells - 0; omega) (by show _ ≤ R.slots - 0; omega) hf hlo hB' hKf' hSt' hρ1 (by decide) gp_o2_1a_h rfl gp_o2_1a_m (gl_nar (w := gl_w4) (w' := [(0, 3, 144), (-2147483648, -1, 145), (-2147483648, 2147483647, 146), (-2147483648, 2147483647, 147)]) rfl (gl_nar4 hw (by omega) (by omega) (by omega) (by omega)) hS') hR' hE'
      by_cases h4 : 3 < ρ' 145
      · exact gl_pc (S := S) (K := gp_o2_1b_K) (cts := gp_o2_1b_c) (wr := gp_o2_1b_w) (B := gp_o2_1b_B) (r := r) htr hn1 hn2 ih (by show _ ≤ R.cells - 0; omega) (by show _ ≤ R.slots - 0; omega) hf hlo hB' hKf' hSt' hρ1 (by decide) gp_o2_1b_h rfl gp_o2_1b_m (gl_nar (w := gl_w4) (w' := [(0, 3, 144), (4, 2147483647, 145), (-2147483648, 2147483647, 146), (-2147483648, 2147483647, 147)]) rfl (gl_nar4 hw (by omega) (by omega) (by omega) (by omega)) hS') hR' hE'
      by_cases h5 : ρ' 146 < 0
      · exact gl_pc (S := S) (K := gp_o2_2a_K) (cts := gp_o2_2a_c) (wr := gp_o2_2a_w) (B := gp_o2_2a_B) (r := r) htr hn1 hn2 ih (by show _ ≤ R.cells - 0; omega) (by show _ ≤ R.slots - 0; omega) hf hlo hB' hKf' hSt' hρ1 (by decide) gp_o2_2a_h rfl gp_o2_2a_m (gl_nar (w := gl_w4) (w' := [(0, 3, 144), (0, 3, 145), (-2147483648, -1, 146), (-2147483648, 2147483647, 147)]) rfl (gl_nar4 hw (by omega) (by omega) (by omega) (by omega)) hS') hR' hE'
      by_cases h6 : 3 < ρ' 146
      · exact gl_pc (S := S) (K := gp_o2_2b_K) (cts := gp_o2_2b_c) (wr := gp_o2_2b_w) (B := gp_o2_2b_B) (r := r) htr hn1 hn2 ih (by show _ ≤ R.cells - 0; omega) (by show _ ≤ R.slots - 0; omega) hf hlo hB' hKf' hSt' hρ1 (by decide) gp_o2_2b_h rfl gp_o2_2b_m (gl_nar (w := gl_w4) (w' := [(0, 3, 144), (0, 3, 145), (4, 2147483647, 146), (-2147483648, 2147483647, 147)]) rfl (gl_nar4 hw (by omega) (by omega) (by omega) (by omega)) hS') hR' hE'
      exact hin2 k b s' _ ls' ρ' G' N' d a r ih (by show _ ≤ R.cells - 0; omega) (by show _ ≤ R.slots - 0; omega) hf hlo hB' hKf' hSt' hρ1 (by omega) (gl_nar (w := gl_w4) (w' := [(0, 3, 144), (0, 3, 145), (0, 3, 146), (-2147483648, 2147483647, 147)]) rfl (gl_nar4 hw (by omega) (by omega) (by omega) (by omega)) hS') hR' hE'
    rcases List.mem_cons.mp ha' with h | ha'
    · subst h
      have hst : st' = [] := by
        obtain ⟨lv, -, -, i3, -⟩ := hS'
        have := i3.1
        cases st' with
        | nil => rfl
        | cons a b => simp [gs_11] at this
      subst hst
      refine ⟨3 * (k + 1 + 1), 18 * (k + 1 + 1), by show 0 + _ ≤ _; omega, by show 0 + _ ≤ _; omega, ?_⟩
      by_cases h1 : ρ' 144 < 0
      · exact gl_pc (S := S) (K := gp_o3_0a_K) (cts := gp_o3_0a_c) (wr := gp_o3_0a_w) (B := gp_o3_0a_B) (r := r) htr hn1 hn2 ih (by show _ ≤ R.cells - 0; omega) (by show _ ≤ R.slots - 0; omega) hf hlo hB' hKf' hSt' hρ1 (by decide) gp_o3_0a_h rfl gp_o3_0a_m (gl_nar (w := gl_w4) (w' := [(-2147483648, -1, 144), (-2147483648, 2147483647, 145), (-2147483648, 2147483647, 146), (-2147483648, 2147483647, 147)]) rfl (gl_nar4 hw (by omega) (by omega) (by omega) (by omega)) hS') hR' hE'
      by_cases h2 : 3 < ρ' 144
      · exact gl_pc (S := S) (K := gp_o3_0b_K) (cts := gp_o3_0b_c) (wr := gp_o3_0b_w) (B := gp_o3_0b_B) (r := r) htr hn1 hn2 ih (by show _ ≤ R.cells - 0; omega) (by show _ ≤ R.slots - 0; omega) hf hlo hB' hKf' hSt' hρ1 (by decide) gp_o3_0b_h rfl gp_o3_0b_m (gl_nar (w := gl_w4) (w' := [(4, 2147483647, 144), (-2147483648, 2147483647, 145), (-2147483648, 2147483647, 146), (-2147483648, 2147483647, 147)]) rfl (gl_nar4 hw (by omega) (by omega) (by omega) (by omega)) hS') hR' hE'
      by_cases h3 : ρ' 145 < 0
      · exact gl_pc (S := S) (K := gp_o3_1a_K) (cts := gp_o3_1a_c) (wr := gp_o3_1a_w) (B := gp_o3_1a_B) (r := r) htr hn1 hn2 ih (by show _ ≤ R.cells - 0; omega) (by show _ ≤ R.slots - 0; omega) hf hlo hB' hKf' hSt' hρ1 (by decide) gp_o3_1a_h rfl gp_o3_1a_m (gl_nar (w := gl_w4) (w' := [(0, 3, 144), (-2147483648, -1, 145), (-2147483648, 2147483647, 146), (-2147483648, 2147483647, 147)]) rfl (gl_nar4 hw (by omega) (by omega) (by omega) (by omega)) hS') hR' hE'
      by_cases h4 : 3 < ρ' 145
      · exact gl_pc (S := S) (K := gp_o3_1b_K) (cts := gp_o3_1b_c) (wr := gp_o3_1b_w) (B := gp_o3_1b_B) (r := r) htr hn1 hn2 ih (by show _ ≤ R.cells - 0; omega) (by show _ ≤ R.slots - 0; omega) hf hlo hB' hKf' hSt' hρ1 (by decide) gp_o3_1b_h rfl gp_o3_1b_m (gl_nar (w := gl_w4) (w' := [(0, 3, 144), (4, 2147483647, 145), (-2147483648, 2147483647, 146), (-2147483648, 2147483647, 147)]) rfl (gl_nar4 hw (by omega) (by omega) (by omega) (by omega)) hS') hR' hE'
      by_cases h5 : ρ' 146 < 0
      · exact gl_pc (S := S) (K := gp_o3_2a_K) (cts := gp_o3_2a_c) (wr := gp_o3_2a_w) (B := gp_o3_2a_B) (r := r) htr hn1 hn2 ih (by show _ ≤ R.cells - 0; omega) (by show _ ≤ R.slots - 0; omega) hf hlo hB' hKf' hSt' hρ1 (by decide) gp_o3_2a_h rfl gp_o3_2a_m (gl_nar (w := gl_w4) (w' := [(0, 3, 144), (0, 3, 145), (-2147483648, -1, 146), (-2147483648, 2147483647, 147)]) rfl (gl_nar4 hw (by omega) (by omega) (by omega) (by omega)) hS') hR' hE'
      by_cases h6 : 3 < ρ' 146
      · exact gl_pc (S := S) (K := gp_o3_2b_K) (cts := gp_o3_2b_c) (wr := gp_o3_2b_w) (B := gp_o3_2b_B) (r := r) htr hn1 hn2 ih (by show _ ≤ R.cells - 0; omega) (by show _ ≤ R.slots - 0; omega) hf hlo hB' hKf' hSt' hρ1 (by decide) gp_o3_2b_h rfl gp_o3_2b_m (gl_nar (w := gl_w4) (w' := [(0, 3, 144), (0, 3, 145), (4, 2147483647, 146), (-2147483648, 2147483647, 147)]) rfl (gl_nar4 hw (by omega) (by omega) (by omega) (by omega)) hS') hR' hE'
      exact hin3 k b s' _ ls' ρ' G' N' d a r ih (by show _ ≤ R.cells - 0; omega) (by show _ ≤ R.slots - 0; omega) hf hlo hB' hKf' hSt' hρ1 (by omega) (gl_nar (w := gl_w4) (w' := [(0, 3, 144), (0, 3, 145), (0, 3, 146), (-2147483648, 2147483647, 147)]) rfl (gl_nar4 hw (by omega) (by omega) (by omega) (by omega)) hS') hR' hE'
    rcases List.mem_cons.mp ha' with h | ha'
    · subst h
      have hst : st' = [] := by
        obtain ⟨lv, -, -, i3, -⟩ := hS'
        have := i3.1
        cases st' with
        | nil => rfl
        | cons a b => simp [gs_12] at this
      subst hst
      refine ⟨3 * (k + 1 + 1), 18 * (k + 1 + 1), by show 0 + _ ≤ _; omega, by show 0 + _ ≤ _; omega, ?_⟩
      by_cases h1 : ρ' 144 < 0
      · exact gl_pc (S := S) (K := gp_o4_0a_K) (cts := gp_o4_0a_c) (wr := gp_o4_0a_w) (B := gp_o4_0a_B) (r := r) htr hn1 hn2 ih (by show _ ≤ R.cells - 0; omega) (by show _ ≤ R.slots - 0; omega) hf hlo hB' hKf' hSt' hρ1 (by decide) gp_o4_0a_h rfl gp_o4_0a_m (gl_nar (w := gl_w4) (w' := [(-2147483648, -1, 144), (-2147483648, 2147483647, 145), (-2147483648, 2147483647, 146), (-2147483648, 2147483647, 147)]) rfl (gl_nar4 hw (by omega) (by omega) (by omega) (by omega)) hS') hR' hE'
      by_cases h2 : 128 < ρ' 144
      · exact gl_pc (S := S) (K := gp_o4_0b_K) (cts := gp_o4_0b_c) (wr := gp_o4_0b_w) (B := gp_o4_0b_B) (r := r) htr hn1 hn2 ih (by show _ ≤ R.cells - 0; omega) (by show _ ≤ R.slots - 0; omega) hf hlo hB' hKf' hSt' hρ1 (by decide) gp_o4_0b_h rfl gp_o4_0b_m (gl_nar (w := gl_w4) (w' := [(129, 2147483647, 144), (-2147483648, 2147483647, 145), (-2147483648, 2147483647, 146), (-2147483648, 2147483647, 147)]) rfl (gl_nar4 hw (by omega) (by omega) (by omega) (by omega)) hS') hR' hE'
      by_cases h3 : ρ' 145 < 0
      · exact gl_pc (S := S) (K := gp_o4_1a_K) (cts := gp_o4_1a_c) (wr := gp_o4_1a_w) (B := gp_o4_1a_B) (r := r) htr hn1 hn2 ih (by show _ ≤ R.cells - 0; omega) (by show _ ≤ R.slots - 0; omega) hf hlo hB' hKf' hSt' hρ1 (by decide) gp_o4_1a_h rfl gp_o4_1a_m (gl_nar (w := gl_w4) (w' := [(0, 128, 144), (-2147483648, -1, 145), (-2147483648, 2147483647, 146), (-2147483648, 2147483647, 147)]) rfl (gl_nar4 hw (by omega) (by omega) (by omega) (by omega)) hS') hR' hE'
      by_cases h4 : 3 < ρ' 145
      · exact gl_pc (S := S) (K := gp_o4_1b_K) (cts := gp_o4_1b_c) (wr := gp_o4_1b_w) (B := gp_o4_1b_B) (r := r) htr hn1 hn2 ih (by show _ ≤ R.cells - 0; omega) (by show _ ≤ R.slots - 0; omega) hf hlo hB' hKf' hSt' hρ1 (by decide) gp_o4_1b_h rfl gp_o4_1b_m (gl_nar (w := gl_w4) (w' := [(0, 128, 144), (4, 2147483647, 145), (-2147483648, 2147483647, 146), (-2147483648, 2147483647, 147)]) rfl (gl_nar4 hw (by omega) (by omega) (by omega) (by omega)) hS') hR' hE'
      exact hin4 k b s' _ ls' ρ' G' N' d a r ih (by show _ ≤ R.cells - 0; omega) (by show _ ≤ R.slots - 0; omega) hf hlo hB' hKf' hSt' hρ1 (by omega) (gl_nar (w := gl_w4) (w' := [(0, 128, 144), (0, 3, 145), (-2147483648, 2147483647, 146), (-2147483648, 2147483647, 147)]) rfl (gl_nar4 hw (by omega) (by omega) (by omega) (by omega)) hS') hR' hE'
    rcases List.mem_cons.mp ha' with h | ha'
    · subst h
      have hst : st' = [] := by
        obtain ⟨lv, -, -, i3, -⟩ := hS'
        have := i3.1
        cases st' with
        | nil => rfl
        | cons a b => simp [gs_13] at this
      subst hst
      refine ⟨3 * (k + 1 + 1), 18 * (k + 1 + 1), by show 0 + _ ≤ _; omega, by show 0 + _ ≤ _; omega, ?_⟩
      exact gl_pc (S := S) (K := gp_k5_K) (cts := gp_k5_c) (wr := gp_k5_w) (B := gs_13) (r := r) htr hn1 hn2 ih (by show _ ≤ R.cells - 0; omega) (by show _ ≤ R.slots - 0; omega) hf hlo hB' hKf' hSt' hρ1 (by decide) gp_k5_h rfl gp_k5_m hS' hR' hE'
    rcases List.mem_cons.mp ha' with h | ha'
    · subst h
      have hst : st' = [] := by
        obtain ⟨lv, -, -, i3, -⟩ := hS'
        have := i3.1
        cases st' with
        | nil => rfl
        | cons a b => simp [gs_14] at this
      subst hst
      refine ⟨3 * (k + 1 + 1), 18 * (k + 1 + 1), by show 0 + _ ≤ _; omega, by show 0 + _ ≤ _; omega, ?_⟩
      exact gl_pc (S := S) (K := gp_k6_K) (cts := gp_k6_c) (wr := gp_k6_w) (B := gs_14) (r := r) htr hn1 hn2 ih (by show _ ≤ R.cells - 0; omega) (by show _ ≤ R.slots - 0; omega) hf hlo hB' hKf' hSt' hρ1 (by decide) gp_k6_h rfl gp_k6_m hS' hR' hE'
    rcases List.mem_cons.mp ha' with h | ha'
    · subst h
      have hst : st' = [] := by
        obtain ⟨lv, -, -, i3, -⟩ := hS'
        have := i3.1
        cases st' with
        | nil => rfl
        | cons a b => simp [gs_15] at this
      subst hst
      refine ⟨3 * (k + 1 + 1), 18 * (k + 1 + 1), by show 0 + _ ≤ _; omega, by show 0 + _ ≤ _; omega, ?_⟩
      exact gl_pc (S := S) (K := gp_k7_K) (cts := gp_k7_c) (wr := gp_k7_w) (B := gs_15) (r := r) htr hn1 hn2 ih (by show _ ≤ R.cells - 0; omega) (by show _ ≤ R.slots - 0; omega) hf hlo hB' hKf' hSt' hρ1 (by decide) gp_k7_h rfl gp_k7_m hS' hR' hE'
    rcases List.mem_cons.mp ha' with h | ha'
    · subst h
      have hst : st' = [] := by
        obtain ⟨lv, -, -, i3, -⟩ := hS'
        have := i3.1
        cases st' with
        | nil => rfl
        | cons a b => simp [gs_16] at this
      subst hst
      refine ⟨3 * (k + 1 + 1), 18 * (k + 1 + 1), by show 0 + _ ≤ _; omega, by show 0 + _ ≤ _; omega, ?_⟩
      exact gl_pc (S := S) (K := gp_k8_K) (cts := gp_k8_c) (wr := gp_k8_w) (B := gs_16) (r := r) htr hn1 hn2 ih (by show _ ≤ R.cells - 0; omega) (by show _ ≤ R.slots - 0; omega) hf hlo hB' hKf' hSt' hρ1 (by decide) gp_k8_h rfl gp_k8_m hS' hR' hE'
    rcases List.mem_cons.mp ha' with h | ha'
    · subst h
      have hst : st' = [] := by
        obtain ⟨lv, -, -, i3, -⟩ := hS'
        have := i3.1
        cases st' with
        | nil => rfl
        | cons a b => simp [gs_17] at this
      subst hst
      refine ⟨3 * (k + 1 + 1), 18 * (k + 1 + 1), by show 0 + _ ≤ _; omega, by show 0 + _ ≤ _; omega, ?_⟩
      exact gl_pc (S := S) (K := gp_k9_K) (cts := gp_k9_c) (wr := gp_k9_w) (B := gs_17) (r := r) htr hn1 hn2 ih (by show _ ≤ R.cells - 0; omega) (by show _ ≤ R.slots - 0; omega) hf hlo hB' hKf' hSt' hρ1 (by decide) gp_k9_h rfl gp_k9_m hS' hR' hE'
    rcases List.mem_cons.mp ha' with h | ha'
    · subst h
      have hst : st' = [] := by
        obtain ⟨lv, -, -, i3, -⟩ := hS'
        have := i3.1
        cases st' with
        | nil => rfl
        | cons a b => simp [gs_18] at this
      subst hst
      refine ⟨3 * (k + 1 + 1), 18 * (k + 1 + 1), by show 0 + _ ≤ _; omega, by show 0 + _ ≤ _; omega, ?_⟩
      exact gl_pc (S := S) (K := gp_k10_K) (cts := gp_k10_c) (wr := gp_k10_w) (B := gs_18) (r := r) htr hn1 hn2 ih (by show _ ≤ R.cells - 0; omega) (by show _ ≤ R.slots - 0; omega) hf hlo hB' hKf' hSt' hρ1 (by decide) gp_k10_h rfl gp_k10_m hS' hR' hE'
    rcases List.mem_cons.mp ha' with h | ha'
    · subst h
      have hst : st' = [] := by
        obtain ⟨lv, -, -, i3, -⟩ := hS'
        have := i3.1
        cases st' with
        | nil => rfl
        | cons a b => simp [gs_19] at this
      subst hst
      refine ⟨3 * (k + 1 + 1), 18 * (k + 1 + 1), by show 0 + _ ≤ _; omega, by show 0 + _ ≤ _; omega, ?_⟩
      exact gl_pc (S := S) (K := gp_k11_K) (cts := gp_k11_c) (wr := gp_k11_w) (B := gs_19) (r := r) htr hn1 hn2 ih (by show _ ≤ R.cells - 0; omega) (by show _ ≤ R.slots - 0; omega) hf hlo hB' hKf' hSt' hρ1 (by decide) gp_k11_h rfl gp_k11_m hS' hR' hE'
    rcases List.mem_cons.mp ha' with h | ha'
    · subst h
      have hst : st' = [] := by
        obtain ⟨lv, -, -, i3, -⟩ := hS'
        have := i3.1
        cases st' with
        | nil => rfl
        | cons a b => simp [gs_20] at this
      subst hst
      refine ⟨3 * (k + 1 + 1), 18 * (k + 1 + 1), by show 0 + _ ≤ _; omega, by show 0 + _ ≤ _; omega, ?_⟩
      exact gl_pc (S := S) (K := gp_k12_K) (cts := gp_k12_c) (wr := gp_k12_w) (B := gs_20) (r := r) htr hn1 hn2 ih (by show _ ≤ R.cells - 0; omega) (by show _ ≤ R.slots - 0; omega) hf hlo hB' hKf' hSt' hρ1 (by decide) gp_k12_h rfl gp_k12_m hS' hR' hE'
    rcases List.mem_cons.mp ha' with h | ha'
    · subst h
      have hst : st' = [] := by
        obtain ⟨lv, -, -, i3, -⟩ := hS'
        have := i3.1
        cases st' with
        | nil => rfl
        | cons a b => simp [gs_21] at this
      subst hst
      refine ⟨3 * (k + 1 + 1), 18 * (k + 1 + 1), by show 0 + _ ≤ _; omega, by show 0 + _ ≤ _; omega, ?_⟩
      exact gl_pc (S := S) (K := gp_k13_K) (cts := gp_k13_c) (wr := gp_k13_w) (B := gs_21) (r := r) htr hn1 hn2 ih (by show _ ≤ R.cells - 0; omega) (by show _ ≤ R.slots - 0; omega) hf hlo hB' hKf' hSt' hρ1 (by decide) gp_k13_h rfl gp_k13_m hS' hR' hE'
    rcases List.mem_cons.mp ha' with h | ha'
    · subst h
      have hst : st' = [] := by
        obtain ⟨lv, -, -, i3, -⟩ := hS'
        have := i3.1
        cases st' with
        | nil => rfl
        | cons a b => simp [gs_22] at this
      subst hst
      refine ⟨3 * (k + 1 + 1), 18 * (k + 1 + 1), by show 0 + _ ≤ _; omega, by show 0 + _ ≤ _; omega, ?_⟩
      exact gl_pc (S := S) (K := gp_k14_K) (cts := gp_k14_c) (wr := gp_k14_w) (B := gs_22) (r := r) htr hn1 hn2 ih (by show _ ≤ R.cells - 0; omega) (by show _ ≤ R.slots - 0; omega) hf hlo hB' hKf' hSt' hρ1 (by decide) gp_k14_h rfl gp_k14_m hS' hR' hE'
    rcases List.mem_cons.mp ha' with h | ha'
    · subst h
      have hst : st' = [] := by
        obtain ⟨lv, -, -, i3, -⟩ := hS'
        have := i3.1
        cases st' with
        | nil => rfl
        | cons a b => simp [gs_23] at this
      subst hst
      refine ⟨3 * (k + 1 + 1), 18 * (k + 1 + 1), by show 0 + _ ≤ _; omega, by show 0 + _ ≤ _; omega, ?_⟩
      exact gl_pc (S := S) (K := gp_k15_K) (cts := gp_k15_c) (wr := gp_k15_w) (B := gs_23) (r := r) htr hn1 hn2 ih (by show _ ≤ R.cells - 0; omega) (by show _ ≤ R.slots - 0; omega) hf hlo hB' hKf' hSt' hρ1 (by decide) gp_k15_h rfl gp_k15_m hS' hR' hE'
    rcases List.mem_cons.mp ha' with h | ha'
    · subst h
      have hst : st' = [] := by
        obtain ⟨lv, -, -, i3, -⟩ := hS'
        have := i3.1
        cases st' with
        | nil => rfl
        | cons a b => simp [gs_24] at this
      subst hst
      refine ⟨3 * (k + 1 + 1), 18 * (k + 1 + 1), by show 0 + _ ≤ _; omega, by show 0 + _ ≤ _; omega, ?_⟩
      exact gl_pc (S := S) (K := gp_k16_K) (cts := gp_k16_c) (wr := gp_k16_w) (B := gs_24) (r := r) htr hn1 hn2 ih (by show _ ≤ R.cells - 0; omega) (by show _ ≤ R.slots - 0; omega) hf hlo hB' hKf' hSt' hρ1 (by decide) gp_k16_h rfl gp_k16_m hS' hR' hE'
    rcases List.mem_cons.mp ha' with h | ha'
    · subst h
      have hst : st' = [] := by
        obtain ⟨lv, -, -, i3, -⟩ := hS'
        have := i3.1
        cases st' with
        | nil => rfl
        | cons a b => simp [gs_25] at this
      subst hst
      refine ⟨3 * (k + 1 + 1), 18 * (k + 1 + 1), by show 0 + _ ≤ _; omega, by show 0 + _ ≤ _; omega, ?_⟩
      exact gl_pc (S := S) (K := gp_k17_K) (cts := gp_k17_c) (wr := gp_k17_w) (B := gs_25) (r := r) htr hn1 hn2 ih (by show _ ≤ R.cells - 0; omega) (by show _ ≤ R.slots - 0; omega) hf hlo hB' hKf' hSt' hρ1 (by decide) gp_k17_h rfl gp_k17_m hS' hR' hE'
    rcases List.mem_cons.mp ha' with h | ha'
    · subst h
      have hst : st' = [] := by
        obtain ⟨lv, -, -, i3, -⟩ := hS'
        have := i3.1
        cases st' with
        | nil => rfl
        | cons a b => simp [gs_26] at this
      subst hst
      refine ⟨3 * (k + 1 + 1), 18 * (k + 1 + 1), by show 0 + _ ≤ _; omega, by show 0 + _ ≤ _; omega, ?_⟩
      exact gl_pc (S := S) (K := gp_k18_K) (cts := gp_k18_c) (wr := gp_k18_w) (B := gs_26) (r := r) htr hn1 hn2 ih (by show _ ≤ R.cells - 0; omega) (by show _ ≤ R.slots - 0; omega) hf hlo hB' hKf' hSt' hρ1 (by decide) gp_k18_h rfl gp_k18_m hS' hR' hE'
    rcases List.mem_cons.mp ha' with h | ha'
    · subst h
      have hst : st' = [] := by
        obtain ⟨lv, -, -, i3, -⟩ := hS'
        have := i3.1
        cases st' with
        | nil => rfl
        | cons a b => simp [gs_27] at this
      subst hst
      refine ⟨3 * (k + 1 + 1), 18 * (k + 1 + 1), by show 0 + _ ≤ _; omega, by show 0 + _ ≤ _; omega, ?_⟩
      exact gl_pc (S := S) (K := gp_k19_K) (cts := gp_k19_c) (wr := gp_k19_w) (B := gs_27) (r := r) htr hn1 hn2 ih (by show _ ≤ R.cells - 0; omega) (by show _ ≤ R.slots - 0; omega) hf hlo hB' hKf' hSt' hρ1 (by decide) gp_k19_h rfl gp_k19_m hS' hR' hE'
    rcases List.mem_cons.mp ha' with h | ha'
    · subst h
      have hst : st' = [] := by
        obtain ⟨lv, -, -, i3, -⟩ := hS'
        have := i3.1
        cases st' with
        | nil => rfl
        | cons a b => simp [gs_28] at this
      subst hst
      refine ⟨3 * (k + 1 + 1), 18 * (k + 1 + 1), by show 0 + _ ≤ _; omega, by show 0 + _ ≤ _; omega, ?_⟩
      exact gl_pc (S := S) (K := gp_k20_K) (cts := gp_k20_c) (wr := gp_k20_w) (B := gs_28) (r := r) htr hn1 hn2 ih (by show _ ≤ R.cells - 0; omega) (by show _ ≤ R.slots - 0; omega) hf hlo hB' hKf' hSt' hρ1 (by decide) gp_k20_h rfl gp_k20_m hS' hR' hE'
    cases ha'
end GL
