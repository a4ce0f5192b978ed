/-! ===== from the entry to the loop ===== -/
section GS
variable {p : Program} {l : Launch} {e : Env} {R : Room} {s : State} {m : MethodId} {args : Array Value} {below : List Frame} {meth : Method} {c : Code}
variable {D : va_G} {AC : Nat → ClassId} {S : Nat → Nat} {L : Heap} {n : Nat}
/-- a piece of the run, from one place to marked ones -/
theorem gk_pieceW {tab : List ck_D} {M : ck_M} {nb : Nat × Nat} {lw : Bool} {K : ck_Ct} {E : ck_E} {ms : List ck_MM} {cts : List (Nat × ck_Kt)} {nt : List (Nat × Nat × Nat)} {cod : List (List (Nat × Instr × Nat))} {al : List (List ck_C × (Option ck_V ⊕ Nat))} {wr : List Nat} {ops : List (Nat × List ck_O)} {ann : List (Nat × ck_An)} {f pc cZ sZ : Nat} {B : ck_A} {ρ : Nat → Int} {G : Nat → Nat} {N : List Nat}
    (hB : ck_B p s m meth c M) (htr : e.platform.stackTraces = false) (hR : K.2.2.2.2.1 ≤ R.frames ∧ K.2.2.2.2.2.1 ≤ R.locals ∧ K.2.2.2.2.2.2.1 ≤ R.cells ∧ K.2.2.2.2.2.2.2 ≤ R.slots) (hn1 : nb.1 ≤ n) (hn2 : n ≤ nb.2) (hKf : ck_Kf D AC S L s n) (hE : ck_Eok ms E) (hEM : E.1 = M.1.cls) (hms : ∀ q ∈ ms, ck_Mok q) (hcts : ∀ q ∈ cts, ∃ M' : ck_MM, ms[q.1]? = some M' ∧ gck_Ok l tab nb M'.1 q.2) (hgl : ck_Glob) (hcod : ∀ pc i n, ck_cdAt cod pc = some (i, n) → decode M.2.1 pc = .ok (i, n))
    (hQ : ∀ a ∈ al, ∀ t, gck_Fin D AC S tab L ρ wr G N (ck_alt K a) below s t → gk_Z below L cZ sZ s t) (hnp : N.length = K.2.1.length) (hlw : lw = true → ρ 149 = (S 3 : Int)) (hann : ann.all (fun a => decide (a.2.2.2.1 ≤ K.2.2.2.2.2.2.1) && decide (a.2.2.2.2 ≤ K.2.2.2.2.2.2.2)) = true)
    (hex : gck_ex E tab nb lw ms cts nt cod M K al wr ops ann none f (pc, B, 0, 0) = true)
    (kk : ∀ a ∈ ann, ∀ (s' : State) (ls' : Array Slot) (st' : List Value) (ρ' : Nat → Int) (G' : Nat → Nat) (N' : List Nat), s.WarmedH s'.vm → gk_S D AC S tab L M.2.2.1 ρ' G' N' a.2.1 s'.heap ls' st' → gck_F wr G N s.heap G' N' a.2.1.2.2 s'.heap → (∀ g, 100 ≤ g → g < 200 → ρ' g = ρ g) →
      ∃ c2 s2, a.2.2.2.1 + c2 ≤ cZ ∧ a.2.2.2.2 + s2 ≤ sZ ∧ W p l e { R with cells := R.cells - a.2.2.2.1, slots := R.slots - a.2.2.2.2 } s' m args below meth c s'.heap [] 0 0 (gk_Z below L c2 s2 s') (F0 m a.1 ls' st')) :
    gck_W p l e R s m args below meth c (gk_Z below L cZ sZ s) D AC S tab L M.2.2.1 ρ wr G N s.heap pc B 0 0 := by
  refine gcw_ex (z := none) (ann := ann) ⟨hB, htr, hR, ⟨n, hn1, hn2, hKf⟩, hE, hEM, hms, hcts, hgl, hcod⟩ hQ hnp hlw (fun y a ha harr => ?_) f _ hex
  intro H ls' st' locs hs
  unfold ck_arr at harr
  simp only [Bool.and_eq_true, decide_eq_true_eq] at harr
  obtain ⟨⟨⟨⟨e1, e2⟩, e3⟩, -⟩, -⟩ := harr
  have hab := List.all_eq_true.mp hann _ ha
  simp only [Bool.and_eq_true, decide_eq_true_eq] at hab
  refine W.widen e1 e2 ?_
  obtain ⟨ρ', G', N', lv', i1, i2, i3, i4, i5, i6, i7⟩ := hs.le e3
  intro U hU Xs
  have hWs : s.WarmedH (U.setFrames (.invoking m args :: below)).vm := Xs.warmed
  obtain ⟨c2, s2', q1, q2, w⟩ := kk _ ha (U.setFrames (.invoking m args :: below)) ls' st' ρ' G' N' hWs (by
    show gk_S D AC S tab L M.2.2.1 ρ' G' N' a.1 U.heap ls' st'
    rw [hU]
    exact ⟨lv', i1, i2, i3, i4⟩) (by
    show gck_F wr G N s.heap G' N' a.1.2.2 U.heap
    rw [hU]
    exact i5) i7
  have Y := ck_rebase Xs (Nat.le_trans hab.1 hR.2.2.1) (Nat.le_trans hab.2 hR.2.2.2)
  obtain ⟨t, t1, o, u1, u2, u3, u4, Ls, u5, u6⟩ := w U rfl Y
  have hUt : U.sameButNew ({ t with vm := U.vm } : State) Ls c2 s2' := by
    obtain ⟨e1, e2⟩ := u5
    refine ⟨?_, e2⟩
    rw [State.setFrames_setFrames] at e1
    exact e1
  have hsm : s.sameButNew ({ t with vm := s.vm } : State) (locs ++ Ls) (a.2.2.1 + c2) (a.2.2.2 + s2') := Xs.same.trans (hUt.setVm s.vm)
  refine ⟨t, t1, o, u1, u2, u3, State.WarmedH.trans Xs.warmed u4, locs ++ Ls, hsm.weaken (fun q hq _ => hq) q1 q2, fun q hq => ?_⟩
  rcases List.mem_append.mp hq with z | z
  · exact i6 q z
  · exact u6 q z
theorem gs_arr {tab : List ck_D} {ρ : Nat → Int} {G : Nat → Nat} {N : List Nat} {T : List ck_C} {H : Heap} (hH : ck_H D AC S tab L ρ G N T H) {q τ ac k : Nat} {sg : List (Nat × ck_V)} (hq : G q = τ) (h0 : τ ≠ 0) (ht : tab[τ]? = some (.inl (ac, k, sg))) : ∃ f : Nat → Value, H[q]? = some (arrV (AC ac) k f) ∧ (∀ j, j < k → gk_at H q j = some (f j)) ∧ ∀ j, j < k → ck_R S (fun _ => 0) G [] (ck_kat sg j) (f j) := by
  subst hq
  have h := (hH.1.2.2 q h0).2
  unfold ck_ty at h
  rw [ht] at h
  obtain ⟨f, f1, f2⟩ := h
  refine ⟨f, f1, fun j hj => ?_, f2⟩
  unfold gk_at
  rw [f1]
  exact arrV_read _ _ hj
def gs_c1 : ck_C := ((1, 0), gr_kc.map (fun c => gv_i c c))
theorem gs_e1 : ck_clo 13 49 gs_5 = gp_d1_B := by rfl
theorem gs_f1 : gs_5.2.2[13]? = some gs_c1 := by rfl
theorem gs_g1 : ck_fitsT gv_tab 13 49 gs_c1 = true := by decide +kernel
def gs_c0 : ck_C := ((1, 0), gr_kc.map (fun c => gv_i c c))
theorem gs_e0 : ck_clo 13 49 gs_2 = gp_d0_B := by rfl
theorem gs_f0 : gs_2.2.2[13]? = some gs_c0 := by rfl
theorem gs_g0 : ck_fitsT gv_tab 13 49 gs_c0 = true := by decide +kernel
/-- where the reference's constants have been made: one row of rows, one memory, all 0 -/
theorem gs_rel {ρ : Nat → Int} {G : Nat → Nat} {N : List Nat} {H : Heap} {ac : Nat} {o1 o2 : Option Nat} (hP : gr_P G H o1 o2) (hi : ck_H D AC S gv_tab L ρ G N gs_5.2.2 H) (ha : N[13]? = some ac) (h0 : G ac = 0) (hj : ck_H D AC S gv_tab L ρ (ck_up G ac 49) N gp_d1_B.2.2 H) : ∃ d a r, gr_R (ck_up G ac 49) H d a r ∧ gr_E H a r := by
  have hup : ∀ q τ, τ ≠ 49 → ck_up G ac 49 q = τ → G q = τ := fun q τ hτ h => by
    unfold ck_up at h
    split at h
    · exact absurd h.symm hτ
    · exact h
  have hN : N.length = 16 := hj.2.1
  obtain ⟨aX, hX⟩ : ∃ a, N[1]? = some a := ⟨N[1]'(by omega), List.getElem?_eq_getElem (by omega)⟩
  obtain ⟨aM, hM⟩ : ∃ a, N[12]? = some a := ⟨N[12]'(by omega), List.getElem?_eq_getElem (by omega)⟩
  obtain ⟨-, -, vx, x1, x2⟩ := hj.2.2.1 1 _ aX rfl hX
  obtain ⟨-, -, vm, y1, y2⟩ := hj.2.2.1 12 _ aM rfl hM
  obtain ⟨wd, -, d, -, d1, -⟩ := x2.get (k := 1) (a := gv_r 2 13) rfl
  obtain ⟨wm, -, a, -, a1, -⟩ := y2.get (k := 2) (a := gv_r 2 46) rfl
  have d2 := hup d 13 (by decide) d1
  have a2 := hup a 46 (by decide) a1
  obtain ⟨r, r1, r2⟩ := hP.2.2.2.1 d d2
  obtain ⟨fd, -, fd2, fd3⟩ := gs_arr hj d1 (by decide) (show gv_tab[13]? = some (.inl (7, 4, [(4, gv_r 2 10)])) from rfl)
  obtain ⟨fa, -, fa2, -⟩ := gs_arr hj a1 (by decide) (show gv_tab[46]? = some (.inl (0, 6000, [(6000, gv_i 0 255)])) from rfl)
  have hrow : ∀ k, k < 4 → ck_up G ac 49 (r k) = 10 ∧ gk_at H d k = some (.ref (r k)) := fun k hk => by
    have e1 := r2 k _ hk (fd2 k hk)
    have e2 := fd3 k hk
    have e3 : ck_kat [(4, gv_r 2 10)] k = gv_r 2 10 := by
      unfold ck_kat
      rw [if_pos hk]
    rw [e3] at e2
    obtain ⟨q, q1, q2, -⟩ := e2
    rw [q1] at e1
    have e1 : q = r k := by simpa using e1
    subst e1
    exact ⟨q2, by rw [fd2 k hk, q1]⟩
  refine ⟨d, a, r, ⟨d1, a1, fun q hq => ?_, fun q hq => ?_, r1, hrow, fun q hq j v hv => ?_⟩, fun k j hk hj' => ?_⟩
  · have e1 := hP.1 d d2
    have e2 := hP.1 q (hup q 13 (by decide) hq)
    exact Option.some.inj (e2.symm.trans e1)
  · have e1 := hP.2.1 a a2
    have e2 := hP.2.1 q (hup q 46 (by decide) hq)
    exact Option.some.inj (e2.symm.trans e1)
  · have hqa : q = ac := by
      unfold ck_up at hq
      split at hq
      · assumption
      · exact absurd hq (hP.2.2.1 q)
    subst hqa
    obtain ⟨-, -, f, f1, f2⟩ := hi.2.2.1 13 _ q gs_f1 ha
    obtain ⟨x, e1, x1, x2, -⟩ := f2 j (gv_i v v) (by show (gr_kc.map (fun c => gv_i c c))[j]? = _; rw [List.getElem?_map, hv]; rfl)
    refine ⟨x, ?_, ?_⟩
    · unfold gk_at
      rw [f1]
      have hjl : j < 72 := (List.getElem?_eq_some_iff.mp hv).1
      show (arrV (AC 0) 72 f).slots[j]? = _
      rw [arrV_read _ _ hjl, e1]
    · have x1 : v ≤ x.toInt := x1
      have x2 : x.toInt ≤ v := x2
      omega
  · obtain ⟨fr, -, fr2, -⟩ := gs_arr hj (hrow k hk).1 (by decide) (show gv_tab[10]? = some (.inl (0, 32, [(32, gv_F)])) from rfl)
    have e1 := hP.2.2.2.2 (r k) (Or.inl (hup _ 10 (by decide) (hrow k hk).1)) j _ (by omega) (fr2 j hj')
    have e2 := hP.2.2.2.2 a (Or.inr a2) (32 * k + j) _ (by omega) (fa2 (32 * k + j) (by omega))
    rw [fr2 j hj', fa2 (32 * k + j) (by omega), e1, e2]
theorem gl_start1 {vs : List Value} {ρ0 : Nat → Int} {N0 : List Nat} (htr : e.platform.stackTraces = false) (hn1 : 1 ≤ n) (hn2 : n ≤ 2561) (hin0 : gl_In p l e m args below meth c D AC S L n 148 gp_i0_1_B) (hin1 : gl_In p l e m args below meth c D AC S L n 229 gp_i1_1_B) (hin2 : gl_In p l e m args below meth c D AC S L n 296 gp_i2_1_B) (hin3 : gl_In p l e m args below meth c D AC S L n 345 gp_i3_1_B) (hin4 : gl_In p l e m args below meth c D AC S L n 394 gp_i4_1_B) (hc : (557 + 3 * 513) ≤ R.cells) (hs : (26186 + 18 * 513) ≤ R.slots) (hf : 9 ≤ R.frames) (hlo : 207 ≤ R.locals) (hB : ck_B p s m meth c glw_M) (hKf : ck_Kf D AC S L s n) (hSt : xk_St S L s) (hargs : args = vs.toArray) (hv : ck_all (ck_R S ρ0 (fun _ => 0) N0) gp_a1_K.1 vs) (hH : ck_H D AC S gv_tab L ρ0 (fun _ => 0) N0 (ck_etag gp_a1_K.2.1) s.heap) :
    W p l e R s m args below meth c s.heap [] 0 0 (gk_Z below L (557 + 3 * 513) (26186 + 18 * 513) s) (entryFrame m args 8) := by
  refine gcw_entry (M := glw_M) (K := gp_a1_K) (wr := gp_a1_w) hB.2.2.1 hargs hv hH rfl (by decide) ?_
  refine gk_pieceW (M := glw_M) (K := gp_a1_K) (n := n) hB htr ⟨by show _ ≤ _; exact Nat.le_trans (Nat.le_of_ble_eq_true rfl) hf, by show _ ≤ _; exact Nat.le_trans (Nat.le_of_ble_eq_true rfl) hlo, by show 1 ≤ _; omega, by show 11 ≤ _; omega⟩ hn1 hn2 hKf ce_ok11 rfl cm_ok gp_a1_h ce_glob kco_law_ok (fun a ha => by cases ha) (by rw [hH.2.1]; rfl) (fun h => by cases h) (by decide) gp_a1_m (fun a' ha' s1 ls1 st1 ρ1 G1 N1 hW1 hS1 hF1 _ => ?_)
  rw [gp_a1_n, List.mem_singleton] at ha'
  subst ha'
  refine ⟨(557 + 3 * 513) - 1, (26186 + 18 * 513) - 11, by show 1 + _ ≤ _; omega, by show 11 + _ ≤ _; omega, ?_⟩
  have P1 := (gr_P.first (H := s.heap)).step (p1 := none) (p2 := none) hF1 (fun q _ => rfl) (by decide) (Or.inl ⟨by decide, rfl⟩) (Or.inl ⟨by decide, rfl⟩)
  have z1 : ∀ q, s1.heap.size ≤ q → G1 q = 0 := by
    obtain ⟨lv, -, -, -, i4⟩ := hS1
    exact fun q hq => i4.zero hq
  refine gk_piece (M := glw_M) (K := gp_b1_K) (B := gp_b1_B) (n := n) (gk_Bmv hB hW1) htr ⟨by show _ ≤ R.frames; exact Nat.le_trans (Nat.le_of_ble_eq_true rfl) hf, by show _ ≤ R.locals; exact Nat.le_trans (Nat.le_of_ble_eq_true rfl) hlo, by show 524 ≤ R.cells - 1; omega, by show 14555 ≤ R.slots - 11; omega⟩ hn1 hn2 (hKf.moved hW1) ce_ok11 rfl cm_ok gp_b1_h ce_glob kco_law_ok (fun a ha => by cases ha) rfl (fun h => by cases h) (by decide) gp_b1_m hS1 (fun a' ha' s2 ls2 st2 ρ2 G2 N2 hW2 hS2 hF2 _ => ?_)
  rw [gp_b1_n, List.mem_singleton] at ha'
  subst ha'
  refine ⟨(557 + 3 * 513) - 1 - 524, (26186 + 18 * 513) - 11 - 14555, by show 524 + _ ≤ _; omega, by show 14555 + _ ≤ _; omega, ?_⟩
  have P2 := P1.step (p1 := some s1.heap.size) (p2 := none) hF2 z1 (by decide) (Or.inr ⟨rfl, rfl⟩) (Or.inl ⟨by decide, rfl⟩)
  have z2 : ∀ q, s2.heap.size ≤ q → G2 q = 0 := by
    obtain ⟨lv, -, -, -, i4⟩ := hS2
    exact fun q hq => i4.zero hq
  have W2 := State.WarmedH.trans hW1 hW2
  refine gk_piece (M := glw_M) (K := gp_c1_K) (B := gp_c1_B) (n := n) (gk_Bmv hB W2) htr ⟨by show _ ≤ R.frames; exact Nat.le_trans (Nat.le_of_ble_eq_true rfl) hf, by show _ ≤ R.locals; exact Nat.le_trans (Nat.le_of_ble_eq_true rfl) hlo, by show 31 ≤ R.cells - 1 - 524; omega, by show 11619 ≤ R.slots - 11 - 14555; omega⟩ hn1 hn2 (hKf.moved W2) ce_ok11 rfl cm_ok gp_c1_h ce_glob kco_law_ok (fun a ha => by cases ha) rfl (fun h => by cases h) (by decide) gp_c1_m hS2 (fun a' ha' s3 ls3 st3 ρ3 G3 N3 hW3 hS3 hF3 _ => ?_)
  rw [gp_c1_n, List.mem_singleton] at ha'
  subst ha'
  refine ⟨(557 + 3 * 513) - 1 - 524 - 31, (26186 + 18 * 513) - 11 - 14555 - 11619, by show 31 + _ ≤ _; omega, by show 11619 + _ ≤ _; omega, ?_⟩
  have P3 := P2.step (p1 := some s1.heap.size) (p2 := some s2.heap.size) hF3 z2 (by decide) (Or.inl ⟨by decide, rfl⟩) (Or.inr ⟨rfl, rfl⟩)
  have W3 := State.WarmedH.trans W2 hW3
  obtain ⟨lv3, i1, i2, i3, i4⟩ := hS3
  obtain ⟨ac, ha, h0, j2, j3, j4⟩ := gk_close (B := gs_5) (i := 13) (τ := 49) gs_f1 gs_g1 (by decide) i2 i3 i4
  rw [gs_e1] at j2 j3 j4
  obtain ⟨d, a, r, hR3, hE3⟩ := gs_rel P3 i4 ha h0 j4
  have z3 : ∀ q, s3.heap.size ≤ q → ck_up G3 ac 49 q = 0 := fun q hq => j4.zero hq
  refine gk_piece (M := glw_M) (K := gp_d1_K) (B := gp_d1_B) (n := n) (gk_Bmv hB W3) htr ⟨by show _ ≤ R.frames; exact Nat.le_trans (Nat.le_of_ble_eq_true rfl) hf, by show _ ≤ R.locals; exact Nat.le_trans (Nat.le_of_ble_eq_true rfl) hlo, by show 1 ≤ R.cells - 1 - 524 - 31; omega, by show 1 ≤ R.slots - 11 - 14555 - 11619; omega⟩ hn1 hn2 (hKf.moved W3) ce_ok11 rfl cm_ok gp_d1_h ce_glob kco_law_ok (fun a ha => by cases ha) rfl (fun h => by cases h) (by decide) gp_d1_m ⟨lv3, i1, j2, j3, j4⟩ (fun a' ha' s4 ls4 st4 ρ4 G4 N4 hW4 hS4 hF4 _ => ?_)
  rw [gp_d1_n, List.mem_singleton] at ha'
  subst ha'
  have W4 := State.WarmedH.trans W3 hW4
  have hS5 : st4 = [] ∧ gk_S D AC S gv_tab L 8 ρ4 G4 N4 (gl_B 1) s4.heap ls4 [] := by
    obtain ⟨lv, k1, k2, k3, k4⟩ := hS4
    have hst : st4 = [] := by
      have := k3.1
      cases st4 with
      | nil => rfl
      | cons a b => simp [gs_6] at this
    refine ⟨hst, lv, k1, ?_, ck_all.nil, ?_⟩
    · obtain ⟨w0, m0, rfl, r0, j0⟩ := k2.uncons
      obtain ⟨w1, m1, rfl, r1, j1⟩ := j0.uncons
      obtain ⟨w2, m2, rfl, r2, j2⟩ := j1.uncons
      obtain ⟨w3, m3, rfl, r3, j3⟩ := j2.uncons
      obtain ⟨w4, m4, rfl, r4, j4⟩ := j3.uncons
      have hm : m4 = [] := by
        have := j4.1
        cases m4 with
        | nil => rfl
        | cons a b => simp at this
      subst hm
      exact ck_all.cons ⟨r0.1, r0.2.ch rfl⟩ (ck_all.cons ⟨r1.1, r1.2.ch rfl⟩ (ck_all.cons ⟨r2.1, r2.2.ch rfl⟩ (ck_all.cons ⟨r3.1, r3.2.ch rfl⟩ (ck_all.cons ⟨r4.1, r4.2⟩ ck_all.nil))))
    · refine k4.cvt gl_sf (Z := []) (D' := []) (Tr := gl_Tr) (fun g z hz => by cases hz) (fun g δ hδ => by cases hδ) gl_cv (fun a ha => ?_) rfl
      obtain ⟨e0, cell', z1, z2, z3⟩ := k4.2.2.1 0 _ a rfl ha
      exact ⟨e0, cell', z1, z2, fun k v hk => by simp at hk⟩
  obtain ⟨rfl, hS5⟩ := hS5
  refine ⟨3 * 513, 18 * 513, by show 1 + _ ≤ _; omega, by show 1 + _ ≤ _; omega, ?_⟩
  exact gl_loop htr hn1 hn2 hin0 hin1 hin2 hin3 hin4 512 1 (by omega) (by omega) (by omega) s4 _ ls4 ρ4 G4 N4 d a r (by show _ ≤ R.cells - 1 - 524 - 31 - 1; omega) (by show _ ≤ R.slots - 11 - 14555 - 11619 - 1; omega) (by show _ ≤ R.frames; omega) (by show _ ≤ R.locals; omega) (gk_Bmv hB W4) (hKf.moved W4) (hSt.moved W4.alike) hS5 (hR3.keep hF4 z3 (by decide)) (hE3.keep hF4 z3 (by decide) hR3)
theorem gl_start0 {vs : List Value} {ρ0 : Nat → Int} {N0 : List Nat} (htr : e.platform.stackTraces = false) (hn1 : 0 ≤ n) (hn2 : n ≤ 0) (hc : 557 ≤ R.cells) (hs : 26186 ≤ R.slots) (hf : 9 ≤ R.frames) (hlo : 207 ≤ R.locals) (hB : ck_B p s m meth c glw_M) (hKf : ck_Kf D AC S L s n) (hargs : args = vs.toArray) (hv : ck_all (ck_R S ρ0 (fun _ => 0) N0) gp_a0_K.1 vs) (hH : ck_H D AC S gv_tab L ρ0 (fun _ => 0) N0 (ck_etag gp_a0_K.2.1) s.heap) :
    W p l e R s m args below meth c s.heap [] 0 0 (gk_Z below L 557 26186 s) (entryFrame m args 8) := by
  refine gcw_entry (M := glw_M) (K := gp_a0_K) (wr := gp_a0_w) hB.2.2.1 hargs hv hH rfl (by decide) ?_
  refine gk_pieceW (M := glw_M) (K := gp_a0_K) (n := n) hB htr ⟨by show _ ≤ _; exact Nat.le_trans (Nat.le_of_ble_eq_true rfl) hf, by show _ ≤ _; exact Nat.le_trans (Nat.le_of_ble_eq_true rfl) hlo, by show 1 ≤ _; omega, by show 11 ≤ _; omega⟩ hn1 hn2 hKf ce_ok11 rfl cm_ok gp_a0_h ce_glob kco_law_ok (fun a ha => by cases ha) (by rw [hH.2.1]; rfl) (fun h => by cases h) (by decide) gp_a0_m (fun a' ha' s1 ls1 st1 ρ1 G1 N1 hW1 hS1 hF1 _ => ?_)
  rw [gp_a0_n, List.mem_singleton] at ha'
  subst ha'
  refine ⟨557 - 1, 26186 - 11, by show 1 + _ ≤ _; omega, by show 11 + _ ≤ _; omega, ?_⟩
  have P1 := (gr_P.first (H := s.heap)).step (p1 := none) (p2 := none) hF1 (fun q _ => rfl) (by decide) (Or.inl ⟨by decide, rfl⟩) (Or.inl ⟨by decide, rfl⟩)
  have z1 : ∀ q, s1.heap.size ≤ q → G1 q = 0 := by
    obtain ⟨lv, -, -, -, i4⟩ := hS1
    exact fun q hq => i4.zero hq
  refine gk_piece (M := glw_M) (K := gp_b0_K) (B := gp_b0_B) (n := n) (gk_Bmv hB hW1) htr ⟨by show _ ≤ R.frames; exact Nat.le_trans (Nat.le_of_ble_eq_true rfl) hf, by show _ ≤ R.locals; exact Nat.le_trans (Nat.le_of_ble_eq_true rfl) hlo, by show 524 ≤ R.cells - 1; omega, by show 14555 ≤ R.slots - 11; omega⟩ hn1 hn2 (hKf.moved hW1) ce_ok11 rfl cm_ok gp_b0_h ce_glob kco_law_ok (fun a ha => by cases ha) rfl (fun h => by cases h) (by decide) gp_b0_m hS1 (fun a' ha' s2 ls2 st2 ρ2 G2 N2 hW2 hS2 hF2 _ => ?_)
  rw [gp_b0_n, List.mem_singleton] at ha'
  subst ha'
  refine ⟨557 - 1 - 524, 26186 - 11 - 14555, by show 524 + _ ≤ _; omega, by show 14555 + _ ≤ _; omega, ?_⟩
  have P2 := P1.step (p1 := some s1.heap.size) (p2 := none) hF2 z1 (by decide) (Or.inr ⟨rfl, rfl⟩) (Or.inl ⟨by decide, rfl⟩)
  have z2 : ∀ q, s2.heap.size ≤ q → G2 q = 0 := by
    obtain ⟨lv, -, -, -, i4⟩ := hS2
    exact fun q hq => i4.zero hq
  have W2 := State.WarmedH.trans hW1 hW2
  refine gk_piece (M := glw_M) (K := gp_c0_K) (B := gp_c0_B) (n := n) (gk_Bmv hB W2) htr ⟨by show _ ≤ R.frames; exact Nat.le_trans (Nat.le_of_ble_eq_true rfl) hf, by show _ ≤ R.locals; exact Nat.le_trans (Nat.le_of_ble_eq_true rfl) hlo, by show 31 ≤ R.cells - 1 - 524; omega, by show 11619 ≤ R.slots - 11 - 14555; omega⟩ hn1 hn2 (hKf.moved W2) ce_ok11 rfl cm_ok gp_c0_h ce_glob kco_law_ok (fun a ha => by cases ha) rfl (fun h => by cases h) (by decide) gp_c0_m hS2 (fun a' ha' s3 ls3 st3 ρ3 G3 N3 hW3 hS3 hF3 _ => ?_)
  rw [gp_c0_n, List.mem_singleton] at ha'
  subst ha'
  refine ⟨557 - 1 - 524 - 31, 26186 - 11 - 14555 - 11619, by show 31 + _ ≤ _; omega, by show 11619 + _ ≤ _; omega, ?_⟩
  have P3 := P2.step (p1 := some s1.heap.size) (p2 := some s2.heap.size) hF3 z2 (by decide) (Or.inl ⟨by decide, rfl⟩) (Or.inr ⟨rfl, rfl⟩)
  have W3 := State.WarmedH.trans W2 hW3
  obtain ⟨lv3, i1, i2, i3, i4⟩ := hS3
  obtain ⟨ac, ha, h0, j2, j3, j4⟩ := gk_close (B := gs_2) (i := 13) (τ := 49) gs_f0 gs_g0 (by decide) i2 i3 i4
  rw [gs_e0] at j2 j3 j4
  refine gk_piece (M := glw_M) (K := gp_d0_K) (B := gp_d0_B) (n := n) (gk_Bmv hB W3) htr ⟨by show _ ≤ R.frames; exact Nat.le_trans (Nat.le_of_ble_eq_true rfl) hf, by show _ ≤ R.locals; exact Nat.le_trans (Nat.le_of_ble_eq_true rfl) hlo, by show 1 ≤ R.cells - 1 - 524 - 31; omega, by show 1 ≤ R.slots - 11 - 14555 - 11619; omega⟩ hn1 hn2 (hKf.moved W3) ce_ok11 rfl cm_ok gp_d0_h ce_glob kco_law_ok (fun a ha t ht => ?_) rfl (fun h => by cases h) (by decide) gp_d0_m ⟨lv3, i1, j2, j3, j4⟩ (fun a' ha' => by cases ha')
  rw [gp_d0_l, List.mem_singleton] at ha
  subst ha
  exact gl_fin (by show 1 ≤ _; omega) (by show 1 ≤ _; omega) rfl ht
end GS
