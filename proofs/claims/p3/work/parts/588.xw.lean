/-! ===== loops: a state told anew by numbers, a piece of a method, a method by its pieces ===== -/
def xk_iz (ρ ρ' : Nat → Int) (v v' : xk_V) : Prop := v'.1 = 4 ∨ xk_im ρ ρ' v v'
/-- numbers by other numbers -/
def xk_rno (rn : Nat → xk_O) (ρ : Nat → Int) : Nat → Int := fun g => xk_ov ρ (rn g)
def xk_rv (rn : Nat → xk_O) (v v' : xk_V) : Bool := v'.1 == 4 || (v.1 == v'.1 && (if v.1 < 2 then (if v'.2.1 = 0 then decide (v.2 = v'.2) else decide (rn v'.2.1 = v.2)) else v.2.1 == v'.2.1))
theorem xk_rv_ok {rn : Nat → xk_O} {ρ : Nat → Int} {v v' : xk_V} (h : xk_rv rn v v' = true) : xk_iz ρ (xk_rno rn ρ) v v' := by
  unfold xk_rv at h
  simp only [Bool.or_eq_true, Bool.and_eq_true, beq_iff_eq] at h
  rcases h with h | ⟨h1, h2⟩
  · exact Or.inl h
  · refine Or.inr ⟨h1, fun hk => ?_, fun hk => ?_⟩
    · rw [if_pos hk] at h2
      split at h2
      · rename_i hz
        have e := of_decide_eq_true h2
        rw [e]
        unfold xk_ov
        rw [if_pos hz, if_pos hz]
      · rename_i hz
        have e := of_decide_eq_true h2
        rw [← e]
        show _ = if v'.2.1 = 0 then v'.2.2 else xk_rno rn ρ v'.2.1
        rw [if_neg hz]
        rfl
    · rw [if_neg (by omega)] at h2
      exact beq_iff_eq.mp h2
def xk_ral {α β : Type} (f : α → β → Bool) : List α → List β → Bool
  | [], [] => true
  | a :: t, b :: u => f a b && xk_ral f t u
  | _, _ => false
theorem xk_ral_ok {α β : Type} {f : α → β → Bool} {P : α → β → Prop} (hf : ∀ a b, f a b = true → P a b) : ∀ {l : List α} {m : List β}, xk_ral f l m = true → ck_all P l m
  | [], [], _ => ck_all.nil
  | a :: t, b :: u, h => by
    unfold xk_ral at h
    simp only [Bool.and_eq_true] at h
    exact ck_all.cons (hf a b h.1) (xk_ral_ok hf h.2)
  | [], b :: u, h => by cases h
  | a :: t, [], h => by cases h
def xk_rst (rn : Nat → xk_O) (A B : xk_A) : Bool := B.1.all (fun q => match xk_loc A.1 q.1 with
  | some v => xk_rv rn v q.2
  | none => false) && xk_ral (xk_rv rn) A.2.1 B.2.1 && xk_ral (fun c d => decide (d.1 = c.1) && xk_ral (xk_rv rn) c.2 d.2) A.2.2 B.2.2
section XW
variable {p : Program} {l : Launch} {e : Env} {R : Room} {s : State} {m : MethodId} {args : Array Value} {below : List Frame} {meth : Method} {c : Code} {Q : State → Prop}
variable {nb : Nat × Nat} {D : va_G} {AC : Nat → ClassId} {S : Nat → Nat} {θ : Nat → Value} {L : Heap} {ρ ρ' : Nat → Int} {N : List Nat} {H0 : Heap} {Φ : Nat → Nat → List Int → Int} {wd : Nat → Nat}
variable {M : ck_M} {fr lo nL : Nat} {E : ck_E} {ms : List ck_MM} {cts : List xk_Q} {cod : List (List (Nat × Instr × Nat))}
theorem xk_iz_R {v v' : xk_V} {w : Value} (h : xk_iz ρ ρ' v v') (hw : xk_R S θ ρ N v w) : xk_R S θ ρ' N v' w := by
  rcases h with h | h
  · obtain ⟨k, o⟩ := v'
    dsimp only at h
    subst h
    exact trivial
  · exact xk_im_R h hw
theorem xk_H.iz {T T' : List xk_C} {H : Heap} (hT : ck_all (fun c d => d.1 = c.1 ∧ ck_all (xk_iz ρ ρ') c.2 d.2) T T') (h : xk_H D AC S θ L ρ N T H) : xk_H D AC S θ L ρ' N T' H := by
  obtain ⟨h1, h2, h3⟩ := h
  refine ⟨by rw [h1, hT.1], h2, fun i d a hd ha => ?_⟩
  have hi : i < T.length := by rw [hT.1]; exact (List.getElem?_eq_some_iff.mp hd).1
  have hc := List.getElem?_eq_getElem hi
  obtain ⟨e1, e2⟩ := hT.2 i _ d hc hd
  obtain ⟨l1, l2⟩ := h3 i _ a hc ha
  obtain ⟨g, g1, g2, g3⟩ := xk_vals l2
  refine ⟨l1, g3 θ ρ' N i d e1 e2.1.symm (fun j v hj => ?_) g2⟩
  have hj' : j < T[i].2.length := by rw [e2.1]; exact (List.getElem?_eq_some_iff.mp hj).1
  have hv := List.getElem?_eq_getElem hj'
  exact xk_iz_R (e2.2 j _ v hv hj) (g1 j _ hv)
theorem xk_W.iz {pc : Nat} {A B : xk_A} (hl : ∀ q ∈ B.1, ∃ v, xk_loc A.1 q.1 = some v ∧ xk_iz ρ ρ' v q.2) (hs : ck_all (xk_iz ρ ρ') A.2.1 B.2.1) (hT : ck_all (fun c d => d.1 = c.1 ∧ ck_all (xk_iz ρ ρ') c.2 d.2) A.2.2 B.2.2)
    (k : xk_W p l e R s m args below meth c Q D AC S θ L nL ρ' N H0 pc B) : xk_W p l e R s m args below meth c Q D AC S θ L nL ρ N H0 pc A := by
  intro H ls st locs ⟨lv, ⟨a1, a2, a3⟩, h2, h3, h4, h5, h6⟩
  have hex : ∀ q ∈ B.1, ∃ w : Nat × Value, xk_RL S θ ρ' N q w ∧ ls[w.1]? = some (.val w.2) := fun q hq => by
    obtain ⟨v, hv, him⟩ := hl q hq
    obtain ⟨j, w, hj, hw⟩ := xk_loc_ok h2 hv
    exact ⟨(q.1, w), ⟨rfl, xk_iz_R him hw⟩, a3 _ (List.mem_of_getElem? hj)⟩
  obtain ⟨lv', hlv⟩ := ck_exl hex
  refine k H ls st locs ⟨lv', ⟨a1, a2, fun q hq => ?_⟩, hlv.mono fun a b _ h => h.1, ?_, h4.iz hT, h5, h6⟩
  · obtain ⟨i, hi⟩ := List.getElem?_of_mem hq
    have hi' : i < B.1.length := by rw [hlv.1]; exact (List.getElem?_eq_some_iff.mp hi).1
    exact (hlv.2 i _ q (List.getElem?_eq_getElem hi') hi).2
  · refine ⟨by rw [← hs.1]; exact h3.1, fun i v w hv hw => ?_⟩
    have hi : i < A.2.1.length := by rw [hs.1]; exact (List.getElem?_eq_some_iff.mp hv).1
    have ha := List.getElem?_eq_getElem hi
    exact xk_iz_R (hs.2 i _ v ha hv) (h3.2 i _ w ha hw)
theorem xw_re {rn : Nat → xk_O} {pc : Nat} {A B : xk_A} (h : xk_rst rn A B = true) (k : xk_W p l e R s m args below meth c Q D AC S θ L nL (xk_rno rn ρ) N H0 pc B) : xk_W p l e R s m args below meth c Q D AC S θ L nL ρ N H0 pc A := by
  unfold xk_rst at h
  simp only [Bool.and_eq_true] at h
  obtain ⟨⟨h1, h2⟩, h3⟩ := h
  refine k.iz (fun q hq => ?_) (xk_ral_ok (fun a b hab => xk_rv_ok hab) h2) (xk_ral_ok (fun a b hab => ?_) h3)
  · have := List.all_eq_true.mp h1 q hq
    split at this
    · rename_i v hv; exact ⟨v, hv, xk_rv_ok this⟩
    · cases this
  · simp only [Bool.and_eq_true, decide_eq_true_eq] at hab
    exact ⟨hab.1, xk_ral_ok (fun a b hab => xk_rv_ok hab) hab.2⟩
/-- the numbers alone are others -/
theorem xk_W.num {pc : Nat} {A : xk_A} (h : ∀ g, ρ' g = ρ g) (k : xk_W p l e R s m args below meth c Q D AC S θ L nL ρ' N H0 pc A) : xk_W p l e R s m args below meth c Q D AC S θ L nL ρ N H0 pc A := by
  have : ρ' = ρ := funext h
  rw [← this]
  exact k
/-- the stack's top is a constant -/
theorem xk_W.top {pc : Nat} {ls : List (Nat × xk_V)} {st : List xk_V} {T : List xk_C} {o : xk_O} {b : Int} (h : xk_ov ρ o = b) (k : xk_W p l e R s m args below meth c Q D AC S θ L nL ρ N H0 pc (ls, (0, (0, b)) :: st, T)) : xk_W p l e R s m args below meth c Q D AC S θ L nL ρ N H0 pc (ls, (0, o) :: st, T) := by
  intro H lv st' locs ⟨w, h1, h2, h3, h4, h5, h6⟩
  obtain ⟨v, vs, rfl, g1, g2⟩ := h3.uncons
  exact k H lv _ locs ⟨w, h1, h2, ck_all.cons (by obtain ⟨x, hx, hx'⟩ := g1; exact ⟨x, hx, by rw [hx', h]; rfl⟩) g2, h4, h5, h6⟩
/-- a long on top -/
theorem xk_W.topL {pc : Nat} {ls : List (Nat × xk_V)} {st : List xk_V} {T : List xk_C} {o : xk_O} {b : Int} (h : xk_ov ρ o = b) (k : xk_W p l e R s m args below meth c Q D AC S θ L nL ρ N H0 pc (ls, (1, (0, b)) :: st, T)) : xk_W p l e R s m args below meth c Q D AC S θ L nL ρ N H0 pc (ls, (1, o) :: st, T) := by
  intro H lv st' locs ⟨w, h1, h2, h3, h4, h5, h6⟩
  obtain ⟨v, vs, rfl, g1, g2⟩ := h3.uncons
  exact k H lv _ locs ⟨w, h1, h2, ck_all.cons (by obtain ⟨x, hx, hx'⟩ := g1; exact ⟨x, hx, by rw [hx', h]; rfl⟩) g2, h4, h5, h6⟩
/-- the first local is a constant -/
theorem xk_W.loc {pc i k : Nat} {ls : List (Nat × xk_V)} {st : List xk_V} {T : List xk_C} {o : xk_O} {b : Int} (hk : k < 2) (h : xk_ov ρ o = b) (kk : xk_W p l e R s m args below meth c Q D AC S θ L nL ρ N H0 pc ((i, (k, (0, b))) :: ls, st, T)) : xk_W p l e R s m args below meth c Q D AC S θ L nL ρ N H0 pc ((i, (k, o)) :: ls, st, T) := by
  intro H lv st' locs ⟨w, h1, h2, h3, h4, h5, h6⟩
  obtain ⟨v, vs, rfl, g1, g2⟩ := h2.uncons
  refine kk H lv _ locs ⟨_, h1, ck_all.cons ⟨g1.1, ?_⟩ g2, h3, h4, h5, h6⟩
  have g := g1.2
  match k, hk, g with
  | 0, _, g => obtain ⟨x, hx, hx'⟩ := g; exact ⟨x, hx, by rw [hx']; exact h⟩
  | 1, _, g => obtain ⟨x, hx, hx'⟩ := g; exact ⟨x, hx, by rw [hx']; exact h⟩
theorem xk_Hy.ct {cts' : List xk_Q} {wd' : Nat → Nat} (hy : xk_Hy p l e R s m meth c M fr lo E ms cts Φ wd nb D AC S L H0 cod) (h : xk_Cts l Φ wd' nb ms cts') : xk_Hy p l e R s m meth c M fr lo E ms cts' Φ wd' nb D AC S L H0 cod := by
  obtain ⟨a1, a2, a3, a4, a5, a6, a7, a8, a9, a10, a11, a12⟩ := hy
  exact ⟨a1, a2, a3, a4, a5, a6, a7, a8, a9, h, a11, a12⟩
/-- a step, then a run -/
def xk_rn1 (E : ck_E) (ms : List ck_MM) (cts : List xk_Q) (cod : List (List (Nat × Instr × Nat))) (nL fr lo : Nat) (nm : String) (wd : Nat → Nat) (stops : List Nat) (f : Nat) (x : xk_X) : Option xk_X := match xk_stp E ms cts cod nL fr lo nm wd x with
  | some z => xk_run E ms cts cod nL fr lo nm wd stops f z
  | none => none
theorem xw_seg1 (hy : xk_Hy p l e R s m meth c M fr lo E ms cts Φ wd nb D AC S L H0 cod) {stops : List Nat} {f : Nat} {x y : xk_X} {n : Nat} (hr : xk_rn1 E ms cts cod M.2.2.1 fr lo M.1.name wd stops f x = some y) (hx : x.2.2.2.2.2 = n + 1) (hwf : xk_wf wd (n + 1) y.2.2.2.2.1.reverse = true) (hlo : xk_lowx n x = true)
    (k : ∀ ρ' : Nat → Int, (∀ g, g ≤ n → ρ' g = ρ g) → xk_tok Φ wd ρ' y.2.2.2.2.1.reverse → xk_W p l e R s m args below meth c Q D AC S θ L M.2.2.1 ρ' N H0 y.1 (y.2.1, y.2.2.1, y.2.2.2.1)) : xk_W p l e R s m args below meth c Q D AC S θ L M.2.2.1 ρ N H0 x.1 (x.2.1, x.2.2.1, x.2.2.2.1) := by
  obtain ⟨i1, i2⟩ := xk_val_ok (Φ := Φ) (ρ := ρ) hwf
  have hlow : ∀ g, g ≤ n → xk_val Φ wd y.2.2.2.2.1.reverse ρ g = ρ g := fun g hg => i1 g (by omega)
  unfold xk_rn1 at hr
  split at hr
  · rename_i z hz
    obtain ⟨a1, a2⟩ := xk_stp_sub hz
    obtain ⟨b1, b2⟩ := xk_run_sub hr
    have ht : xk_tok Φ wd (xk_val Φ wd y.2.2.2.2.1.reverse ρ) y.2.2.2.2.1 := fun en hen => i2 en (List.mem_reverse.mpr hen)
    exact xk_W.low hlow hlo (xw_stp hy hz (by rw [hx]; exact Nat.succ_pos _) (fun e he => ht e (b1 e he)) (xw_run hy hr (by omega) ht (k _ hlow i2)))
  · cases hr
/-- a piece: from x to the place pc, its table, how what stands there is told -/
def xk_sg (E : ck_E) (ms : List ck_MM) (cts : List xk_Q) (cod : List (List (Nat × Instr × Nat))) (M : ck_M) (fr lo : Nat) (wd : Nat → Nat) (stops : List Nat) (f n : Nat) (x : xk_X) (tb : List xk_E) (rn : Nat → xk_O) (pc : Nat) (B : xk_A) : Bool := match xk_rn1 E ms cts cod M.2.2.1 fr lo M.1.name wd stops f x with
  | some y => y.1 == pc && decide (x.2.2.2.2.2 = n + 1) && xk_wf wd (n + 1) tb && xk_lowx n x && decide (y.2.2.2.2.1.reverse = tb) && xk_rst rn (y.2.1, y.2.2.1, y.2.2.2.1) B
  | none => false
theorem xw_sg (hy : xk_Hy p l e R s m meth c M fr lo E ms cts Φ wd nb D AC S L H0 cod) {stops : List Nat} {f n : Nat} {x : xk_X} {tb : List xk_E} {rn : Nat → xk_O} {pc : Nat} {B : xk_A} (h : xk_sg E ms cts cod M fr lo wd stops f n x tb rn pc B = true)
    (k : ∀ ρ' : Nat → Int, (∀ g, g ≤ n → ρ' g = ρ g) → xk_tok Φ wd ρ' tb → xk_W p l e R s m args below meth c Q D AC S θ L M.2.2.1 (xk_rno rn ρ') N H0 pc B) : xk_W p l e R s m args below meth c Q D AC S θ L M.2.2.1 ρ N H0 x.1 (x.2.1, x.2.2.1, x.2.2.2.1) := by
  unfold xk_sg at h
  split at h
  · rename_i y hy'
    simp only [Bool.and_eq_true, beq_iff_eq, decide_eq_true_eq] at h
    obtain ⟨⟨⟨⟨⟨h1, h2⟩, h3⟩, h4⟩, h5⟩, h6⟩ := h
    refine xw_seg1 hy hy' h2 (by rw [h5]; exact h3) h4 fun ρ' a b => ?_
    rw [h1]
    exact xw_re h6 (k ρ' a (by rw [← h5]; exact b))
  · cases h
/-- the end: what stands there is what the contract says -/
theorem xw_fin (hy : xk_Hy p l e R s m meth c M fr lo E ms cts Φ wd nb D AC S L s.heap cod) {pc : Nat} {ls : List (Nat × xk_V)} {T post : List xk_C} (hi : ck_cdAt cod pc = some (.return_, 1)) (hM : M.2.2.2.1 = none) (hT : ck_all (fun c d => d.1 = c.1 ∧ ck_all (xk_iz ρ ρ') c.2 d.2) T post) :
    xk_W p l e R s m args below meth c (xk_Fin D AC S θ L ρ' N none post below s) D AC S θ L M.2.2.1 ρ N s.heap pc (ls, [], T) := by
  have hr := xw_ret (θ := θ) (args := args) (below := below) (N := N) (ρ := ρ') (x := (pc, [], [], post, [], 1)) (ret := none) hy hi (by unfold xk_ret; rw [hM]; rfl) (fun en hen => by cases hen)
  exact hr.iz (fun q hq => by cases hq) ck_all.nil hT
end XW
/-- a method by its pieces -/
theorem xk_okw {l : Launch} {Φ : Nat → Nat → List Int → Int} {wd : Nat → Nat} {nb : Nat × Nat} {E : ck_E} {ms : List ck_MM} {cod : List (List (Nat × Instr × Nat))} {M : ck_M} {K : xk_K} (hkn : K.1.all xk_kn = true) (hwo : xk_wo K.1 ≤ M.2.2.1) (hpre : K.2.1.all (fun c => c.2.all (fun v => decide (v.1 < 2 → v.2.1 ≤ K.2.2.2.2.1.2.1))) = true) (hpa : K.1.all (xk_lw K.2.2.2.2.1.2.1) = true) (hgd : xk_gd wd K = true)
    (hE : ck_Eok ms E) (hEM : E.1 = M.1.cls) (hms : ∀ q ∈ ms, ck_Mok q) (hg : ck_Glob) (hcod : ∀ pc i n, ck_cdAt cod pc = some (i, n) → decode M.2.1 pc = .ok (i, n))
    (hw : ∀ (p : Program) (e : Env) (R : Room) (s : State) (m : MethodId) (args : Array Value) (below : List Frame) (meth : Method) (c : Code) (D : va_G) (AC : Nat → ClassId) (S : Nat → Nat) (θ : Nat → Value) (L : Heap) (ρ0 : Nat → Int) (N : List Nat),
      xk_Hy p l e R s m meth c M K.2.2.2.2.2.1 K.2.2.2.2.2.2 E ms [] Φ wd nb D AC S L s.heap cod → xk_W p l e R s m args below meth c (xk_Fin D AC S θ L (xk_rho Φ K.2.2.2.2.1 ρ0) N K.2.2.1 K.2.2.2.1 below s) D AC S θ L M.2.2.1 ρ0 N s.heap 0 (xk_largs 0 K.1, [], K.2.1)) : xk_Cd l Φ wd nb M K := by
  refine ⟨?_, hgd, hpre⟩
  intro p e R s m args below meth c D AC S θ L ρ0 N vs n hn1 hn2 hB htr r1 r2 hKf hSt hL hargs hv hH
  exact xw_entry hB.2.2.1 hargs hv hH hkn hwo (hw p e R s m args below meth c D AC S θ L ρ0 N ⟨hB, htr, ⟨r1, r2⟩, ⟨n, hn1, hn2, hKf⟩, hSt, hL, hE, hEM, hms, xk_Cts.nil, hg, hcod⟩)
theorem xk_Cd.wd {l : Launch} {Φ : Nat → Nat → List Int → Int} {wd wd' : Nat → Nat} {nb : Nat × Nat} {M : ck_M} {K : xk_K} (h : xk_Cd l Φ wd nb M K) (e : wd' K.2.2.2.2.1.1 = wd K.2.2.2.2.1.1) : xk_Cd l Φ wd' nb M K := by
  refine ⟨h.1, ?_, h.2.2⟩
  have h2 := h.2.1
  unfold xk_gd xk_gv at h2 ⊢
  rw [e]
  exact h2
/-- what a call's nodes are -/
theorem xk_cv {Φ : Nat → Nat → List Int → Int} {wd : Nat → Nat} {ρ : Nat → Int} {b t : Nat} {args : List xk_O} (he : xk_eok Φ wd ρ (b, 1000 + t, args)) (offs : List Nat) (ho : offs.all (fun r => decide (r < wd t)) = true) : offs.map (fun r => ρ (b + r)) = offs.map (fun r => Φ t r (args.map (xk_ov ρ))) := by
  unfold xk_eok at he
  dsimp only at he
  rw [if_neg (by omega), Nat.add_sub_cancel_left] at he
  exact List.map_congr_left fun r hr => he r (of_decide_eq_true (List.all_eq_true.mp ho r hr))
