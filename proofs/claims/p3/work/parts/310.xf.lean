/-! ===== exact runs: what the nodes are; a method that runs through keeps its contract ===== -/
def xk_val (Φ : Nat → Nat → List Int → Int) (wd : Nat → Nat) : List xk_E → (Nat → Int) → (Nat → Int)
  | [], ρ => ρ
  | (b, op, a) :: t, ρ => xk_val Φ wd t (if op < 1000 then fun g => if g = b then xk_sem op (a.map (xk_ov ρ)) else ρ g else fun g => if b ≤ g ∧ g < b + wd (op - 1000) then Φ (op - 1000) (g - b) (a.map (xk_ov ρ)) else ρ g)
def xk_wth (wd : Nat → Nat) (op : Nat) : Nat := if op < 1000 then 1 else wd (op - 1000)
def xk_wf (wd : Nat → Nat) : Nat → List xk_E → Bool
  | _, [] => true
  | lo, (b, op, a) :: t => decide (lo ≤ b) && decide (0 < b) && a.all (fun o => decide (o.1 < b)) && xk_wf wd (b + xk_wth wd op) t
theorem xk_ov_congr {ρ ρ' : Nat → Int} {b : Nat} {a : List xk_O} (ha : a.all (fun o => decide (o.1 < b)) = true) (h : ∀ g, g < b → ρ g = ρ' g) : a.map (xk_ov ρ) = a.map (xk_ov ρ') := by
  apply List.map_congr_left
  intro o ho
  have := of_decide_eq_true (List.all_eq_true.mp ha o ho)
  unfold xk_ov
  rw [h o.1 this]
theorem xk_val_ok {Φ : Nat → Nat → List Int → Int} {wd : Nat → Nat} : ∀ {tb : List xk_E} {lo : Nat} {ρ : Nat → Int}, xk_wf wd lo tb = true → (∀ g, g < lo → xk_val Φ wd tb ρ g = ρ g) ∧ xk_tok Φ wd (xk_val Φ wd tb ρ) tb
  | [], lo, ρ, h => ⟨fun g _ => rfl, fun e he => by cases he⟩
  | (b, op, a) :: t, lo, ρ, h => by
    unfold xk_wf at h
    simp only [Bool.and_eq_true, decide_eq_true_eq] at h
    obtain ⟨⟨⟨h1, h2⟩, h3⟩, h4⟩ := h
    have hbw : b ≤ b + xk_wth wd op := Nat.le_add_right _ _
    unfold xk_val
    generalize hr : (if op < 1000 then fun g => if g = b then xk_sem op (a.map (xk_ov ρ)) else ρ g else fun g => if b ≤ g ∧ g < b + wd (op - 1000) then Φ (op - 1000) (g - b) (a.map (xk_ov ρ)) else ρ g) = ρ1
    have hlow : ∀ g, g < b → ρ1 g = ρ g := by
      intro g hg
      rw [← hr]
      split
      · dsimp only
        rw [if_neg (by omega)]
      · dsimp only
        rw [if_neg (by omega)]
    obtain ⟨i1, i2⟩ := xk_val_ok (ρ := ρ1) h4
    have hb : ∀ g, g < b → xk_val Φ wd t ρ1 g = ρ g := fun g hg => by rw [i1 g (by omega), hlow g hg]
    refine ⟨fun g hg => hb g (by omega), fun e he => ?_⟩
    rcases List.mem_cons.mp he with rfl | he
    · unfold xk_eok
      dsimp only
      rw [xk_ov_congr (ρ' := ρ) h3 hb]
      split
      · rename_i hop
        have hw : xk_wth wd op = 1 := by unfold xk_wth; rw [if_pos hop]
        rw [i1 b (by omega), ← hr, if_pos hop]
        rw [if_pos rfl]
      · rename_i hop
        have hw : xk_wth wd op = wd (op - 1000) := by unfold xk_wth; rw [if_neg hop]
        intro r hrr
        rw [i1 (b + r) (by omega), ← hr, if_neg hop]
        rw [if_pos (by omega), Nat.add_sub_cancel_left]
    · exact i2 e he
/-- which of the numbers that came in a node is -/
def xk_pos : List Nat → List Int → Nat → Int
  | g' :: t, v :: u, g => if g' = g then v else xk_pos t u g
  | _, _, _ => 0
theorem xk_pos_ok (ρ : Nat → Int) : ∀ {l : List Nat} {g : Nat}, g ∈ l → xk_pos l (l.map ρ) g = ρ g
  | [], g, h => by cases h
  | g' :: t, g, h => by
    show (if g' = g then ρ g' else xk_pos t (t.map ρ) g) = ρ g
    split
    · rename_i e; rw [e]
    · rename_i e
      rcases List.mem_cons.mp h with rfl | h
      · exact absurd rfl e
      · exact xk_pos_ok ρ h
/-- the function that a table of nodes is, of the numbers ag of n -/
def xk_fn (Φ : Nat → Nat → List Int → Int) (wd : Nat → Nat) (tb : List xk_E) (n : Nat) (ag : List Nat) : Nat → List Int → Int := fun r inp => xk_val Φ wd tb (fun g => xk_pos ag inp g) (n + 1 + r)
/-- the nodes come of those numbers alone -/
def xk_ws (n : Nat) (ag : List Nat) (tb : List xk_E) : Bool := tb.all (fun e => e.2.2.all (fun o => o.1 == 0 || decide (n < o.1) || ag.contains o.1))
def xk_largs : Nat → List xk_V → List (Nat × xk_V)
  | _, [] => []
  | i, k :: t => (i, k) :: xk_largs (if k.1 == 1 then i + 2 else i + 1) t
def xk_meth (E : ck_E) (ms : List ck_MM) (cts : List xk_Q) (cod : List (List (Nat × Instr × Nat))) (M : ck_M) (wd : Nat → Nat) (stops : List Nat) (f : Nat) (K : xk_K) (tb : List xk_E) : Bool :=
  K.1.all xk_kn && decide (xk_wo K.1 ≤ M.2.2.1) && xk_wf wd (K.2.2.2.2.1.2.1 + 1) tb && xk_ws K.2.2.2.2.1.2.1 K.2.2.2.2.1.2.2 tb && (match xk_run E ms cts cod M.2.2.1 K.2.2.2.2.2.1 K.2.2.2.2.2.2 M.1.name wd stops f (0, xk_largs 0 K.1, [], K.2.1, [], K.2.2.2.2.1.2.1 + 1) with
    | some y => (match ck_cdAt cod y.1 with
      | some (i, n) => decide (xk_ret M i n y.2.2.1 y.2.2.2.2.1 = some K.2.2.1) && decide (y.2.2.2.1 = K.2.2.2.1) && decide (y.2.2.2.2.1.reverse = tb)
      | none => false)
    | none => false)
section XKF
variable {p : Program} {l : Launch} {e : Env} {R : Room} {s : State} {m : MethodId} {args : Array Value} {below : List Frame} {meth : Method} {c : Code} {Q : State → Prop}
variable {nb : Nat × Nat} {D : va_G} {AC : Nat → ClassId} {S : Nat → Nat} {θ : Nat → Value} {L : Heap} {ρ : Nat → Int} {N : List Nat} {H0 : Heap} {Φ : Nat → Nat → List Int → Int} {wd : Nat → Nat}
variable {M : ck_M} {E : ck_E} {ms : List ck_MM} {cts : List xk_Q} {cod : List (List (Nat × Instr × Nat))}
theorem xk_largs_ok : ∀ {ks : List xk_V} {vs : List Value} (i : Nat), ck_all (xk_R S θ ρ N) ks vs → ks.all xk_kn = true → ck_all (xk_RL S θ ρ N) (xk_largs i ks) (lv_args i vs)
  | [], vs, i, h, _ => by
    have : vs = [] := by
      have := h.1
      cases vs with
      | nil => rfl
      | cons a b => simp at this
    subst this
    exact ck_all.nil
  | k :: t, vs, i, h, hk => by
    obtain ⟨v, vs', rfl, h1, h2⟩ := h.uncons
    simp only [List.all_cons, Bool.and_eq_true] at hk
    have hc := xk_cat h1 hk.1
    have ih := xk_largs_ok (if k.1 == 1 then i + 2 else i + 1) h2 hk.2
    have e2 : lv_args i (v :: vs') = (i, v) :: lv_args (if k.1 == 1 then i + 2 else i + 1) vs' := by
      rw [← hc]
      rcases lv_cat v with e | e
      · simp [lv_args, e]
      · simp [lv_args, e]
    rw [e2]
    exact ck_all.cons ⟨rfl, h1⟩ ih
theorem xw_entry (hml : c.maxLocals = M.2.2.1) {vs : List Value} {ks : List xk_V} {T : List xk_C} (hargs : args = vs.toArray) (hv : ck_all (xk_R S θ ρ N) ks vs) (hH : xk_H D AC S θ L ρ N T s.heap) (hkn : ks.all xk_kn = true) (hlen : xk_wo ks ≤ M.2.2.1)
    (kk : xk_W p l e R s m args below meth c Q D AC S θ L M.2.2.1 ρ N s.heap 0 (xk_largs 0 ks, [], T)) : W p l e R s m args below meth c s.heap [] 0 0 Q (entryFrame m args M.2.2.1) := by
  subst hargs
  have hw : (lg_sl vs).length = (vs.map fun v => v.category).sum := by
    clear hv hH kk
    induction vs with
    | nil => rfl
    | cons v t ih =>
      have h12 := lv_cat v
      simp only [lg_sl, List.flatMap_cons, List.length_append, List.map_cons, List.sum_cons] at ih ⊢
      rw [ih]
      congr 1
      rcases h12 with z | z <;> simp [z]
  have hl := lv_entry vs (n := M.2.2.1) (by rw [hw, xk_words hv hkn]; exact hlen)
  rw [lg_entry_eq]
  exact kk s.heap _ [] [] ⟨_, hl, xk_largs_ok 0 hv hkn, ck_all.nil, hH, ⟨rfl, fun _ _ => rfl⟩, fun q hq => (by cases hq)⟩
theorem xk_R.congr {ρ ρ' : Nat → Int} {n : Nat} {v : xk_V} {w : Value} (hg : ∀ g, g ≤ n → ρ' g = ρ g) (hv : v.1 < 2 → v.2.1 ≤ n) (h : xk_R S θ ρ N v w) : xk_R S θ ρ' N v w := by
  obtain ⟨k, o⟩ := v
  have ho : k < 2 → xk_ov ρ' o = xk_ov ρ o := fun hk => by
    unfold xk_ov
    rw [hg o.1 (hv hk)]
  match k, h, ho with
  | 0, h, ho => obtain ⟨x, rfl, hx⟩ := h; exact ⟨x, rfl, by rw [hx]; exact (ho (by omega)).symm⟩
  | 1, h, ho => obtain ⟨x, rfl, hx⟩ := h; exact ⟨x, rfl, by rw [hx]; exact (ho (by omega)).symm⟩
  | 2, h, _ => exact h
  | 3, h, _ => exact h
  | 4, _, _ => exact trivial
  | 5, h, _ => exact h
  | k + 6, _, _ => exact trivial
def xk_lw (n : Nat) (v : xk_V) : Bool := decide (v.1 < 2 → v.2.1 ≤ n)
theorem xk_H.congr {ρ ρ' : Nat → Int} {n : Nat} {T : List xk_C} {H : Heap} (hg : ∀ g, g ≤ n → ρ' g = ρ g) (hv : T.all (fun c => c.2.all (xk_lw n)) = true) (h : xk_H D AC S θ L ρ N T H) : xk_H D AC S θ L ρ' N T H := by
  obtain ⟨h1, h2, h3⟩ := h
  refine ⟨h1, h2, fun i d a hd ha => ?_⟩
  obtain ⟨l1, l2⟩ := h3 i d a hd ha
  have hall : ∀ v ∈ d.2, v.1 < 2 → v.2.1 ≤ n := fun v hv' => of_decide_eq_true (List.all_eq_true.mp (List.all_eq_true.mp hv d (List.mem_of_getElem? hd)) v hv')
  obtain ⟨g, g1, g2, g3⟩ := xk_vals l2
  exact ⟨l1, g3 θ ρ' N i d rfl rfl (fun j v hj => (g1 j v hj).congr hg (hall v (List.mem_of_getElem? hj))) g2⟩
/-- so it may be called -/
theorem xk_done {stops : List Nat} {f : Nat} {K : xk_K} {tb : List xk_E} (h : xk_meth E ms cts cod M wd stops f K tb = true) (hpre : K.2.1.all (fun c => c.2.all (fun v => decide (v.1 < 2 → v.2.1 ≤ K.2.2.2.2.1.2.1))) = true) (hpa : K.1.all (xk_lw K.2.2.2.2.1.2.1) = true) (hΦ : ∀ r inp, Φ K.2.2.2.2.1.1 r inp = xk_fn Φ wd tb K.2.2.2.2.1.2.1 K.2.2.2.2.1.2.2 r inp)
    (hE : ck_Eok ms E) (hEM : E.1 = M.1.cls) (hms : ∀ q ∈ ms, ck_Mok q) (hcts : ∀ q ∈ cts, ∃ M' : ck_MM, ms[q.1]? = some M' ∧ xk_Ok l Φ nb M'.1 q.2.2 ∧ xk_gd wd q.2.2 = true ∧ q.2.2.2.1.all (fun c => c.2.all (fun v => decide (v.1 < 2 → v.2.1 ≤ q.2.2.2.2.2.2.1.2.1))) = true) (hg : ck_Glob) (hcod : ∀ pc i n, ck_cdAt cod pc = some (i, n) → decode M.2.1 pc = .ok (i, n)) : xk_Ok l Φ nb M K := by
  intro p e R s m args below meth c D AC S θ L ρ0 N vs n hn1 hn2 hB htr r1 r2 hKf hSt hL hargs hv hH
  unfold xk_meth at h
  simp only [Bool.and_eq_true, decide_eq_true_eq] at h
  obtain ⟨⟨⟨⟨hkn, hwd⟩, hwf⟩, hws⟩, hrun⟩ := h
  split at hrun
  · rename_i y hy
    split at hrun
    · rename_i i k hi
      simp only [Bool.and_eq_true, decide_eq_true_eq] at hrun
      obtain ⟨⟨hret, hpost⟩, htb⟩ := hrun
      generalize hq : K.2.2.2.2.1 = q at *
      obtain ⟨t, n0, ag⟩ := q
      dsimp only at *
      have hρ : ∀ g, g ≤ n0 → xk_rho Φ (t, n0, ag) ρ0 g = ρ0 g := fun g hg => by
        unfold xk_rho
        dsimp only
        rw [if_pos hg]
      generalize hv0 : xk_val Φ wd tb (fun g => xk_pos ag (ag.map ρ0) g) = ν
      have hok := xk_val_ok (Φ := Φ) (ρ := fun g => xk_pos ag (ag.map ρ0) g) hwf
      rw [hv0] at hok
      have hhi : ∀ g, n0 < g → xk_rho Φ (t, n0, ag) ρ0 g = ν g := by
        intro g h0
        unfold xk_rho
        dsimp only
        rw [if_neg (by omega), hΦ]
        unfold xk_fn
        rw [hv0, show n0 + 1 + (g - n0 - 1) = g by omega]
      have htok : xk_tok Φ wd (xk_rho Φ (t, n0, ag) ρ0) y.2.2.2.2.1 := by
        intro en hen
        have hen : en ∈ tb := by rw [← htb]; exact List.mem_reverse.mpr hen
        have := hok.2 en hen
        have hb0 : n0 < en.1 := by
          have key : ∀ {tb : List xk_E} {lo : Nat}, xk_wf wd lo tb = true → ∀ en ∈ tb, lo ≤ en.1 := by
            intro tb
            induction tb with
            | nil => intro lo _ en he; cases he
            | cons x t ih =>
              intro lo hw en he
              obtain ⟨b, op, a⟩ := x
              unfold xk_wf at hw
              simp only [Bool.and_eq_true, decide_eq_true_eq] at hw
              rcases List.mem_cons.mp he with rfl | he
              · exact hw.1.1.1
              · have := ih hw.2 en he
                have := hw.1.1.1
                omega
          exact key hwf en hen
        have hm : en.2.2.map (xk_ov (xk_rho Φ (t, n0, ag) ρ0)) = en.2.2.map (xk_ov ν) := List.map_congr_left fun o ho => by
          have hz := List.all_eq_true.mp (List.all_eq_true.mp hws en hen) o ho
          simp only [Bool.or_eq_true, beq_iff_eq, decide_eq_true_eq, List.contains_iff_mem] at hz
          unfold xk_ov
          split
          · rfl
          · rename_i h0
            rcases hz with (z | z) | z
            · exact absurd z h0
            · exact hhi _ z
            · by_cases hle : o.1 ≤ n0
              · rw [hρ _ hle, hok.1 _ (by omega)]
                exact (xk_pos_ok ρ0 z).symm
              · exact hhi _ (by omega)
        unfold xk_eok at this ⊢
        rw [hm]
        split
        · rename_i hop
          rw [if_pos hop] at this
          rw [hhi _ hb0]
          exact this
        · rename_i hop
          rw [if_neg hop] at this
          intro r hr
          rw [hhi _ (by omega)]
          exact this r hr
      have hyy : xk_Hy p l e R s m meth c M K.2.2.2.2.2.1 K.2.2.2.2.2.2 E ms cts Φ wd nb D AC S L s.heap cod := ⟨hB, htr, ⟨r1, r2⟩, ⟨n, hn1, hn2, hKf⟩, hSt, hL, hE, hEM, hms, hcts, hg, hcod⟩
      have hv' : ck_all (xk_R S θ (xk_rho Φ (t, n0, ag) ρ0) N) K.1 vs := hv.mono fun v w hvm hw => hw.congr hρ (of_decide_eq_true (List.all_eq_true.mp hpa v hvm))
      refine xw_entry hB.2.2.1 hargs hv' (hH.congr hρ hpre) hkn hwd ?_
      have hr := xw_ret (θ := θ) (args := args) (below := below) (N := N) (ρ := xk_rho Φ (t, n0, ag) ρ0) hyy hi hret htok
      rw [hpost] at hr
      exact xw_run (x := (0, xk_largs 0 K.1, [], K.2.1, [], n0 + 1)) hyy hy (Nat.succ_pos _) htok (by rw [hpost]; exact hr)
    · cases hrun
  · cases hrun
end XKF
