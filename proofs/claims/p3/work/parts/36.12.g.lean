/-! the second checker: 12 -/
/-! ===== an array of arrays; names given up to a type; a typed object named; ghosts ===== -/
section CKO
variable {p : Program} {l : Launch} {e : Env} {R : Room} {s : State} {m : MethodId} {args : Array Value} {below : List Frame} {meth : Method} {c : Code} {cells slots : Nat} {Q : State → Prop}
variable {cc : ByteArray} {pc pc2 nL : Nat} {D : va_G} {AC : Nat → ClassId} {S : Nat → Nat} {tab : List ck_D} {L : Heap} {ρ0 : Nat → Int} {wr : List Nat} {G0 : Nat → Nat} {N0 : List Nat} {H0 : Heap}
variable {A : List (Nat × ck_V)} {st : List ck_V} {T : List ck_C} {own : String}
/-- new int[n][k], typed -/
theorem gcw_multi (hexec : p.tables.exec = Jvm.exec) (hb : c.code = cc) (hown : s.vm.findClass own = some m.cls) (hK : va_K D ck_cl (ck_tys AC) s) {idx τo τi n k : Nat} {sgo sgi : List (Nat × ck_V)} {qn qk : ck_Q} (hclk : (Cond.classLink own idx "[[I").before args s = true) (hover : (Cond.arrayOver (.array .int)).before args s = true) (harr : (Cond.arrayClass .int).before args s = true)
    (ho : tab[τo]? = some (.inl (7, n, sgo))) (hi : tab[τi]? = some (.inl (0, k, sgi))) (zo : τo ≠ 0) (hrg : gk_isr τo = true → τo + 2000 ∈ wr ∧ cells = 0) (hro : gk_isz τo = true → τo = 13) (hri : gk_isr τi = false) (hr7 : τi ≠ 49) (zi : τi ≠ 0) (hso : sgo.all (fun q => ck_le (.inr (.inr (2, τi))) q.2) = true) (hsi : ck_dk 0 sgi = true) (hn : qn.1 = (n : Int) ∧ qn.2.1 = (n : Int)) (hk : qk.1 = (k : Int) ∧ qk.2.1 = (k : Int)) (hn6 : n ≤ 60000) (hk6 : k ≤ 60000)
    (hc : cells + (1 + n) ≤ R.cells) (hs : slots + (n + n * k) ≤ R.slots) (hd : decode cc pc = .ok (.multianewarray idx 2, 4))
    (kk : gck_W p l e R s m args below meth c Q D AC S tab L nL ρ0 wr G0 N0 s.heap (pc + 4) (A, .inr (.inr (2, τo)) :: st, T) (cells + 1 + n) (slots + n + n * k)) : gck_W p l e R s m args below meth c Q D AC S tab L nL ρ0 wr G0 N0 s.heap pc (A, .inl qk :: .inl qn :: st, T) cells slots := by
  intro H ls vs locs h
  obtain ⟨ρ, G, N, lv, h1, h2, h3, h4, h5, h6, h7⟩ := h
  obtain ⟨_, _, rfl, ⟨xk, rfl, gk⟩, g1⟩ := h3.uncons
  obtain ⟨_, vs', rfl, ⟨xn, rfl, gn⟩, g2⟩ := g1.uncons
  have z0 : (0 : Int32).toInt = 0 := rfl
  have cn : xn.toNatClampNeg = n := by show xn.toInt.toNat = n; have := gn.1; have := gn.2.1; omega
  have ck : xk.toNatClampNeg = k := by show xk.toInt.toNat = k; have := gk.1; have := gk.2.1; omega
  intro U hU X
  obtain ⟨vm₁, cA, comp, -, fA, fC, hO, -, X', step⟩ := X.multianewarray2F hexec hown (ty := .int) hclk hover harr (g := F0 m pc ls (.int xk :: .int xn :: vs')) rfl (by rw [hb]; exact hd) rfl (fun h => by have := Int32.lt_iff_toInt_lt.mp h; have := gn.1; have := gn.2.1; omega) (fun h => by have := Int32.lt_iff_toInt_lt.mp h; have := gk.1; have := gk.2.1; omega) (by rw [cn]; omega) (by rw [ck]; show k * 4 ≤ _; omega) (by rw [ck]; omega) rfl rfl (by rw [cn]; exact hc) (by rw [cn, ck]; exact hs)
  have eI : comp = AC 0 := Option.some.inj (fC.symm.trans (hK.2 0 _ rfl).2)
  have eO : cA = AC 7 := Option.some.inj (fA.symm.trans (hK.2 7 _ rfl).2)
  subst eI
  subst eO
  rw [cn, ck] at X' step
  generalize hF : Jvm.Free.Multi.fill (U.setVm vm₁) (AC 7) (AC 0) n k (defaultValue .int) n = F at X' step
  have hTh : (U.setVm vm₁).heap = H := hU
  obtain ⟨f1, f2, -, -⟩ := Jvm.Free.Multi.fill_facts (U.setVm vm₁) (AC 7) (AC 0) n k (defaultValue .int) n
  rw [hF, hTh] at f1 f2
  have hold : ∀ x : Nat, x < H.size → F.heap[x]? = H[x]? := fun x hx => by
    have := Jvm.Free.Multi.fill_old (U.setVm vm₁) (AC 7) (AC 0) n k (defaultValue .int) (a := x) (by rw [hTh]; exact hx) n
    rw [hF, hTh] at this
    exact this
  have hrow : ∀ j : Nat, j < n → F.heap[H.size + 1 + j]? = some (arrV (AC 0) k (fun _ => .int 0)) := fun j hj => by
    have := Jvm.Free.Multi.fill_inner (U.setVm vm₁) (AC 7) (AC 0) n k (defaultValue .int) n j hj
    rw [hF, hTh] at this
    rw [this, ← arrV_new]
    rfl
  have hout : ∀ (N h0 i : Nat), Jvm.Free.Multi.outerC (AC 7) N h0 i = arrV (AC 7) N (fun j => if j < i then .ref (h0 + 1 + j) else .null) := by
    intro N h0 i
    induction i with
    | zero =>
      show ({ cls := AC 7, slots := Array.replicate N .null, vm := .none } : Cell) = _
      rw [arrV_new]
      exact congrArg (arrV (AC 7) N) (funext fun j => by simp)
    | succ i ih =>
      show (Jvm.Free.Multi.outerC (AC 7) N h0 i).setSlot i (.ref (h0 + 1 + i)) = _
      rw [ih, arrV_store]
      refine congrArg (arrV (AC 7) N) (funext fun j => ?_)
      by_cases e : j = i
      · subst e
        simp [updV]
      · by_cases h : j < i
        · simp [updV, e, h, Nat.lt_succ_of_lt h]
        · simp [updV, e, h, show ¬ j < i + 1 by omega]
  rw [hout] at f2
  have hG' : ∀ q, q < H.size → (fun q => if q = H.size then τo else if H.size < q ∧ q < H.size + 1 + n then τi else G q) q = G q := fun q hq => by
    show (if q = H.size then τo else if H.size < q ∧ q < H.size + 1 + n then τi else G q) = G q
    rw [if_neg (by omega), if_neg (by omega)]
  generalize hGe : (fun q => if q = H.size then τo else if H.size < q ∧ q < H.size + 1 + n then τi else G q) = G' at hG'
  have ge : ∀ q, G' q = if q = H.size then τo else if H.size < q ∧ q < H.size + 1 + n then τi else G q := fun q => by rw [← hGe]
  have hzz : ∀ q, G q ≠ 0 → G' q = G q := fun q hne => by
    by_cases hl : q < H.size
    · exact hG' q hl
    · exact absurd (h4.zero (by omega)) hne
  have hH : ck_H D AC S tab L ρ G' N T F.heap := by
    refine h4.newMany (by omega) hold hG' (fun q hq hne => ?_)
    by_cases e1 : q = H.size
    · subst e1
      have e2 : G' H.size = τo := by rw [ge, if_pos rfl]
      rw [e2]
      unfold ck_ty
      rw [ho]
      refine ⟨_, f2, fun j hj => ?_⟩
      rw [if_pos hj]
      refine ck_kat_all (P := fun kd => ck_R S (fun _ => 0) G' [] kd (.ref (H.size + 1 + j))) (fun q hq => ?_) trivial j
      have := List.all_eq_true.mp hso q hq
      refine ck_R.le this ⟨H.size + 1 + j, rfl, ?_, zi⟩
      rw [ge, if_neg (by omega), if_pos (by omega)]
    · by_cases e2 : H.size < q ∧ q < H.size + 1 + n
      · have e3 : G' q = τi := by rw [ge, if_neg e1, if_pos e2]
        rw [e3]
        unfold ck_ty
        rw [hi]
        have := hrow (q - H.size - 1) (by omega)
        rw [show H.size + 1 + (q - H.size - 1) = q by omega] at this
        refine ⟨_, this, fun j hj => ?_⟩
        refine ck_kat_all (P := fun kd => ck_R S (fun _ => 0) G' [] kd (.int 0)) (fun q hq => ?_) trivial j
        have := List.all_eq_true.mp hsi q hq
        simp only [Bool.and_eq_true] at this
        exact ck_R.le this.1 ⟨0, rfl, by decide, by decide, fun g c q => by cases q⟩
      · exfalso
        apply hne
        rw [ge, if_neg e1, if_neg e2]
        exact h4.zero hq
  obtain ⟨t, a1, b1⟩ := kk F.heap ls (.ref H.size :: vs') locs ⟨ρ, G', N, lv, h1, ck_allL_grow hzz h2, ck_all.cons ⟨H.size, rfl, by rw [ge, if_pos rfl], zo⟩ (ck_all_grow hzz g2), hH, h5.new (by omega) hold hG' ⟨[], by simp⟩ (fun i c a hc ha ho => Or.inl ⟨c, hc, ha, ho⟩) (fun q hq hr => by
    rw [ge] at hr ⊢
    split at hr
    · rename_i e0
      rw [if_pos e0]
      subst e0
      have h9 := h5.1.1
      have hsz := X.same.2.2.1
      have hsz : H.size ≤ s.heap.size + cells := by subst hU; exact hsz
      refine ⟨fun hi => ⟨(hrg hi).1, by have := (hrg hi).2; omega⟩, fun e => (by have hc9 : gk_isz τo = true := (by rw [e]; rfl); have := hro hc9; omega), fun _ => ⟨fun e => ⟨fun k => H.size + 1 + k, fun i j h => by dsimp only at h; omega, fun j v hj hv => ?_⟩, fun e j v hj hv => ?_⟩⟩
      · unfold gk_at at hv
        rw [f2] at hv
        dsimp only at hv
        by_cases hjn : j < n
        · rw [arrV_read _ _ hjn, if_pos hjn] at hv
          exact (Option.some.inj hv).symm
        · rw [Array.getElem?_eq_none (by rw [arrV_size]; omega)] at hv
          cases hv
      · have hc9 : gk_isz τo = true := by rcases e with e | e <;> (rw [e]; rfl)
        have := hro hc9
        rcases e with e | e <;> omega
    · rename_i e0
      rw [if_neg e0]
      split at hr
      · rename_i e1
        rw [if_pos e1]
        refine ⟨fun hi => (by rw [hri] at hi; cases hi), hr7, fun _ => ⟨fun e => ?_, fun e j v hj hv => ?_⟩⟩
        · rw [e] at hri
          cases hri
        · have h8 := hrow (q - (H.size + 1)) (by omega)
          rw [show H.size + 1 + (q - (H.size + 1)) = q by omega] at h8
          unfold gk_at at hv
          rw [h8] at hv
          dsimp only at hv
          by_cases hjn : j < k
          · rw [arrV_read _ _ hjn] at hv
            exact (Option.some.inj hv).symm
          · rw [Array.getElem?_eq_none (by rw [arrV_size]; omega)] at hv
            cases hv
      · exact absurd (h4.zero hq) hr), h6, h7⟩ F rfl X'
  refine ⟨t, step t ?_, b1⟩
  have e : U.heap.size = H.size := by rw [hU]
  rw [e]
  exact a1
theorem gcw_close {B : ck_A} {i τ : Nat} {d : ck_C} (hi : B.2.2[i]? = some d) (hf : ck_fitsT tab i τ d = true) (hz : τ ≠ 0) (hn : N0.length ≤ i) (hrg : gk_isz τ = false)
    (kk : gck_W p l e R s m args below meth c Q D AC S tab L nL ρ0 wr G0 N0 H0 pc (ck_clo i τ B) cells slots) : gck_W p l e R s m args below meth c Q D AC S tab L nL ρ0 wr G0 N0 H0 pc B cells slots := by
  intro H ls vs locs h
  obtain ⟨ρ, G, N, lv, h1, h2, h3, h4, h5, h6, h7⟩ := h
  obtain ⟨⟨k1, k2, k3⟩, hlen, hT, hnd⟩ := id h4
  have hil : i < B.2.2.length := (List.getElem?_eq_some_iff.mp hi).1
  have ha : N[i]? = some N[i] := List.getElem?_eq_getElem (by omega)
  generalize N[i] = a at ha
  have htc := hT i d a hi ha
  obtain ⟨hty, hod⟩ := ck_fitsT_ok hf htc ha hz
  obtain ⟨a1, a2, a3⟩ := htc.own hod
  have hzz : ∀ q, G q ≠ 0 → ck_up G a τ q = G q := fun q hne => by
    unfold ck_up
    rw [if_neg (fun e => hne (by rw [e]; exact a2))]
  have hdi : ∀ (j : Nat) (d' : ck_C) (b : Nat), (B.2.2.set i ((2, 0), []))[j]? = some d' → N[j]? = some b → (j = i ∧ d' = ((2, 0), [])) ∨ (j ≠ i ∧ B.2.2[j]? = some d' ∧ (ck_own d' = true ∨ ck_foc d' → b ≠ a)) := by
    intro j d' b hj hb
    by_cases ej : i = j
    · subst ej
      rw [List.getElem?_set_self hil] at hj
      cases hj
      exact Or.inl ⟨rfl, rfl⟩
    · rw [List.getElem?_set_ne ej] at hj
      refine Or.inr ⟨Ne.symm ej, hj, fun hk eb => ?_⟩
      subst eb
      rcases hk with o | o
      · exact ej (hnd i j d d' b hi hj hod o ha hb)
      · have := (hT j d' b hj hb).foc o
        exact this.2.1 (this.1.symm.trans a2)
  refine kk H ls vs locs ⟨ρ, ck_up G a τ, N, lv, h1, h2.map _ (fun q w hq => ⟨hq.1, ck_cv_ok ha a2 hz hq.2⟩), h3.map _ (fun q w hq => ck_cv_ok ha a2 hz hq), ⟨⟨k1, k2, fun b hb => ?_⟩, by simp [ck_clo, hlen], fun j d' b hj hb => ?_, fun j1 j2 d1 d2 b e1 e2 o1 o2 n1 n2 => ?_⟩, ?_, h6, h7⟩
  · by_cases e : b = a
    · subst e
      have : ck_up G b τ b = τ := by unfold ck_up; rw [if_pos rfl]
      rw [this]
      exact ⟨a1, hty⟩
    · have e2 : ck_up G a τ b = G b := by unfold ck_up; rw [if_neg e]
      rw [e2] at hb ⊢
      exact ⟨(k3 b hb).1, (k3 b hb).2.grow hzz⟩
  · simp only [ck_clo, List.getElem?_map] at hj
    obtain ⟨d0, hd0, rfl⟩ := Option.map_eq_some_iff.mp hj
    rcases hdi j d0 b hd0 hb with ⟨-, rfl⟩ | ⟨-, hj', hne⟩
    · exact trivial
    · exact (hT j d0 b hj' hb).mapV (ck_cv i τ) (fun o => by unfold ck_up; rw [if_neg (hne (Or.inl o))]) (fun o => by unfold ck_up; rw [if_neg (hne (Or.inr o))]) (fun k v _ hv => ck_cv_ok ha a2 hz hv)
  · simp only [ck_clo, List.getElem?_map] at e1 e2
    obtain ⟨d1', hd1, rfl⟩ := Option.map_eq_some_iff.mp e1
    obtain ⟨d2', hd2, rfl⟩ := Option.map_eq_some_iff.mp e2
    rcases hdi j1 d1' b hd1 n1 with ⟨-, rfl⟩ | ⟨-, x1, -⟩
    · simp [ck_own] at o1
    · rcases hdi j2 d2' b hd2 n2 with ⟨-, rfl⟩ | ⟨-, x2, -⟩
      · simp [ck_own] at o2
      · exact hnd j1 j2 d1' d2' b x1 x2 o1 o2 n1 n2
  · have h5x := h5.2
    obtain ⟨f1, f2, f3, f4, f5, f6⟩ := h5.1
    have hia := f6 i d a hi ha hod hn
    refine ⟨⟨f1, fun q hq => ?_, f3, f4, f5, fun j d' b hj hb ho hn' => ?_⟩, h5x.1, fun q hq hr => ?_⟩
    rotate_left 2
    · unfold ck_up at hr ⊢
      split at hr
      · rename_i hne
        rw [if_pos hne]
        exact gk_nw.free hrg
      · rename_i hne
        rw [if_neg hne]
        exact h5x.2 q hq hr
    · unfold ck_up
      rw [if_neg (by omega)]
      exact f2 q hq
    · simp only [ck_clo, List.getElem?_map] at hj
      obtain ⟨d0, hd0, rfl⟩ := Option.map_eq_some_iff.mp hj
      rcases hdi j d0 b hd0 hb with ⟨-, rfl⟩ | ⟨-, x1, -⟩
      · simp [ck_own] at ho
      · exact f6 j d0 b x1 hb ho hn'
theorem gk_close {B : ck_A} {i τ : Nat} {d : ck_C} (hi : B.2.2[i]? = some d) (hf : ck_fitsT tab i τ d = true) (hz : τ ≠ 0) {H : Heap} {vs : List Value} {ρ : Nat → Int} {G : Nat → Nat} {N : List Nat} {lv : List (Nat × Value)} (h2 : ck_all (ck_RL S ρ G N) B.1 lv) (h3 : ck_all (ck_R S ρ G N) B.2.1 vs) (h4 : ck_H D AC S tab L ρ G N B.2.2 H) : ∃ a, N[i]? = some a ∧ G a = 0 ∧ ck_all (ck_RL S ρ (ck_up G a τ) N) (ck_clo i τ B).1 lv ∧ ck_all (ck_R S ρ (ck_up G a τ) N) (ck_clo i τ B).2.1 vs ∧ ck_H D AC S tab L ρ (ck_up G a τ) N (ck_clo i τ B).2.2 H := by
  obtain ⟨⟨k1, k2, k3⟩, hlen, hT, hnd⟩ := id h4
  have hil : i < B.2.2.length := (List.getElem?_eq_some_iff.mp hi).1
  have ha : N[i]? = some N[i] := List.getElem?_eq_getElem (by omega)
  generalize N[i] = a at ha
  have htc := hT i d a hi ha
  obtain ⟨hty, hod⟩ := ck_fitsT_ok hf htc ha hz
  obtain ⟨a1, a2, a3⟩ := htc.own hod
  have hzz : ∀ q, G q ≠ 0 → ck_up G a τ q = G q := fun q hne => by
    unfold ck_up
    rw [if_neg (fun e => hne (by rw [e]; exact a2))]
  have hdi : ∀ (j : Nat) (d' : ck_C) (b : Nat), (B.2.2.set i ((2, 0), []))[j]? = some d' → N[j]? = some b → (j = i ∧ d' = ((2, 0), [])) ∨ (j ≠ i ∧ B.2.2[j]? = some d' ∧ (ck_own d' = true ∨ ck_foc d' → b ≠ a)) := by
    intro j d' b hj hb
    by_cases ej : i = j
    · subst ej
      rw [List.getElem?_set_self hil] at hj
      cases hj
      exact Or.inl ⟨rfl, rfl⟩
    · rw [List.getElem?_set_ne ej] at hj
      refine Or.inr ⟨Ne.symm ej, hj, fun hk eb => ?_⟩
      subst eb
      rcases hk with o | o
      · exact ej (hnd i j d d' b hi hj hod o ha hb)
      · have := (hT j d' b hj hb).foc o
        exact this.2.1 (this.1.symm.trans a2)
  refine ⟨a, ha, a2, h2.map _ (fun q w hq => ⟨hq.1, ck_cv_ok ha a2 hz hq.2⟩), h3.map _ (fun q w hq => ck_cv_ok ha a2 hz hq), ⟨⟨k1, k2, fun b hb => ?_⟩, by simp [ck_clo, hlen], fun j d' b hj hb => ?_, fun j1 j2 d1 d2 b e1 e2 o1 o2 n1 n2 => ?_⟩⟩
  · by_cases e : b = a
    · subst e
      have : ck_up G b τ b = τ := by unfold ck_up; rw [if_pos rfl]
      rw [this]
      exact ⟨a1, hty⟩
    · have e2 : ck_up G a τ b = G b := by unfold ck_up; rw [if_neg e]
      rw [e2] at hb ⊢
      exact ⟨(k3 b hb).1, (k3 b hb).2.grow hzz⟩
  · simp only [ck_clo, List.getElem?_map] at hj
    obtain ⟨d0, hd0, rfl⟩ := Option.map_eq_some_iff.mp hj
    rcases hdi j d0 b hd0 hb with ⟨-, rfl⟩ | ⟨-, hj', hne⟩
    · exact trivial
    · exact (hT j d0 b hj' hb).mapV (ck_cv i τ) (fun o => by unfold ck_up; rw [if_neg (hne (Or.inl o))]) (fun o => by unfold ck_up; rw [if_neg (hne (Or.inr o))]) (fun k v _ hv => ck_cv_ok ha a2 hz hv)
  · simp only [ck_clo, List.getElem?_map] at e1 e2
    obtain ⟨d1', hd1, rfl⟩ := Option.map_eq_some_iff.mp e1
    obtain ⟨d2', hd2, rfl⟩ := Option.map_eq_some_iff.mp e2
    rcases hdi j1 d1' b hd1 n1 with ⟨-, rfl⟩ | ⟨-, x1, -⟩
    · simp [ck_own] at o1
    · rcases hdi j2 d2' b hd2 n2 with ⟨-, rfl⟩ | ⟨-, x2, -⟩
      · simp [ck_own] at o2
      · exact hnd j1 j2 d1' d2' b x1 x2 o1 o2 n1 n2
end CKO
