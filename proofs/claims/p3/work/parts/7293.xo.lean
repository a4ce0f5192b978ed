/-! ===== contracts that only pass a called one's numbers on ===== -/
theorem xk_okp {l : Launch} {Φ : Nat → Nat → List Int → Int} {wd : Nat → Nat} {nb : Nat × Nat} {E : ck_E} {ms : List ck_MM} {cts : List xk_Q} {cod : List (List (Nat × Instr × Nat))} {M : ck_M} {K : xk_K} {f st : Nat} {i : Instr} (hkn : K.1.all xk_kn = true) (hwo : xk_wo K.1 ≤ M.2.2.1) (hpre : K.2.1.all (fun c => c.2.all (fun v => decide (v.1 < 2 → v.2.1 ≤ K.2.2.2.2.1.2.1))) = true) (hpa : K.1.all (xk_lw K.2.2.2.2.1.2.1) = true) (hgd : xk_gd wd K = true)
    (hE : ck_Eok ms E) (hEM : E.1 = M.1.cls) (hms : ∀ q ∈ ms, ck_Mok q) (hg : ck_Glob) (hcod : ∀ pc i n, ck_cdAt cod pc = some (i, n) → decode M.2.1 pc = .ok (i, n)) (hcts : xk_Cts l Φ wd nb ms cts) (hag : K.2.2.2.2.1.2.2.all (fun g => decide (0 < g ∧ g ≤ K.2.2.2.2.1.2.1)) = true)
    (hs : xk_sg E ms cts cod M K.2.2.2.2.2.1 K.2.2.2.2.2.2 wd [st] f K.2.2.2.2.1.2.1 (0, xk_largs 0 K.1, [], K.2.1, [], K.2.2.2.2.1.2.1 + 1) [(K.2.2.2.2.1.2.1 + 1, 1000 + K.2.2.2.2.1.1, K.2.2.2.2.1.2.2.map (fun g => (g, 0)))] (fun g => (g, 0)) st ([], K.2.2.1.toList, K.2.2.2.1) = true)
    (hi : ck_cdAt cod st = some (i, 1)) (hr : xk_ret M i 1 K.2.2.1.toList [] = some K.2.2.1) : xk_Cd l Φ wd nb M K := by
  refine xk_okw hkn hwo hpre hpa hgd hE hEM hms hg hcod ?_
  intro p e R s m args below meth c D AC S θ L ρ0 N hy
  refine xw_sg (ρ := ρ0) (hy.ct hcts) hs fun ρ1 h1 t1 => ?_
  generalize hq : K.2.2.2.2.1 = q at *
  obtain ⟨t, n, ag⟩ := q
  dsimp only at *
  have he : xk_eok Φ wd ρ1 (n + 1, 1000 + t, ag.map (fun g => (g, 0))) := t1 _ List.mem_cons_self
  unfold xk_eok at he
  dsimp only at he
  rw [if_neg (by omega), Nat.add_sub_cancel_left] at he
  have ea : (ag.map (fun g => ((g, 0) : xk_O))).map (xk_ov ρ1) = ag.map ρ0 := by
    rw [List.map_map]
    refine List.map_congr_left fun g hgm => ?_
    have := of_decide_eq_true (List.all_eq_true.mp hag g hgm)
    show (if g = 0 then (0 : Int) else ρ1 g) = ρ0 g
    rw [if_neg (by omega), h1 g this.2]
  rw [ea] at he
  have hv : ∀ g, 0 < g → g ≤ n + wd t → xk_rno (fun g => (g, 0)) ρ1 g = xk_rho Φ (t, n, ag) ρ0 g := fun g g0 g1 => by
    show (if g = 0 then (0 : Int) else ρ1 g) = if g ≤ n then ρ0 g else Φ t (g - n - 1) (ag.map ρ0)
    rw [if_neg (by omega)]
    by_cases hle : g ≤ n
    · rw [if_pos hle, h1 g hle]
    · rw [if_neg hle, ← he (g - n - 1) (by omega), show n + 1 + (g - n - 1) = g by omega]
  have hiz : ∀ v : xk_V, xk_gv wd (t, n, ag) v = true → xk_iz (xk_rno (fun g => (g, 0)) ρ1) (xk_rho Φ (t, n, ag) ρ0) v v := fun v h => by
    have h := of_decide_eq_true h
    dsimp only at h
    refine Or.inr ⟨rfl, fun hk => ?_, fun _ => rfl⟩
    unfold xk_ov
    split
    · rfl
    · rename_i h0
      exact hv _ (by omega) (h hk)
  unfold xk_gd at hgd
  rw [hq] at hgd
  simp only [Bool.and_eq_true] at hgd
  have hpost := hgd.1.1.1.1
  have hret := hgd.1.1.1.2
  have hw := xw_ret (θ := θ) (args := args) (below := below) (N := N) (ρ := xk_rho Φ (t, n, ag) ρ0) (x := (st, [], K.2.2.1.toList, K.2.2.2.1, [], 1)) hy hi hr (fun en hen => by cases hen)
  refine hw.iz (fun q hq => by cases hq) ?_ ?_
  · show ck_all _ K.2.2.1.toList K.2.2.1.toList
    cases hk : K.2.2.1 with
    | none => exact ck_all.nil
    | some v =>
      rw [hk] at hret
      exact ck_all.cons (hiz v hret) ck_all.nil
  · refine ⟨rfl, fun j a b ha hb => ?_⟩
    rw [ha] at hb
    cases hb
    refine ⟨rfl, rfl, fun k v w hv' hw' => ?_⟩
    rw [hv'] at hw'
    cases hw'
    exact hiz v (List.all_eq_true.mp (List.all_eq_true.mp hpost a (List.mem_of_getElem? ha)) v (List.mem_of_getElem? hv'))
/-- all that the rule wants, by one test -/
def xk_okb (E : ck_E) (ms : List ck_MM) (cts : List xk_Q) (cod : List (List (Nat × Instr × Nat))) (M : ck_M) (wd : Nat → Nat) (f st : Nat) (K : xk_K) : Bool := K.1.all xk_kn && decide (xk_wo K.1 ≤ M.2.2.1) && K.2.1.all (fun c => c.2.all (fun v => decide (v.1 < 2 → v.2.1 ≤ K.2.2.2.2.1.2.1))) && K.1.all (xk_lw K.2.2.2.2.1.2.1) && xk_gd wd K && K.2.2.2.2.1.2.2.all (fun g => decide (0 < g ∧ g ≤ K.2.2.2.2.1.2.1)) && xk_sg E ms cts cod M K.2.2.2.2.2.1 K.2.2.2.2.2.2 wd [st] f K.2.2.2.2.1.2.1 (0, xk_largs 0 K.1, [], K.2.1, [], K.2.2.2.2.1.2.1 + 1) [(K.2.2.2.2.1.2.1 + 1, 1000 + K.2.2.2.2.1.1, K.2.2.2.2.1.2.2.map (fun g => (g, 0)))] (fun g => (g, 0)) st ([], K.2.2.1.toList, K.2.2.2.1)
theorem xk_okb_ok {l : Launch} {Φ : Nat → Nat → List Int → Int} {wd : Nat → Nat} {nb : Nat × Nat} {E : ck_E} {ms : List ck_MM} {cts : List xk_Q} {cod : List (List (Nat × Instr × Nat))} {M : ck_M} {K : xk_K} {f st : Nat} {i : Instr} (h : xk_okb E ms cts cod M wd f st K = true)
    (hE : ck_Eok ms E) (hEM : E.1 = M.1.cls) (hms : ∀ q ∈ ms, ck_Mok q) (hg : ck_Glob) (hcod : ∀ pc i n, ck_cdAt cod pc = some (i, n) → decode M.2.1 pc = .ok (i, n)) (hcts : xk_Cts l Φ wd nb ms cts) (hi : ck_cdAt cod st = some (i, 1)) (hr : xk_ret M i 1 K.2.2.1.toList [] = some K.2.2.1) : xk_Cd l Φ wd nb M K := by
  unfold xk_okb at h
  simp only [Bool.and_eq_true] at h
  obtain ⟨⟨⟨⟨⟨⟨h1, h2⟩, h3⟩, h4⟩, h5⟩, h6⟩, h7⟩ := h
  exact xk_okp h1 (of_decide_eq_true h2) h3 h4 h5 hE hEM hms hg hcod hcts h6 h7 hi hr
