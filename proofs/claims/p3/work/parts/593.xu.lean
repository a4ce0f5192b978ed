/-! ===== a table's nodes are a function of what came in ===== -/
def xk_ct (wd : Nat → Nat) : Nat → List xk_E → Bool
  | _, [] => true
  | lo, (b, op, _) :: t => b == lo && xk_ct wd (lo + xk_wth wd op) t
def xk_fi (wd : Nat → Nat) : Nat → List xk_E → Nat
  | lo, [] => lo
  | lo, (_, op, _) :: t => xk_fi wd (lo + xk_wth wd op) t
theorem xk_fi_le {wd : Nat → Nat} : ∀ {tb : List xk_E} {lo : Nat}, lo ≤ xk_fi wd lo tb
  | [], lo => Nat.le_refl _
  | (_, op, _) :: t, lo => Nat.le_trans (Nat.le_add_right _ _) (xk_fi_le (tb := t) (lo := lo + xk_wth wd op))
theorem xk_uniq {Φ : Nat → Nat → List Int → Int} {wd : Nat → Nat} {ρ1 ρ2 : Nat → Int} {n : Nat} {ag : List Nat} (hag : ∀ g ∈ ag, ρ1 g = ρ2 g) : ∀ {tb : List xk_E} {lo : Nat}, n < lo → xk_ct wd lo tb = true → xk_wf wd lo tb = true → xk_ws n ag tb = true → xk_tok Φ wd ρ1 tb → xk_tok Φ wd ρ2 tb → (∀ g, n < g → g < lo → ρ1 g = ρ2 g) → ∀ g, n < g → g < xk_fi wd lo tb → ρ1 g = ρ2 g
  | [], lo, _, _, _, _, _, _, h, g, g1, g2 => h g g1 g2
  | (b, op, a) :: t, lo, hn, hc, hw, hs, t1, t2, h, g, g1, g2 => by
    unfold xk_ct at hc
    simp only [Bool.and_eq_true, beq_iff_eq] at hc
    obtain ⟨hb, hc⟩ := hc
    subst hb
    unfold xk_wf at hw
    simp only [Bool.and_eq_true, decide_eq_true_eq] at hw
    obtain ⟨⟨⟨w1, w2⟩, w3⟩, w4⟩ := hw
    unfold xk_ws at hs
    simp only [List.all_cons, Bool.and_eq_true] at hs
    obtain ⟨s1, s2⟩ := hs
    have ha : a.map (xk_ov ρ1) = a.map (xk_ov ρ2) := List.map_congr_left fun o ho => by
      have z := List.all_eq_true.mp s1 o ho
      have zb := of_decide_eq_true (List.all_eq_true.mp w3 o ho)
      simp only [Bool.or_eq_true, beq_iff_eq, decide_eq_true_eq, List.contains_iff_mem] at z
      unfold xk_ov
      split
      · rfl
      · rename_i h0
        rcases z with (z | z) | z
        · exact absurd z h0
        · exact h _ z zb
        · exact hag _ z
    refine xk_uniq hag (tb := t) (lo := b + xk_wth wd op) (by omega) hc w4 (by unfold xk_ws; exact s2) (fun e he => t1 e (List.mem_cons_of_mem _ he)) (fun e he => t2 e (List.mem_cons_of_mem _ he)) (fun g g1 g2 => ?_) g g1 g2
    by_cases hg : g < b
    · exact h g g1 hg
    · have e1 := t1 (b, op, a) List.mem_cons_self
      have e2 := t2 (b, op, a) List.mem_cons_self
      unfold xk_eok at e1 e2
      dsimp only at e1 e2
      rw [ha] at e1
      split at e1
      · rename_i hop
        rw [if_pos hop] at e2
        have hw1 : xk_wth wd op = 1 := by unfold xk_wth; rw [if_pos hop]
        have : g = b := by omega
        rw [this, e1, e2]
      · rename_i hop
        rw [if_neg hop] at e2
        have hw1 : xk_wth wd op = wd (op - 1000) := by unfold xk_wth; rw [if_neg hop]
        have z1 := e1 (g - b) (by omega)
        have z2 := e2 (g - b) (by omega)
        rw [show b + (g - b) = g by omega] at z1 z2
        rw [z1, z2]
/-- numbers by a table, of the numbers that came in -/
def xk_tv (Φ : Nat → Nat → List Int → Int) (wd : Nat → Nat) (tb : List xk_E) (ag : List Nat) (inp : List Int) : Nat → Int := xk_val Φ wd tb (fun g => xk_pos ag inp g)
def xk_tf (Φ : Nat → Nat → List Int → Int) (wd : Nat → Nat) (tb : List xk_E) (ag : List Nat) (outs : List xk_O) (inp : List Int) : List Int := outs.map (xk_ov (xk_tv Φ wd tb ag inp))
def xk_tck (wd : Nat → Nat) (n : Nat) (ag : List Nat) (tb : List xk_E) (outs : List xk_O) : Bool := xk_ct wd (n + 1) tb && xk_wf wd (n + 1) tb && xk_ws n ag tb && outs.all (fun o => o.1 == 0 || ag.contains o.1 || (decide (n < o.1) && decide (o.1 < xk_fi wd (n + 1) tb))) && ag.all (fun g => decide (g ≤ n))
theorem xk_tf_ok {Φ : Nat → Nat → List Int → Int} {wd : Nat → Nat} {ρ : Nat → Int} {n : Nat} {ag : List Nat} {tb : List xk_E} {outs : List xk_O} (h : xk_tck wd n ag tb outs = true) (ht : xk_tok Φ wd ρ tb) : outs.map (xk_ov ρ) = xk_tf Φ wd tb ag outs (ag.map ρ) := by
  unfold xk_tck at h
  simp only [Bool.and_eq_true] at h
  obtain ⟨⟨⟨⟨h1, h2⟩, h3⟩, h4⟩, h5⟩ := h
  obtain ⟨i1, i2⟩ := xk_val_ok (Φ := Φ) (ρ := fun g => xk_pos ag (ag.map ρ) g) h2
  have hag : ∀ g ∈ ag, ρ g = xk_val Φ wd tb (fun g => xk_pos ag (ag.map ρ) g) g := fun g hg => by
    have := of_decide_eq_true (List.all_eq_true.mp h5 g hg)
    rw [i1 g (by omega), xk_pos_ok ρ hg]
  have hu := xk_uniq hag (Nat.lt_succ_self n) h1 h2 h3 ht i2 (fun g a b => by omega)
  unfold xk_tf xk_tv
  refine List.map_congr_left fun o ho => ?_
  have z := List.all_eq_true.mp h4 o ho
  simp only [Bool.or_eq_true, Bool.and_eq_true, beq_iff_eq, decide_eq_true_eq, List.contains_iff_mem] at z
  unfold xk_ov
  split
  · rfl
  · rename_i h0
    rcases z with (z | z) | z
    · exact absurd z h0
    · exact hag _ z
    · exact hu _ z.1 z.2
/-- what the pure side needs of it -/
theorem xk_tv_ok {Φ : Nat → Nat → List Int → Int} {wd : Nat → Nat} {n : Nat} {ag : List Nat} {tb : List xk_E} (h2 : xk_wf wd (n + 1) tb = true) (inp : List Int) : (∀ g, g ≤ n → xk_tv Φ wd tb ag inp g = xk_pos ag inp g) ∧ xk_tok Φ wd (xk_tv Φ wd tb ag inp) tb := by
  obtain ⟨i1, i2⟩ := xk_val_ok (Φ := Φ) (ρ := fun g => xk_pos ag inp g) h2
  exact ⟨fun g hg => i1 g (by omega), i2⟩
section XU
variable {p : Program} {l : Launch} {e : Env} {R : Room} {s : State} {m : MethodId} {args : Array Value} {below : List Frame} {meth : Method} {c : Code} {Q : State → Prop}
variable {D : va_G} {AC : Nat → ClassId} {S : Nat → Nat} {θ : Nat → Value} {L : Heap} {ρ : Nat → Int} {N : List Nat} {H0 : Heap} {nL : Nat}
/-- the second local is a constant -/
theorem xk_W.loc2 {pc i k : Nat} {q : Nat × xk_V} {ls : List (Nat × xk_V)} {st : List xk_V} {T : List xk_C} {o : xk_O} {b : Int} (hk : k < 2) (h : xk_ov ρ o = b) (kk : xk_W p l e R s m args below meth c Q D AC S θ L nL ρ N H0 pc (q :: (i, (k, (0, b))) :: ls, st, T)) : xk_W p l e R s m args below meth c Q D AC S θ L nL ρ N H0 pc (q :: (i, (k, o)) :: ls, st, T) := by
  intro H lv st' locs ⟨w, h1, h2, h3, h4, h5, h6⟩
  obtain ⟨v0, vs0, rfl, g0, h2⟩ := h2.uncons
  obtain ⟨v, vs, rfl, g1, g2⟩ := h2.uncons
  refine kk H lv _ locs ⟨_, h1, ck_all.cons g0 (ck_all.cons ⟨g1.1, ?_⟩ g2), h3, h4, h5, h6⟩
  have g := g1.2
  match k, hk, g with
  | 0, _, g => obtain ⟨x, hx, hx'⟩ := g; exact ⟨x, hx, by rw [hx']; exact h⟩
  | 1, _, g => obtain ⟨x, hx, hx'⟩ := g; exact ⟨x, hx, by rw [hx']; exact h⟩
end XU
