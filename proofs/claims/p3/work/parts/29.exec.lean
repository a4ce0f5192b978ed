/-! ===== the checker: runs from one marked place to the next; a measure falls ===== -/
def ck_lvI (ls : Array Slot) (i : Nat) : Int := match ls[i]? with
  | some (.val (.int x)) => x.toInt
  | _ => 0
abbrev ck_Ms : Type := Int × List (Nat × Int)
def ck_ev (σ : Nat → Int) (l : List (Nat × Int)) : Int := (l.map (fun q => q.2 * σ q.1)).sum
def ck_ins (g : Nat) (c : Int) : List (Nat × Int) → List (Nat × Int)
  | [] => [(g, c)]
  | (h, d) :: t => if h = g then (h, d + c) :: t else (h, d) :: ck_ins g c t
theorem ck_ins_ev (σ : Nat → Int) (g : Nat) (c : Int) : ∀ l : List (Nat × Int), ck_ev σ (ck_ins g c l) = ck_ev σ l + c * σ g
  | [] => by simp [ck_ins, ck_ev]
  | (h, d) :: t => by
    unfold ck_ins
    split
    · rename_i e
      subst e
      simp only [ck_ev, List.map_cons, List.sum_cons]
      rw [Int.add_mul]
      omega
    · have := ck_ins_ev σ g c t
      simp only [ck_ev, List.map_cons, List.sum_cons] at this ⊢
      omega
def ck_subL (l : List (Nat × Int)) : List (Nat × Int) → List (Nat × Int)
  | [] => l
  | (g, c) :: t => ck_ins g (-c) (ck_subL l t)
theorem ck_subL_ev (σ : Nat → Int) (l : List (Nat × Int)) : ∀ m : List (Nat × Int), ck_ev σ (ck_subL l m) = ck_ev σ l - ck_ev σ m
  | [] => by simp [ck_subL, ck_ev]
  | (g, c) :: t => by
    have := ck_subL_ev σ l t
    unfold ck_subL
    rw [ck_ins_ev, this]
    simp only [ck_ev, List.map_cons, List.sum_cons]
    rw [Int.neg_mul]
    omega
def ck_mx (c lo hi : Int) : Int := ck_max (c * lo) (c * hi)
theorem ck_mx_ok {c lo hi x : Int} (h1 : lo ≤ x) (h2 : x ≤ hi) : c * x ≤ ck_mx c lo hi := by
  have := (ck_lin c h1 h2).2
  unfold ck_mx
  rw [Int.mul_comm c lo, Int.mul_comm c hi, Int.mul_comm c x]
  exact this
theorem ck_mn_ok {c lo hi x : Int} (h1 : lo ≤ x) (h2 : x ≤ hi) : ck_min (c * lo) (c * hi) ≤ c * x := by
  have := (ck_lin c h1 h2).1
  rw [Int.mul_comm c lo, Int.mul_comm c hi, Int.mul_comm c x]
  exact this
def ck_lb (A : List (Nat × ck_V)) : List (Nat × Int) → Option Int
  | [] => some 0
  | (i, c) :: t => (match ck_loc A i, ck_lb A t with
    | some (.inl (lo, hi, _)), some k => some (k + ck_min (c * lo) (c * hi))
    | _, _ => none)
def ck_eb (A : List (Nat × ck_V)) : List (Nat × Int) → Option (Int × List (Nat × Int))
  | [] => some (0, [])
  | (i, c) :: t => (match ck_loc A i, ck_eb A t with
    | some (.inl (_, _, some (g, d))), some (k, l) => if 150 ≤ g ∧ g < 200 then some (k + c * d, ck_ins (g - 150) c l) else none
    | some (.inl (lo, hi, none)), some (k, l) => some (k + ck_mx c lo hi, l)
    | _, _ => none)
def ck_ub (A : List (Nat × ck_V)) : List (Nat × Int) → Option Int
  | [] => some 0
  | (g, c) :: t => (match ck_ub A t with
    | some k => if c = 0 then some k else (match ck_loc A g with
      | some (.inl (lo, hi, _)) => some (k + ck_mx c lo hi)
      | _ => none)
    | none => none)
def ck_dec (m0 : ck_Ms) (A0 : List (Nat × ck_V)) (m1 : ck_Ms) (A1 : List (Nat × ck_V)) : Bool := match ck_eb A1 m1.2 with
  | some (k, l) => (match ck_ub A0 (ck_subL l m0.2) with
    | some u => decide (m1.1 + k + u < m0.1)
    | none => false)
  | none => false
abbrev ck_An : Type := ck_A × ck_Ms × Nat × Nat
def ck_leA (B B' : ck_A) : Bool := B'.1.all (fun q => match ck_loc B.1 q.1 with
    | some v => ck_le v q.2
    | none => false) && B.2.1.length == B'.2.1.length && (B.2.1.zip B'.2.1).all (fun q => ck_le q.1 q.2) && ck_leT B.2.2 B'.2.2
/-- coming to a marked place -/
def ck_arr (z : Option (ck_Ms × List (Nat × ck_V))) (a : ck_An) (y : ck_N) : Bool := decide (y.2.2.1 ≤ a.2.2.1) && decide (y.2.2.2 ≤ a.2.2.2) && ck_leA y.2.1 a.1 && (match ck_lb y.2.1.1 a.2.1.2 with
    | some k => decide (0 ≤ a.2.1.1 + k)
    | none => false) && (match z with
    | none => true
    | some (m0, A0) => ck_dec m0 A0 a.2.1 y.2.1.1)
def ck_oz (ops : List (Nat × List ck_O)) (pc : Nat) : List ck_O := match ck_lk ops pc with
  | some l => l
  | none => []
def ck_ex (E : ck_E) (tab : List ck_D) (nb : Nat × Nat) (lw : Bool) (ms : List ck_MM) (cts : List (Nat × ck_Kt)) (nt : List (Nat × Nat × Nat)) (cod : List (List (Nat × Instr × Nat))) (M : ck_M) (K : ck_Ct) (al : List (List ck_C × (Option ck_V ⊕ Nat))) (wr : List Nat) (ops : List (Nat × List ck_O)) (ann : List (Nat × ck_An)) (z : Option (ck_Ms × List (Nat × ck_V))) : Nat → ck_N → Bool
  | 0, _ => false
  | f + 1, x => ck_opsK tab K.2.1.length (fun B => match ck_step E tab nb lw ms cts nt cod M K al wr (x.1, B, x.2.2) with
    | some X => ck_alT (fun y => match ck_lk ann y.1 with
      | some _ => ann.any (fun a => a.1 == y.1 && ck_arr z a.2 y)
      | none => ck_ex E tab nb lw ms cts nt cod M K al wr ops ann z f y) X
    | none => false) (ck_oz ops x.1) x.2.1
section CKEX
variable {p : Program} {l : Launch} {e : Env} {R : Room} {s : State} {m : MethodId} {args : Array Value} {below : List Frame} {meth : Method} {c : Code} {ce sl : Nat} {Q : State → Prop}
variable {pc : Nat} {nb : Nat × Nat} {al : List (List ck_C × (Option ck_V ⊕ Nat))} {D : va_G} {AC : Nat → ClassId} {S : Nat → Nat} {tab : List ck_D} {L : Heap} {ρ0 : Nat → Int} {wr : List Nat} {G0 : Nat → Nat} {N0 : List Nat} {H0 : Heap}
variable {A : List (Nat × ck_V)} {st : List ck_V} {T : List ck_C} {M : ck_M} {K : ck_Ct} {E : ck_E} {ms : List ck_MM} {cts : List (Nat × ck_Kt)} {cod : List (List (Nat × Instr × Nat))} {nt : List (Nat × Nat × Nat)}
theorem cw_ex (hy : ck_Hy p l e R s m meth c M K E ms cts tab nb D AC S L cod) (hQ : ∀ a ∈ al, ∀ t, ck_Fin D AC S tab L ρ0 wr G0 N0 (ck_alt K a) below s t → Q t) (hnp : N0.length = K.2.1.length) {lw : Bool} (hlw : lw = true → ρ0 149 = (S 3 : Int)) {ops : List (Nat × List ck_O)} {ann : List (Nat × ck_An)} {z : Option (ck_Ms × List (Nat × ck_V))}
    (ha : ∀ (y : ck_N) (a : ck_An), (y.1, a) ∈ ann → ck_arr z a y = true → ck_W p l e R s m args below meth c Q D AC S tab L M.2.2.1 ρ0 wr G0 N0 s.heap y.1 y.2.1 y.2.2.1 y.2.2.2) :
    ∀ (f : Nat) (x : ck_N), ck_ex E tab nb lw ms cts nt cod M K al wr ops ann z f x = true → ck_W p l e R s m args below meth c Q D AC S tab L M.2.2.1 ρ0 wr G0 N0 s.heap x.1 x.2.1 x.2.2.1 x.2.2.2
  | 0, _, h => by cases h
  | f + 1, x, h => by
    unfold ck_ex at h
    refine cw_opsK hnp (fun B hB => ?_) h
    split at hB
    · rename_i X hX
      refine cw_step (x := (x.1, B, x.2.2)) hy hnp hlw hQ hX fun y hyX => ?_
      have := ck_alT_ok hB y hyX
      split at this
      · obtain ⟨a, ham, hab⟩ := List.any_eq_true.mp this
        simp only [Bool.and_eq_true, beq_iff_eq] at hab
        exact ha y a.2 (by rw [← hab.1]; exact ham) hab.2
      · exact cw_ex hy hQ hnp hlw ha f y this
    · cases hB
theorem ck_loc_int {ρ : Nat → Int} {G : Nat → Nat} {N : List Nat} {nL : Nat} {ls : Array Slot} {lv : List (Nat × Value)} (h1 : lv_has ls nL lv) (h2 : ck_all (ck_RL S ρ G N) A lv) {i : Nat} {q : ck_Q} (h : ck_loc A i = some (.inl q)) : q.1 ≤ ck_lvI ls i ∧ ck_lvI ls i ≤ q.2.1 ∧ ∀ g c, q.2.2 = some (g, c) → ck_lvI ls i = ρ g + c := by
  obtain ⟨j, v, g1, ⟨x, rfl, gx⟩⟩ := ck_loc_ok h2 h
  have hls : ls[i]? = some (.val (.int x)) := lv_at h1 j g1
  have e : ck_lvI ls i = x.toInt := by
    unfold ck_lvI
    rw [hls]
  rw [e]
  exact gx
theorem ck_lb_ok {ρ : Nat → Int} {G : Nat → Nat} {N : List Nat} {nL : Nat} {ls : Array Slot} {lv : List (Nat × Value)} (h1 : lv_has ls nL lv) (h2 : ck_all (ck_RL S ρ G N) A lv) : ∀ {t : List (Nat × Int)} {k : Int}, ck_lb A t = some k → k ≤ ck_ev (ck_lvI ls) t
  | [], k, h => by cases h; exact Int.le_refl _
  | (i, c) :: t, k, h => by
    unfold ck_lb at h
    split at h
    · rename_i lo hi tg k' hl hk
      cases h
      have := ck_lb_ok h1 h2 hk
      obtain ⟨a1, a2, -⟩ := ck_loc_int h1 h2 hl
      have := ck_mn_ok (c := c) a1 a2
      simp only [ck_ev, List.map_cons, List.sum_cons] at *
      omega
    · cases h
theorem ck_eb_ok {σ : Nat → Int} {ρ : Nat → Int} {G : Nat → Nat} {N : List Nat} {nL : Nat} {ls : Array Slot} {lv : List (Nat × Value)} (hσ : ∀ g, 150 ≤ g → g < 200 → ρ g = σ (g - 150)) (h1 : lv_has ls nL lv) (h2 : ck_all (ck_RL S ρ G N) A lv) : ∀ {t : List (Nat × Int)} {k : Int} {l : List (Nat × Int)}, ck_eb A t = some (k, l) → ck_ev (ck_lvI ls) t ≤ k + ck_ev σ l
  | [], k, l, h => by cases h; simp [ck_ev]
  | (i, c) :: t, k, l, h => by
    unfold ck_eb at h
    split at h
    · rename_i lo hi g d k' l' hl hk
      split at h
      · rename_i hg
        cases h
        have ih := ck_eb_ok hσ h1 h2 hk
        obtain ⟨-, -, a3⟩ := ck_loc_int h1 h2 hl
        have a4 := a3 g d rfl
        rw [hσ g hg.1 hg.2] at a4
        rw [ck_ins_ev]
        simp only [ck_ev, List.map_cons, List.sum_cons] at ih ⊢
        rw [a4, Int.mul_add]
        omega
      · cases h
    · rename_i lo hi k' l' hl hk
      cases h
      have ih := ck_eb_ok hσ h1 h2 hk
      obtain ⟨a1, a2, -⟩ := ck_loc_int h1 h2 hl
      have := ck_mx_ok (c := c) a1 a2
      dsimp only at this
      simp only [ck_ev, List.map_cons, List.sum_cons] at ih ⊢
      omega
    · cases h
theorem ck_ub_ok {σ : Nat → Int} (hσ : ∀ (i : Nat) (q : ck_Q), ck_loc A i = some (.inl q) → q.1 ≤ σ i ∧ σ i ≤ q.2.1) : ∀ {t : List (Nat × Int)} {k : Int}, ck_ub A t = some k → ck_ev σ t ≤ k
  | [], k, h => by cases h; exact Int.le_refl _
  | (g, c) :: t, k, h => by
    unfold ck_ub at h
    split at h
    · rename_i k' hk
      have ih := ck_ub_ok hσ hk
      split at h
      · rename_i hc
        cases h
        simp only [ck_ev, List.map_cons, List.sum_cons] at ih ⊢
        rw [hc, Int.zero_mul]
        omega
      · split at h
        · rename_i lo hi tg hl
          cases h
          obtain ⟨a1, a2⟩ := hσ g _ hl
          have := ck_mx_ok (c := c) a1 a2
          simp only [ck_ev, List.map_cons, List.sum_cons] at ih ⊢
          dsimp only at this
          omega
        · cases h
    · cases h
def ck_me (a : ck_Ms) (ls : Array Slot) : Int := a.1 + ck_ev (ck_lvI ls) a.2
/-- what is described by one state is by a wider one -/
theorem ck_st.le {ρ1 : Nat → Int} {B B' : ck_A} {nL : Nat} {H : Heap} {ls : Array Slot} {vs : List Value} {locs : List Loc} (hl : ck_leA B B' = true) (h : ck_st D AC S tab L nL ρ1 wr G0 N0 H0 B H ls vs locs) : ck_st D AC S tab L nL ρ1 wr G0 N0 H0 B' H ls vs locs := by
  obtain ⟨ρ, G, N, lv, h1, h2, h3, h4, h5, h6, h7⟩ := h
  unfold ck_leA at hl
  simp only [Bool.and_eq_true, beq_iff_eq] at hl
  obtain ⟨⟨⟨l1, l2⟩, l3⟩, l4⟩ := hl
  have key : ∀ A' : List (Nat × ck_V), A'.all (fun q => match ck_loc B.1 q.1 with
    | some v => ck_le v q.2
    | none => false) = true → ∃ lv', lv_has ls nL lv' ∧ ck_all (ck_RL S ρ G N) A' lv' := by
    intro A'
    induction A' with
    | nil => exact fun _ => ⟨[], ⟨h1.1, h1.2.1, fun q hq => by cases hq⟩, ck_all.nil⟩
    | cons q t ih =>
      intro hall
      rw [List.all_cons, Bool.and_eq_true] at hall
      obtain ⟨lv', i1, i2⟩ := ih hall.2
      have hq := hall.1
      split at hq
      · rename_i v hv
        obtain ⟨j, w, g1, g2⟩ := ck_loc_ok h2 hv
        have hls : ls[q.1]? = some (.val w) := lv_at h1 j g1
        refine ⟨(q.1, w) :: lv', ⟨h1.1, h1.2.1, fun r hr => ?_⟩, ck_all.cons ⟨rfl, g2.le hq⟩ i2⟩
        rcases List.mem_cons.mp hr with rfl | hr
        · exact hls
        · exact i1.2.2 r hr
      · cases hq
  obtain ⟨lv', i1, i2⟩ := key B'.1 l1
  refine ⟨ρ, G, N, lv', i1, i2, ⟨by rw [← l2]; exact h3.1, fun i k v hk hv => ?_⟩, h4.leT l4, h5.leT l4, h6, h7⟩
  have hil : i < B.2.1.length := by rw [l2]; exact (List.getElem?_eq_some_iff.mp hk).1
  have hk0 : B.2.1[i]? = some B.2.1[i] := List.getElem?_eq_getElem hil
  have hz : (B.2.1[i], k) ∈ B.2.1.zip B'.2.1 := List.mem_of_getElem? (i := i) (by rw [List.getElem?_zip_eq_some]; exact ⟨hk0, hk⟩)
  exact (h3.2 i _ v hk0 hv).le (List.all_eq_true.mp l3 _ hz)
end CKEX
