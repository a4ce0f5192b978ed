/-! ===== what an exact contract wants, of a typed state ===== -/
def xg_find : List (Nat × Nat × Nat × Nat) → Nat → Option (Nat × Nat)
  | [], _ => none
  | (s, k, i, j) :: t, g => if s ≤ g ∧ g < s + k then some (i, j + (g - s)) else xg_find t g
def xg_I (v : Value) : Int := match v with
  | .int x => x.toInt
  | .long x => x.toInt
  | _ => 0
def xg_ρ (bl : List (Nat × Nat × Nat × Nat)) (g : Nat → Nat → Value) (ext : Nat → Int) (n : Nat) : Int := match xg_find bl n with
  | some q => xg_I (g q.1 q.2)
  | none => ext n
def xg_θ (g : Nat → Nat → Value) (q : Nat) : Value := if q < 1000000 then g (q / 1000) (q % 1000) else g ((q - 1000000) / 10000) ((q - 1000000) % 10000)
/-- what a cell's place is, by the types; cells of the run's own by their names -/
def gx_kd (tab : List ck_D) (Tl : List ck_C) (rt : List (Nat × Nat)) (τs : List Nat) (i j : Nat) : Option ck_V := match ck_lk rt i with
  | some nm => (match Tl[nm]? with
    | some c => c.2[j]?
    | none => none)
  | none => (match tab[τs.getD i 0]? with
    | some (.inl (_, n, sg)) => if j < n then some (ck_kat sg j) else none
    | some (.inr (_, ks)) => ks[j]?
    | none => none)
def gx_hd (tab : List ck_D) (Tl : List ck_C) (rt : List (Nat × Nat)) (τs : List Nat) (i : Nat) (c : xk_C) : Bool := match ck_lk rt i with
  | some nm => (match Tl[nm]? with
    | some cl => ck_own cl && decide (c.1 = cl.1) && c.2.length == cl.2.length
    | none => false)
  | none => (match tab[τs.getD i 0]? with
    | some (.inl (ac, n, _)) => (decide (c.1 = (1, ac)) && c.2.length == n) || (decide (c.1 = (n, ac)) && decide (2 ≤ n) && decide (n ≤ 10000) && decide (c.2.length ≤ n))
    | some (.inr (ci, ks)) => decide (c.1 = (0, ci)) && c.2.length == ks.length
    | none => false)
def gx_v (tab : List ck_D) (Tl : List ck_C) (rt : List (Nat × Nat)) (τs : List Nat) (par : List (Nat × Nat)) (bl : List (Nat × Nat × Nat × Nat)) (hk i j : Nat) (v : xk_V) : Bool := match v.1 with
  | 0 => (match gx_kd tab Tl rt τs i j with
    | some (.inl _) => if v.2.1 = 0 then (ck_lk rt i).isNone && !(hk == 0) && τs.getD i 0 == 49 && decide (gr_kc[j]? = some v.2.2) else decide (xg_find bl v.2.1 = some (i, j))
    | _ => false)
  | 1 => (match gx_kd tab Tl rt τs i j with
    | some (.inr (.inl _)) => !(v.2.1 == 0) && decide (xg_find bl v.2.1 = some (i, j))
    | _ => false)
  | 2 => decide (par[v.2.1]? = some (i, j)) && (ck_lk rt v.2.1).isNone && decide (v.2.1 < τs.length)
  | 5 => decide (v.2.1 = 1000 * i + j) && decide (j < 1000) && decide (i < 1000)
  | _ => false
def gx_pr (tab : List ck_D) (Tl : List ck_C) (rt : List (Nat × Nat)) (τs : List Nat) (par : List (Nat × Nat)) (k : Nat) : Bool := (ck_lk rt k).isSome || (match par[k]? with
  | some (p, j) => decide (p < k) && !(τs.getD k 0 == 0) && decide (gx_kd tab Tl rt τs p j = some (.inr (.inr (2, τs.getD k 0))))
  | none => false)
def gx_nd (rt : List (Nat × Nat)) (τs : List Nat) (par : List (Nat × Nat)) (i j : Nat) : Bool := i == j || (match ck_lk rt i, ck_lk rt j with
  | some a, some b => !(a == b)
  | none, none => !(τs.getD i 0 == τs.getD j 0) || ((par.getD i (0, 0)).1 == (par.getD j (0, 0)).1 && τs.getD (par.getD i (0, 0)).1 0 == 13 && (ck_lk rt (par.getD i (0, 0)).1).isNone && !((par.getD i (0, 0)).2 == (par.getD j (0, 0)).2) && decide ((par.getD i (0, 0)).2 < 4) && decide ((par.getD j (0, 0)).2 < 4))
  | _, _ => true)
def gx_ck (tab : List ck_D) (Tl : List ck_C) (rt : List (Nat × Nat)) (τs : List Nat) (par : List (Nat × Nat)) (bl : List (Nat × Nat × Nat × Nat)) (T : List xk_C) : Bool :=
  τs.length == T.length && (List.range T.length).all (fun i => (match T[i]? with
    | some c => gx_hd tab Tl rt τs i c && (List.range c.2.length).all (fun j => match c.2[j]? with
      | some v => gx_v tab Tl rt τs par bl c.1.1 i j v
      | none => true)
    | none => true) && gx_pr tab Tl rt τs par i && (List.range T.length).all (fun j => gx_nd rt τs par i j))
/-- a cell's places -/
def gx_sh (D : va_G) (AC : Nat → ClassId) (H : Heap) (g : Nat → Value) (c : xk_C) (a : Nat) : Prop := match c.1.1 with
  | 0 => ∃ vs : List Value, ck_ob D c.1.2 a H vs ∧ vs.length = c.2.length ∧ ∀ (j : Nat) (v : Value), vs[j]? = some v → v = g j
  | 1 => H[a]? = some (arrV (AC c.1.2) c.2.length g)
  | k + 2 => H[a]? = some (arrV (AC c.1.2) (k + 2) g) ∧ c.2.length ≤ k + 2 ∧ k + 2 ≤ 10000
def gx_k (G : Nat → Nat) (v : ck_V) (w : Value) : Prop := match v with
  | .inl _ => ∃ x, w = .int x
  | .inr (.inl _) => ∃ x, w = .long x
  | .inr (.inr (2, τ)) => ∃ a, w = .ref a ∧ G a = τ ∧ τ ≠ 0
  | _ => True
theorem gx_k.of {S : Nat → Nat} {ρ : Nat → Int} {G : Nat → Nat} {N : List Nat} {v : ck_V} {w : Value} (h : ck_R S ρ G N v w) : gx_k G v w := by
  match v, h with
  | .inl q, h => obtain ⟨x, e, -⟩ := h; exact ⟨x, e⟩
  | .inr (.inl q), h => obtain ⟨x, e, -⟩ := h; exact ⟨x, e⟩
  | .inr (.inr (2, τ)), h => exact h
  | .inr (.inr (0, _)), _ => exact trivial
  | .inr (.inr (1, _)), _ => exact trivial
  | .inr (.inr (n + 3, _)), _ => exact trivial
def gx_sz (c : xk_C) : Nat := if c.1.1 = 1 then c.2.length else c.1.1
theorem gx_sh.at {D : va_G} {AC : Nat → ClassId} {H : Heap} {g : Nat → Value} {c : xk_C} {a : Nat} (h : gx_sh D AC H g c a) (hk : c.1.1 ≠ 0) {j : Nat} (hj : j < gx_sz c) : gk_at H a j = some (g j) := by
  obtain ⟨⟨k, n⟩, fs⟩ := c
  unfold gk_at
  match k, h, hk, hj with
  | 1, h, _, hj =>
    have h : H[a]? = some (arrV (AC n) fs.length g) := h
    rw [h]
    exact arrV_read _ _ hj
  | k + 2, h, _, hj =>
    have h1 : H[a]? = some (arrV (AC n) (k + 2) g) := h.1
    have hj : j < k + 2 := by
      unfold gx_sz at hj
      dsimp only at hj
      rwa [if_neg (by omega)] at hj
    rw [h1]
    exact arrV_read _ _ hj
theorem gx_sh.len {D : va_G} {AC : Nat → ClassId} {H : Heap} {g : Nat → Value} {c : xk_C} {a : Nat} (h : gx_sh D AC H g c a) (hk : c.1.1 ≠ 0) : c.2.length ≤ gx_sz c := by
  obtain ⟨⟨k, n⟩, fs⟩ := c
  match k, h, hk with
  | 1, h, _ => exact Nat.le_refl _
  | k + 2, h, _ =>
    unfold gx_sz
    rw [if_neg (by show k + 2 ≠ 1; omega)]
    exact h.2.1
section GX
variable {D : va_G} {AC : Nat → ClassId} {S : Nat → Nat} {tab : List ck_D} {L : Heap} {ρ : Nat → Int} {G : Nat → Nat} {Nl : List Nat} {Tl : List ck_C} {H : Heap}
variable {rt : List (Nat × Nat)} {τs : List Nat} {par : List (Nat × Nat)} {bl : List (Nat × Nat × Nat × Nat)} {T : List xk_C}
/-- what is known of the i-th cell -/
def gx_cell (D : va_G) (AC : Nat → ClassId) (tab : List ck_D) (L : Heap) (G : Nat → Nat) (Nl : List Nat) (Tl : List ck_C) (H : Heap) (rt : List (Nat × Nat)) (τs : List Nat) (par : List (Nat × Nat)) (g : Nat → Nat → Value) (i a : Nat) (c : xk_C) : Prop :=
  L.size ≤ a ∧ gx_sh D AC H (g i) c a ∧ (∀ j v, gx_kd tab Tl rt τs i j = some v → gx_k G v (g i j)) ∧ match ck_lk rt i with
    | some nm => G a = 0 ∧ Nl[nm]? = some a
    | none => G a = τs.getD i 0 ∧ G a ≠ 0 ∧ ∀ p j, par[i]? = some (p, j) → g p j = .ref a
theorem gx_own (hH : ck_H D AC S tab L ρ G Nl Tl H) {i nm : Nat} {c : xk_C} (hr : ck_lk rt i = some nm) (hd : gx_hd tab Tl rt τs i c = true) : ∃ (a : Nat) (f : Nat → Value), L.size ≤ a ∧ gx_sh D AC H f c a ∧ (∀ j v, gx_kd tab Tl rt τs i j = some v → gx_k G v (f j)) ∧ G a = 0 ∧ Nl[nm]? = some a := by
  unfold gx_hd at hd
  rw [hr] at hd
  dsimp only at hd
  split at hd
  · rename_i cl hcl
    simp only [Bool.and_eq_true, decide_eq_true_eq, beq_iff_eq] at hd
    obtain ⟨⟨h1, h2⟩, h3⟩ := hd
    have hil : nm < Nl.length := by rw [hH.2.1]; exact (List.getElem?_eq_some_iff.mp hcl).1
    have ha : Nl[nm]? = some Nl[nm] := List.getElem?_eq_getElem hil
    generalize Nl[nm] = a at ha
    have ht := hH.2.2.1 nm cl a hcl ha
    obtain ⟨⟨k, n⟩, fs⟩ := cl
    obtain ⟨h0, es⟩ := c
    dsimp only at h2 h3
    subst h2
    have hkd : ∀ j v, gx_kd tab Tl rt τs i j = some v → fs[j]? = some v := fun j v hv => by
      unfold gx_kd at hv
      rw [hr] at hv
      dsimp only at hv
      rw [hcl] at hv
      exact hv
    match k, h1, ht with
    | 0, _, ht =>
      obtain ⟨t1, t2, vs, t3, t4⟩ := ht
      refine ⟨a, fun j => vs.getD j .null, t1, ⟨vs, t3, by rw [← t4.1]; exact h3.symm, fun j v hv => by simp [List.getD, hv]⟩, fun j v hv => ?_, t2, ha⟩
      obtain ⟨w, w1, w2⟩ := t4.get (hkd j v hv)
      show gx_k G v (vs.getD j .null)
      rw [show vs.getD j .null = w by simp [List.getD, w1]]
      exact gx_k.of w2
    | 1, _, ht =>
      obtain ⟨t1, t2, f, t3, t4⟩ := ht
      refine ⟨a, f, t1, ?_, fun j v hv => gx_k.of (t4 j v (hkd j v hv)), t2, ha⟩
      show H[a]? = some (arrV (AC n) es.length f)
      rw [h3]
      exact t3
    | k + 2, h1, _ => simp [ck_own] at h1
  · cases hd
theorem gx_typ (hH : ck_H D AC S tab L ρ G Nl Tl H) {i a : Nat} {c : xk_C} (hr : ck_lk rt i = none) (hd : gx_hd tab Tl rt τs i c = true) (ha : G a = τs.getD i 0) (h0 : G a ≠ 0) : ∃ f : Nat → Value, L.size ≤ a ∧ gx_sh D AC H f c a ∧ ∀ j v, gx_kd tab Tl rt τs i j = some v → gx_k G v (f j) := by
  obtain ⟨l1, l2⟩ := hH.1.2.2 a h0
  rw [ha] at l2
  unfold gx_hd at hd
  rw [hr] at hd
  dsimp only at hd
  have hkd : ∀ j, gx_kd tab Tl rt τs i j = (match tab[τs.getD i 0]? with
    | some (.inl (_, n, sg)) => if j < n then some (ck_kat sg j) else none
    | some (.inr (_, ks)) => ks[j]?
    | none => none) := fun j => by
    unfold gx_kd
    rw [hr]
  unfold ck_ty at l2
  generalize tab[τs.getD i 0]? = tt at hd l2 hkd
  obtain ⟨h0', es⟩ := c
  match tt, hd, l2, hkd with
  | some (.inl (ac, n, sg)), hd, l2, hkd =>
    obtain ⟨f, f1, f2⟩ := l2
    refine ⟨f, l1, ?_, fun j v hv => ?_⟩
    · simp only [Bool.or_eq_true, Bool.and_eq_true, decide_eq_true_eq, beq_iff_eq] at hd
      rcases hd with ⟨e1, e2⟩ | ⟨⟨⟨e1, e2⟩, e3⟩, e4⟩
      · subst e1
        show H[a]? = some (arrV (AC ac) es.length f)
        rw [e2]
        exact f1
      · subst e1
        match n, e2, e3, e4, f1 with
        | n + 2, _, e3, e4, f1 => exact ⟨f1, e4, e3⟩
    · rw [hkd] at hv
      dsimp only at hv
      split at hv
      · rename_i hj
        cases hv
        exact gx_k.of (f2 j hj)
      · cases hv
  | some (.inr (ci, ks)), hd, l2, hkd =>
    obtain ⟨vs, v1, v2⟩ := l2
    simp only [Bool.and_eq_true, decide_eq_true_eq, beq_iff_eq] at hd
    obtain ⟨e1, e2⟩ := hd
    subst e1
    refine ⟨fun j => vs.getD j .null, l1, ⟨vs, v1, by rw [← v2.1]; exact e2.symm, fun j v hv => by simp [List.getD, hv]⟩, fun j v hv => ?_⟩
    rw [hkd] at hv
    obtain ⟨w, w1, w2⟩ := v2.get hv
    show gx_k G v (vs.getD j .null)
    rw [show vs.getD j .null = w by simp [List.getD, w1]]
    exact gx_k.of w2
theorem gx_go (hH : ck_H D AC S tab L ρ G Nl Tl H) (hck : gx_ck tab Tl rt τs par bl T = true) : ∀ k, k ≤ T.length → ∃ (N : List Nat) (g : Nat → Nat → Value), N.length = k ∧ ∀ i a c, N[i]? = some a → T[i]? = some c → gx_cell D AC tab L G Nl Tl H rt τs par g i a c := by
  unfold gx_ck at hck
  simp only [Bool.and_eq_true, beq_iff_eq] at hck
  intro k
  induction k with
  | zero => exact fun _ => ⟨[], fun _ _ => .null, rfl, fun i a c h => by simp at h⟩
  | succ k ih =>
    intro hk
    obtain ⟨N, g, hN, hg⟩ := ih (by omega)
    have hc : T[k]? = some T[k] := List.getElem?_eq_getElem (by omega)
    generalize T[k] = ck at hc
    have h9 := List.all_eq_true.mp hck.2 k (List.mem_range.mpr (by omega))
    simp only [Bool.and_eq_true] at h9
    obtain ⟨⟨h1, h2⟩, -⟩ := h9
    rw [hc] at h1
    dsimp only at h1
    simp only [Bool.and_eq_true] at h1
    have hhd := h1.1
    have key : ∃ (a : Nat) (f : Nat → Value), L.size ≤ a ∧ gx_sh D AC H f ck a ∧ (∀ j v, gx_kd tab Tl rt τs k j = some v → gx_k G v (f j)) ∧ match ck_lk rt k with
      | some nm => G a = 0 ∧ Nl[nm]? = some a
      | none => G a = τs.getD k 0 ∧ G a ≠ 0 ∧ ∃ p j, par[k]? = some (p, j) ∧ p < k ∧ g p j = .ref a := by
      cases hr : ck_lk rt k with
      | some nm =>
        obtain ⟨a, f, q1, q2, q3, q4, q5⟩ := gx_own hH hr hhd
        exact ⟨a, f, q1, q2, q3, q4, q5⟩
      | none =>
        unfold gx_pr at h2
        rw [hr] at h2
        simp only [Option.isSome_none, Bool.false_or] at h2
        split at h2
        · rename_i p j hp
          simp only [Bool.and_eq_true, decide_eq_true_eq, Bool.not_eq_true', beq_eq_false_iff_ne] at h2
          obtain ⟨⟨p1, p2⟩, p3⟩ := h2
          have hpN : N[p]? = some (N[p]'(by omega)) := List.getElem?_eq_getElem (by omega)
          have hpT : T[p]? = some (T[p]'(by omega)) := List.getElem?_eq_getElem (by omega)
          obtain ⟨a, e1, e2, e3⟩ := (hg p _ _ hpN hpT).2.2.1 j _ p3
          obtain ⟨f, f1, f2, f3⟩ := gx_typ hH hr hhd e2 (by rw [e2]; exact e3)
          exact ⟨a, f, f1, f2, f3, e2, by rw [e2]; exact e3, p, j, hp, p1, e1⟩
        · cases h2
    obtain ⟨a, f, k1, k2, k3, k4⟩ := key
    refine ⟨N ++ [a], fun i => if i = k then f else g i, by simp [hN], fun i b c hb hc' => ?_⟩
    by_cases hi : i < k
    · rw [List.getElem?_append_left (by omega)] at hb
      obtain ⟨q1, q2, q3, q4⟩ := hg i b c hb hc'
      refine ⟨q1, ?_, ?_, ?_⟩
      · show gx_sh D AC H (if i = k then f else g i) c b
        rw [if_neg (by omega)]
        exact q2
      · intro j v hv
        show gx_k G v ((if i = k then f else g i) j)
        rw [if_neg (by omega)]
        exact q3 j v hv
      · cases hr : ck_lk rt i with
        | some nm => rw [hr] at q4; exact q4
        | none =>
          rw [hr] at q4
          refine ⟨q4.1, q4.2.1, fun p j hp => ?_⟩
          have h8 := List.all_eq_true.mp hck.2 i (List.mem_range.mpr (by omega))
          simp only [Bool.and_eq_true] at h8
          have h7 := h8.1.2
          unfold gx_pr at h7
          rw [hr, hp] at h7
          simp only [Option.isSome_none, Bool.false_or, Bool.and_eq_true, decide_eq_true_eq] at h7
          show (if p = k then f else g p) j = .ref b
          rw [if_neg (by have := h7.1.1; omega)]
          exact q4.2.2 p j hp
    · have hik : i = k := by
        have := (List.getElem?_eq_some_iff.mp hb).1
        simp at this
        omega
      subst hik
      rw [List.getElem?_append_right (by omega)] at hb
      have hab : a = b := by
        rw [show i - N.length = 0 by omega] at hb
        simpa using hb
      subst hab
      cases hc.symm.trans hc'
      refine ⟨k1, ?_, ?_, ?_⟩
      · show gx_sh D AC H (if i = i then f else g i) _ a
        rw [if_pos rfl]
        exact k2
      · intro j v hv
        show gx_k G v ((if i = i then f else g i) j)
        rw [if_pos rfl]
        exact k3 j v hv
      · cases hr : ck_lk rt i with
        | some nm => rw [hr] at k4; exact k4
        | none =>
          rw [hr] at k4
          obtain ⟨x1, x2, p, j, x3, x4, x5⟩ := k4
          refine ⟨x1, x2, fun p' j' hp' => ?_⟩
          rw [x3] at hp'
          cases hp'
          show (if p = i then f else g p) j = .ref a
          rw [if_neg (by omega)]
          exact x5
/-- the exact state that a typed one is -/
theorem gx_build (hH : ck_H D AC S tab L ρ G Nl Tl H) (hck : gx_ck tab Tl rt τs par bl T = true) (hrow : ∀ q, G q = 13 → ∃ r : Nat → Nat, (∀ i j, r i = r j → i = j) ∧ ∀ k v, k < 4 → gk_at H q k = some v → v = .ref (r k)) (hro4 : ∀ i c, ck_lk rt i = none → τs.getD i 0 = 13 → T[i]? = some c → c.1.1 ≠ 0 ∧ 4 ≤ gx_sz c) (hcon : ∀ q, G q = 49 → ∀ j v, gr_kc[j]? = some v → ∃ x : Int32, gk_at H q j = some (.int x) ∧ x.toInt = v) (ext : Nat → Int) :
    ∃ (N : List Nat) (g : Nat → Nat → Value), N.length = T.length ∧ (∀ i a c, N[i]? = some a → T[i]? = some c → gx_cell D AC tab L G Nl Tl H rt τs par g i a c) ∧ xk_H D AC S (xg_θ g) L (xg_ρ bl g ext) N T H := by
  obtain ⟨N, g, hN, hg⟩ := gx_go hH hck T.length (Nat.le_refl _)
  unfold gx_ck at hck
  simp only [Bool.and_eq_true, beq_iff_eq] at hck
  have hcell : ∀ i a, N[i]? = some a → ∃ c, T[i]? = some c ∧ gx_cell D AC tab L G Nl Tl H rt τs par g i a c := fun i a ha => by
    have hl : i < T.length := by rw [← hN]; exact (List.getElem?_eq_some_iff.mp ha).1
    exact ⟨T[i], List.getElem?_eq_getElem hl, hg i a _ ha (List.getElem?_eq_getElem hl)⟩
  refine ⟨N, g, hN, hg, hN, fun i j a hi hj => ?_, fun i c a hc ha => ?_⟩
  · obtain ⟨ci, ti, qi⟩ := hcell i a hi
    obtain ⟨cj, tj, qj⟩ := hcell j a hj
    have hil := (List.getElem?_eq_some_iff.mp ti).1
    have hjl := (List.getElem?_eq_some_iff.mp tj).1
    have h9 := List.all_eq_true.mp hck.2 i (List.mem_range.mpr hil)
    simp only [Bool.and_eq_true] at h9
    have h8 := List.all_eq_true.mp h9.2 j (List.mem_range.mpr hjl)
    unfold gx_nd at h8
    simp only [Bool.or_eq_true, beq_iff_eq] at h8
    rcases h8 with e | h8
    · exact e
    exfalso
    obtain ⟨-, -, -, ri⟩ := qi
    obtain ⟨-, -, -, rj⟩ := qj
    cases hri : ck_lk rt i with
    | some x =>
      cases hrj : ck_lk rt j with
      | some y =>
        rw [hri] at ri h8
        rw [hrj] at rj h8
        dsimp only at ri rj h8
        have hxl := (List.getElem?_eq_some_iff.mp ri.2).1
        have hyl := (List.getElem?_eq_some_iff.mp rj.2).1
        have ox : ∀ (u : Nat) (c : xk_C) (z : Nat), ck_lk rt u = some z → T[u]? = some c → ∃ cl, Tl[z]? = some cl ∧ ck_own cl = true := fun u c z hu htu => by
          have h9 := List.all_eq_true.mp hck.2 u (List.mem_range.mpr (List.getElem?_eq_some_iff.mp htu).1)
          simp only [Bool.and_eq_true] at h9
          have h7 := h9.1.1
          rw [htu] at h7
          dsimp only at h7
          simp only [Bool.and_eq_true] at h7
          have h6 := h7.1
          unfold gx_hd at h6
          rw [hu] at h6
          dsimp only at h6
          split at h6
          · rename_i cl hcl
            simp only [Bool.and_eq_true] at h6
            exact ⟨cl, hcl, h6.1.1⟩
          · cases h6
        obtain ⟨c1, d1, o1⟩ := ox i ci x hri ti
        obtain ⟨c2, d2, o2⟩ := ox j cj y hrj tj
        have := hH.2.2.2 x y c1 c2 a d1 d2 o1 o2 ri.2 rj.2
        simp [this] at h8
      | none =>
        rw [hri] at ri
        rw [hrj] at rj
        exact rj.2.1 ri.1
    | none =>
      cases hrj : ck_lk rt j with
      | some y =>
        rw [hri] at ri
        rw [hrj] at rj
        exact ri.2.1 rj.1
      | none =>
        rw [hri] at ri h8
        rw [hrj] at rj h8
        dsimp only at ri rj h8
        simp only [Bool.or_eq_true, Bool.and_eq_true, Bool.not_eq_true', beq_eq_false_iff_ne, beq_iff_eq, decide_eq_true_eq] at h8
        rcases h8 with e | ⟨⟨⟨⟨⟨e1, e2⟩, e3⟩, e4⟩, e5⟩, e6⟩
        · exact e (ri.1.symm.trans rj.1)
        · have pe : ∀ u : Nat, ck_lk rt u = none → u < T.length → ∃ p w, par[u]? = some (p, w) ∧ p < u := fun u hu hul => by
            have h9 := List.all_eq_true.mp hck.2 u (List.mem_range.mpr hul)
            simp only [Bool.and_eq_true] at h9
            have h7 := h9.1.2
            unfold gx_pr at h7
            rw [hu] at h7
            simp only [Option.isSome_none, Bool.false_or] at h7
            split at h7
            · rename_i p w hp
              simp only [Bool.and_eq_true, decide_eq_true_eq] at h7
              exact ⟨p, w, hp, h7.1.1⟩
            · cases h7
          obtain ⟨p, w, hp, hpi⟩ := pe i hri hil
          obtain ⟨p', w', hp', hpj⟩ := pe j hrj hjl
          have gi : par.getD i (0, 0) = (p, w) := by simp [List.getD, hp]
          have gj : par.getD j (0, 0) = (p', w') := by simp [List.getD, hp']
          rw [gi] at e1 e2 e3 e4 e5
          rw [gj] at e1 e4 e6
          dsimp only at e1 e2 e3 e4 e5 e6
          subst e1
          have v1 := ri.2.2 p w hp
          have v2 := rj.2.2 p w' hp'
          have hpN : N[p]? = some (N[p]'(by omega)) := List.getElem?_eq_getElem (by omega)
          obtain ⟨cp, tp, qp⟩ := hcell p _ hpN
          have e3' : ck_lk rt p = none := by simpa using e3
          obtain ⟨-, sp, -, rp⟩ := qp
          rw [e3'] at rp
          obtain ⟨r, r1, r2⟩ := hrow _ (rp.1.trans e2)
          obtain ⟨z1, z2⟩ := hro4 p cp e3' e2 tp
          have u1 := r2 w _ e5 (sp.at z1 (by omega))
          have u2 := r2 w' _ e6 (sp.at z1 (by omega))
          rw [v1] at u1
          rw [v2] at u2
          have : r w = r w' := by
            have := u1.symm.trans u2
            simpa using this
          exact e4 (r1 _ _ this)
  · obtain ⟨q1, q2, q3, q4⟩ := hg i a c ha hc
    refine ⟨q1, ?_⟩
    have hil := (List.getElem?_eq_some_iff.mp hc).1
    have h9 := List.all_eq_true.mp hck.2 i (List.mem_range.mpr hil)
    simp only [Bool.and_eq_true] at h9
    have h7 := h9.1.1
    rw [hc] at h7
    dsimp only at h7
    simp only [Bool.and_eq_true] at h7
    have hv : ∀ (j : Nat) (v : xk_V), c.2[j]? = some v → xk_R S (xg_θ g) (xg_ρ bl g ext) N v (g i j) := fun j v hj => by
      have hjl := (List.getElem?_eq_some_iff.mp hj).1
      have h6 := List.all_eq_true.mp h7.2 j (List.mem_range.mpr hjl)
      rw [hj] at h6
      dsimp only at h6
      obtain ⟨k, n, o⟩ := v
      unfold gx_v at h6
      match k, h6, hj with
      | 0, h6, hj =>
        have h6 : (match gx_kd tab Tl rt τs i j with
          | some (.inl _) => if n = 0 then (ck_lk rt i).isNone && !(c.1.1 == 0) && τs.getD i 0 == 49 && decide (gr_kc[j]? = some o) else decide (xg_find bl n = some (i, j))
          | _ => false) = true := h6
        split at h6
        · rename_i q hq
          obtain ⟨x, hx⟩ := q3 j _ hq
          refine ⟨x, hx, ?_⟩
          unfold xk_ov
          split at h6
          · rename_i h0
            dsimp only
            rw [if_pos h0]
            simp only [Bool.and_eq_true, decide_eq_true_eq, beq_iff_eq, Bool.not_eq_true', beq_eq_false_iff_ne] at h6
            obtain ⟨⟨⟨g1, g9⟩, g2⟩, g3⟩ := h6
            have g1' : ck_lk rt i = none := by simpa using g1
            rw [g1'] at q4
            obtain ⟨y, y1, y2⟩ := hcon a (q4.1.trans g2) j o g3
            have hk1 : c.1.1 ≠ 0 ∧ j < gx_sz c := ⟨g9, Nat.lt_of_lt_of_le hjl (q2.len g9)⟩
            have y3 := q2.at hk1.1 hk1.2
            rw [y1] at y3
            have : Value.int y = g i j := Option.some.inj y3
            rw [hx] at this
            cases this
            exact y2
          · rename_i h0
            dsimp only
            rw [if_neg h0]
            unfold xg_ρ
            rw [of_decide_eq_true h6]
            dsimp only
            rw [hx]
            rfl
        · cases h6
      | 1, h6, hj =>
        have h6 : (match gx_kd tab Tl rt τs i j with
          | some (.inr (.inl _)) => !(n == 0) && decide (xg_find bl n = some (i, j))
          | _ => false) = true := h6
        split at h6
        · rename_i q hq
          obtain ⟨x, hx⟩ := q3 j _ hq
          simp only [Bool.and_eq_true, Bool.not_eq_true', beq_eq_false_iff_ne, decide_eq_true_eq] at h6
          refine ⟨x, hx, ?_⟩
          unfold xk_ov
          dsimp only
          rw [if_neg h6.1]
          unfold xg_ρ
          rw [h6.2]
          dsimp only
          rw [hx]
          rfl
        · cases h6
      | 2, h6, hj =>
        have h6 : (decide (par[n]? = some (i, j)) && (ck_lk rt n).isNone && decide (n < τs.length)) = true := h6
        simp only [Bool.and_eq_true, decide_eq_true_eq] at h6
        obtain ⟨⟨g1, g2⟩, g5⟩ := h6
        have g2' : ck_lk rt n = none := by simpa using g2
        have hn : n < T.length := by rw [← hck.1]; exact g5
        have hnN : N[n]? = some (N[n]'(by omega)) := List.getElem?_eq_getElem (by omega)
        obtain ⟨cn, tn, qn⟩ := hcell n _ hnN
        obtain ⟨-, -, -, rn⟩ := qn
        rw [g2'] at rn
        exact ⟨_, hnN, rn.2.2 i j g1⟩
      | 5, h6, hj =>
        have h6 : (decide (n = 1000 * i + j) && decide (j < 1000) && decide (i < 1000)) = true := h6
        simp only [Bool.and_eq_true, decide_eq_true_eq] at h6
        obtain ⟨⟨e1, e2⟩, e3⟩ := h6
        show g i j = xg_θ g n
        unfold xg_θ
        rw [if_pos (by omega), e1, show (1000 * i + j) / 1000 = i by omega, show (1000 * i + j) % 1000 = j by omega]
      | 3, h6, _ =>
        have h6 : false = true := h6
        cases h6
      | 4, h6, _ =>
        have h6 : false = true := h6
        cases h6
      | k + 6, h6, _ =>
        have h6 : false = true := h6
        cases h6
    obtain ⟨⟨k, n⟩, es⟩ := c
    match k, q2 with
    | 0, q2 =>
      obtain ⟨vs, v1, v2, v3⟩ := q2
      refine ⟨vs, v1, v2.symm, fun j x y hx hy => ?_⟩
      rw [v3 j y hy]
      exact hv j x hx
    | 1, q2 => exact ⟨g i, q2, hv⟩
    | k + 2, q2 =>
      refine ⟨g i, q2.1, q2.2.1, hv, fun j h1 h2 => ?_⟩
      have h3 := q2.2.2
      show g i j = xg_θ g (1000000 + 10000 * i + j)
      unfold xg_θ
      rw [if_neg (by omega), show (1000000 + 10000 * i + j - 1000000) / 10000 = i by omega, show (1000000 + 10000 * i + j - 1000000) % 10000 = j by omega]
end GX
