/-! ===== exact runs: every number is a node over what came in ===== -/
/-- a number: (0, c) the constant c; (g, _) node g -/
abbrev xk_O : Type := Nat × Int
/-- (0, o) an int; (1, o) a long; (2, (i, _)) the i-th cell; (3, (j, _)) a static array; (5, (k, _)) what stood at field k % 1000 of cell k / 1000 at first; else anything -/
abbrev xk_V : Type := Nat × xk_O
/-- (0, class) an object; (1, array class) an array; (n, array class) the first places of an array of n, the others as they were -/
abbrev xk_C : Type := (Nat × Nat) × List xk_V
/-- a node, its operation, its numbers; from 1000 on a call of a function: node and on -/
abbrev xk_E : Type := Nat × Nat × List xk_O
def xk_ov (ρ : Nat → Int) (o : xk_O) : Int := if o.1 = 0 then o.2 else ρ o.1
def xk_R (S : Nat → Nat) (θ : Nat → Value) (ρ : Nat → Int) (N : List Nat) (k : xk_V) (v : Value) : Prop := match k.1 with
  | 0 => ∃ x : Int32, v = .int x ∧ x.toInt = xk_ov ρ k.2
  | 1 => ∃ x : Int64, v = .long x ∧ x.toInt = xk_ov ρ k.2
  | 2 => ∃ a, N[k.2.1]? = some a ∧ v = .ref a
  | 3 => v = .ref (S k.2.1)
  | 5 => v = θ k.2.1
  | _ => True
def xk_kn (k : xk_V) : Bool := decide (k.1 < 4)
theorem xk_cat {S : Nat → Nat} {θ : Nat → Value} {ρ : Nat → Int} {N : List Nat} {k : xk_V} {v : Value} (h : xk_R S θ ρ N k v) (hk : xk_kn k = true) : (v.category == 2) = (k.1 == 1) := by
  obtain ⟨n, o⟩ := k
  unfold xk_R at h
  unfold xk_kn at hk
  match n, h, hk with
  | 0, h, _ => obtain ⟨x, rfl, -⟩ := h; rfl
  | 1, h, _ => obtain ⟨x, rfl, -⟩ := h; rfl
  | 2, h, _ => obtain ⟨a, -, rfl⟩ := h; rfl
  | 3, h, _ => cases h; rfl
  | n + 4, _, hk => simp at hk; omega
theorem xk_cat1 {S : Nat → Nat} {θ : Nat → Value} {ρ : Nat → Int} {N : List Nat} {k : xk_V} {v : Value} (h : xk_R S θ ρ N k v) (hk : xk_kn k = true) (h1 : (k.1 == 1) = false) : v.category = 1 := by
  have := xk_cat h hk
  rw [h1] at this
  rcases lv_cat v with e | e
  · exact e
  · rw [e] at this; cases this
theorem xk_cat2 {S : Nat → Nat} {θ : Nat → Value} {ρ : Nat → Int} {N : List Nat} {k : xk_V} {v : Value} (h : xk_R S θ ρ N k v) (hk : xk_kn k = true) (h1 : (k.1 == 1) = true) : v.category = 2 := by
  have := xk_cat h hk
  rw [h1] at this
  simpa using this
/-! what an operation makes -/
def xk_f32 (op : Nat) (x y : Int32) : Int32 := match op with
  | 0 => x + y
  | 1 => x - y
  | 2 => x * y
  | 3 => x &&& y
  | 4 => x ||| y
  | 5 => x ^^^ y
  | 6 => x <<< (y &&& 31)
  | 7 => x >>> (y &&& 31)
  | 8 => (x.toUInt32 >>> (y.toUInt32 &&& Int32.toUInt32 31)).toInt32
  | 9 => x / y
  | _ => x - x / y * y
def xk_f64 (op : Nat) (x y : Int64) : Int64 := match op with
  | 20 => x + y
  | 21 => x - y
  | 22 => x * y
  | 23 => x &&& y
  | 24 => x ||| y
  | _ => x ^^^ y
def xk_fs (op : Nat) (x : Int64) (y : Int32) : Int64 := match op with
  | 26 => x <<< (y.toInt64 &&& 63)
  | 27 => x >>> (y.toInt64 &&& 63)
  | _ => (x.toUInt64 >>> (y.toInt64.toUInt64 &&& Int64.toUInt64 63)).toInt64
def xk_cd (k : ClassFile.Cond) : Nat := match k with
  | .eq => 0
  | .ne => 1
  | .lt => 2
  | .ge => 3
  | .gt => 4
  | .le => 5
def xk_hb (k : Nat) (x y : Int) : Bool := match k with
  | 0 => decide (x = y)
  | 1 => !decide (x = y)
  | 2 => decide (x < y)
  | 3 => decide (y ≤ x)
  | 4 => decide (y < x)
  | _ => decide (x ≤ y)
/-- of a list of numbers: two, or one; 30 a long's int, 31 comparing, 40 and on one of two by a condition -/
def xk_sem (op : Nat) (a : List Int) : Int :=
  if op < 20 then (xk_f32 op (Int32.ofInt (a.getD 0 0)) (Int32.ofInt (a.getD 1 0))).toInt
  else if op < 26 then (xk_f64 op (Int64.ofInt (a.getD 0 0)) (Int64.ofInt (a.getD 1 0))).toInt
  else if op < 30 then (xk_fs op (Int64.ofInt (a.getD 0 0)) (Int32.ofInt (a.getD 1 0))).toInt
  else if op = 30 then (Int64.ofInt (a.getD 0 0)).toInt32.toInt
  else if op = 31 then (if a.getD 1 0 < a.getD 0 0 then 1 else if a.getD 0 0 = a.getD 1 0 then 0 else -1)
  else if xk_hb (op - 40) (a.getD 0 0) (a.getD 1 0) then a.getD 3 0 else a.getD 2 0
def xk_eok (Φ : Nat → Nat → List Int → Int) (wd : Nat → Nat) (ρ : Nat → Int) (e : xk_E) : Prop :=
  if e.2.1 < 1000 then ρ e.1 = xk_sem e.2.1 (e.2.2.map (xk_ov ρ)) else ∀ r, r < wd (e.2.1 - 1000) → ρ (e.1 + r) = Φ (e.2.1 - 1000) r (e.2.2.map (xk_ov ρ))
def xk_tok (Φ : Nat → Nat → List Int → Int) (wd : Nat → Nat) (ρ : Nat → Int) (tb : List xk_E) : Prop := ∀ e ∈ tb, xk_eok Φ wd ρ e
/-- a new node, or a constant -/
def xk_mk (op : Nat) (a : List xk_O) (tb : List xk_E) (nx : Nat) : xk_O × List xk_E × Nat :=
  if a.all (fun o => o.1 == 0) then ((0, xk_sem op (a.map (fun o => o.2))), tb, nx) else ((nx, 0), (nx, op, a) :: tb, nx + 1)
theorem xk_mk_ok {Φ : Nat → Nat → List Int → Int} {wd : Nat → Nat} {ρ : Nat → Int} {op : Nat} {a : List xk_O} {tb : List xk_E} {nx : Nat} (hop : op < 1000) (hnx : 0 < nx) (h : xk_tok Φ wd ρ (xk_mk op a tb nx).2.1) : xk_ov ρ (xk_mk op a tb nx).1 = xk_sem op (a.map (xk_ov ρ)) := by
  unfold xk_mk at h ⊢
  split
  · rename_i hc
    show xk_sem op (a.map (fun o => o.2)) = xk_sem op (a.map (xk_ov ρ))
    refine congrArg (xk_sem op) (List.map_congr_left fun o ho => ?_)
    have := List.all_eq_true.mp hc o ho
    have e : o.1 = 0 := by simpa using this
    unfold xk_ov
    rw [if_pos e]
  · rename_i hc
    rw [if_neg hc] at h
    have := h _ List.mem_cons_self
    unfold xk_eok at this
    dsimp only at this
    rw [if_pos hop] at this
    show (if nx = 0 then _ else _) = _
    rw [if_neg (by omega)]
    exact this
theorem xk_mk_sub {op : Nat} {a : List xk_O} {tb : List xk_E} {nx : Nat} : (∀ e ∈ tb, e ∈ (xk_mk op a tb nx).2.1) ∧ nx ≤ (xk_mk op a tb nx).2.2 := by
  unfold xk_mk
  split
  · exact ⟨fun e h => h, Nat.le_refl _⟩
  · exact ⟨fun e h => List.mem_cons_of_mem _ h, Nat.le_succ _⟩
theorem xk_i32 (x : Int32) : Int32.ofInt x.toInt = x := Int32.toInt_inj.mp (by rw [Int32.toInt_ofInt]; exact ck_bm (ck_i32 x).1 (ck_i32 x).2)
theorem xk_i64 (x : Int64) : Int64.ofInt x.toInt = x := Int64.toInt_inj.mp (ck_ofInt64 (ck_i64 x).1 (ck_i64 x).2)
theorem xk_sem32 {op : Nat} (h : op < 20) (x y : Int32) (t : List Int) : xk_sem op (x.toInt :: y.toInt :: t) = (xk_f32 op x y).toInt := by
  unfold xk_sem
  rw [if_pos h]
  simp only [List.getD_cons_zero, List.getD_cons_succ, xk_i32]
theorem xk_sem64 {op : Nat} (h1 : ¬ op < 20) (h : op < 26) (x y : Int64) (t : List Int) : xk_sem op (x.toInt :: y.toInt :: t) = (xk_f64 op x y).toInt := by
  unfold xk_sem
  rw [if_neg h1, if_pos h]
  simp only [List.getD_cons_zero, List.getD_cons_succ, xk_i64]
theorem xk_semS {op : Nat} (h1 : ¬ op < 26) (h : op < 30) (x : Int64) (y : Int32) (t : List Int) : xk_sem op (x.toInt :: y.toInt :: t) = (xk_fs op x y).toInt := by
  unfold xk_sem
  rw [if_neg (by omega), if_neg h1, if_pos h]
  simp only [List.getD_cons_zero, List.getD_cons_succ, xk_i64, xk_i32]
/-! cells -/
def xk_tc (D : va_G) (AC : Nat → ClassId) (S : Nat → Nat) (θ : Nat → Value) (ρ : Nat → Int) (N : List Nat) (H : Heap) (i : Nat) (c : xk_C) (a : Nat) : Prop := match c.1.1 with
  | 0 => ∃ vs : List Value, ck_ob D c.1.2 a H vs ∧ ck_all (xk_R S θ ρ N) c.2 vs
  | 1 => ∃ f : Nat → Value, H[a]? = some (arrV (AC c.1.2) c.2.length f) ∧ ∀ (j : Nat) (v : xk_V), c.2[j]? = some v → xk_R S θ ρ N v (f j)
  | k + 2 => ∃ f : Nat → Value, H[a]? = some (arrV (AC c.1.2) (k + 2) f) ∧ c.2.length ≤ k + 2 ∧ (∀ (j : Nat) (v : xk_V), c.2[j]? = some v → xk_R S θ ρ N v (f j)) ∧ ∀ j, c.2.length ≤ j → j < k + 2 → f j = θ (1000000 + 10000 * i + j)
/-- no two names for one cell -/
def xk_nd (N : List Nat) : Prop := ∀ (i j a : Nat), N[i]? = some a → N[j]? = some a → i = j
def xk_H (D : va_G) (AC : Nat → ClassId) (S : Nat → Nat) (θ : Nat → Value) (L : Heap) (ρ : Nat → Int) (N : List Nat) (T : List xk_C) (H : Heap) : Prop :=
  N.length = T.length ∧ xk_nd N ∧ ∀ (i : Nat) (c : xk_C) (a : Nat), T[i]? = some c → N[i]? = some a → L.size ≤ a ∧ xk_tc D AC S θ ρ N H i c a
/-- nothing but the named cells has changed -/
def xk_F (N : List Nat) (H0 H : Heap) : Prop := H.size = H0.size ∧ ∀ q, q ∉ N → H[q]? = H0[q]?
section XKA
variable {D : va_G} {AC : Nat → ClassId} {S : Nat → Nat} {θ : Nat → Value} {L : Heap} {ρ : Nat → Int} {N : List Nat} {T : List xk_C} {H H' : Heap}
theorem xk_tc.kept {i : Nat} {c : xk_C} {a : Nat} (h : xk_tc D AC S θ ρ N H i c a) (e : H'[a]? = H[a]?) : xk_tc D AC S θ ρ N H' i c a := by
  obtain ⟨⟨k, n⟩, fs⟩ := c
  unfold xk_tc at h ⊢
  match k, h with
  | 0, h => obtain ⟨vs, h1, h2⟩ := h; exact ⟨vs, h1.kept e, h2⟩
  | 1, h => obtain ⟨f, h1, h2⟩ := h; exact ⟨f, by rw [e]; exact h1, h2⟩
  | k + 2, h => obtain ⟨f, h1, h2⟩ := h; exact ⟨f, by rw [e]; exact h1, h2⟩
/-- an array, whole or its first places: what is read, and what comes of writing -/
theorem xk_arr {i k ac : Nat} {es : List xk_V} {a : Nat} (h : xk_tc D AC S θ ρ N H i ((k + 1, ac), es) a) : ∃ (n : Nat) (f : Nat → Value), H[a]? = some (arrV (AC ac) n f) ∧ es.length ≤ n ∧ (∀ (j : Nat) (v : xk_V), es[j]? = some v → xk_R S θ ρ N v (f j)) ∧
    ∀ (H' : Heap) (es' : List xk_V) (f' : Nat → Value), H'[a]? = some (arrV (AC ac) n f') → es'.length = es.length → (∀ (j : Nat) (v : xk_V), es'[j]? = some v → xk_R S θ ρ N v (f' j)) → (∀ j, es.length ≤ j → f' j = f j) → xk_tc D AC S θ ρ N H' i ((k + 1, ac), es') a := by
  match k, h with
  | 0, h =>
    obtain ⟨f, h1, h2⟩ := h
    refine ⟨es.length, f, h1, Nat.le_refl _, h2, fun H' es' f' e1 e2 e3 _ => ⟨f', ?_, e3⟩⟩
    dsimp only
    rw [e2]
    exact e1
  | k + 1, h =>
    obtain ⟨f, h1, h2, h3, h4⟩ := h
    refine ⟨k + 2, f, h1, h2, h3, fun H' es' f' e1 e2 e3 e4 => ⟨f', e1, by dsimp only at h2 ⊢; omega, e3, fun j j1 j2 => ?_⟩⟩
    dsimp only at j1 h4
    rw [e4 j (by omega)]
    exact h4 j (by omega) j2
/-- what stands in a cell, and that it may be told otherwise -/
theorem xk_vals {i : Nat} {c : xk_C} {a : Nat} (h : xk_tc D AC S θ ρ N H i c a) : ∃ g : Nat → Value, (∀ (j : Nat) (v : xk_V), c.2[j]? = some v → xk_R S θ ρ N v (g j)) ∧ (2 ≤ c.1.1 → ∀ j, c.2.length ≤ j → j < c.1.1 → g j = θ (1000000 + 10000 * i + j)) ∧
    ∀ (θ' : Nat → Value) (ρ' : Nat → Int) (N' : List Nat) (i' : Nat) (c' : xk_C), c'.1 = c.1 → c'.2.length = c.2.length → (∀ (j : Nat) (v : xk_V), c'.2[j]? = some v → xk_R S θ' ρ' N' v (g j)) → (2 ≤ c.1.1 → ∀ j, c.2.length ≤ j → j < c.1.1 → g j = θ' (1000000 + 10000 * i' + j)) → xk_tc D AC S θ' ρ' N' H i' c' a := by
  obtain ⟨⟨k, n⟩, fs⟩ := c
  match k, h with
  | 0, h =>
    obtain ⟨vs, z1, z2⟩ := h
    refine ⟨fun j => vs.getD j .null, fun j v hj => ?_, fun h => by dsimp only at h; omega, fun θ' ρ' N' i' c' e1 e2 hc _ => ?_⟩
    · obtain ⟨b, y1, y2⟩ := z2.get hj
      show xk_R S θ ρ N v (vs.getD j .null)
      rw [List.getD_eq_getElem?_getD, y1]
      exact y2
    · obtain ⟨⟨k', n'⟩, fs'⟩ := c'
      cases e1
      refine ⟨vs, z1, by dsimp only at e2 z2 ⊢; rw [e2]; exact z2.1, fun j x y hx hy => ?_⟩
      have : xk_R S θ' ρ' N' x (vs.getD j .null) := hc j x hx
      rw [List.getD_eq_getElem?_getD, hy] at this
      exact this
  | 1, h =>
    obtain ⟨f, z1, z2⟩ := h
    refine ⟨f, z2, fun h => by dsimp only at h; omega, fun θ' ρ' N' i' c' e1 e2 hc _ => ?_⟩
    obtain ⟨⟨k', n'⟩, fs'⟩ := c'
    cases e1
    exact ⟨f, by dsimp only at e2 z1 ⊢; rw [e2]; exact z1, hc⟩
  | k + 2, h =>
    obtain ⟨f, z1, z2, z3, z4⟩ := h
    refine ⟨f, z3, fun _ j j1 j2 => z4 j j1 j2, fun θ' ρ' N' i' c' e1 e2 hc hr => ?_⟩
    obtain ⟨⟨k', n'⟩, fs'⟩ := c'
    cases e1
    dsimp only at e2 z2 hr
    exact ⟨f, z1, by dsimp only; omega, hc, fun j j1 j2 => hr (by omega) j (by dsimp only at j1; omega) j2⟩
/-- a cell is written -/
theorem xk_H.put (h : xk_H D AC S θ L ρ N T H) {i a : Nat} {c' : xk_C} (hi : i < T.length) (ha : N[i]? = some a) (hq : ∀ q, q ≠ a → H'[q]? = H[q]?) (hc : xk_tc D AC S θ ρ N H' i c' a) : xk_H D AC S θ L ρ N (T.set i c') H' := by
  obtain ⟨h1, h2, h3⟩ := h
  refine ⟨by simp [h1], h2, fun j d b hj hb => ?_⟩
  by_cases e : i = j
  · subst e
    rw [List.getElem?_set_self hi] at hj
    cases hj
    cases ha.symm.trans hb
    obtain ⟨l1, -⟩ := h3 i T[i] a (List.getElem?_eq_getElem hi) ha
    exact ⟨l1, hc⟩
  · rw [List.getElem?_set_ne e] at hj
    obtain ⟨l1, l2⟩ := h3 j d b hj hb
    refine ⟨l1, l2.kept (hq b fun eb => e ?_)⟩
    subst eb
    exact h2 i j b ha hb
theorem xk_F.put {H0 : Heap} (h : xk_F N H0 H) {i a : Nat} (ha : N[i]? = some a) (hs : H'.size = H.size) (hq : ∀ q, q ≠ a → H'[q]? = H[q]?) : xk_F N H0 H' :=
  ⟨hs.trans h.1, fun q hn => by rw [hq q (fun e => hn (by rw [e]; exact List.mem_of_getElem? ha))]; exact h.2 q hn⟩
end XKA
