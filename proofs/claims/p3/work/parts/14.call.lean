/-! ===== a call, abstractly: what the called one asks, what it leaves ===== -/
def ck_unf (T : List ck_C) : ck_V → ck_V
  | .inr (.inr (1, i)) => match T[i]? with
    | some ((3, τ), _) => .inr (.inr (2, τ))
    | some ((_ + 7, τ), _) => .inr (.inr (2, τ))
    | _ => .inr (.inr (1, i))
  | x => x
def ck_la (T : List ck_C) (μ : List Nat) (k : ck_V) : ck_V → Bool
  | .inr (.inr (1, j)) => match μ[j]? with
    | some i => decide (k = .inr (.inr (1, i)))
    | none => false
  | k' => ck_le (ck_unf T k) k' && ck_plain k'
def ck_lc (T : List ck_C) (μ : List Nat) (c c' : ck_C) : Bool := c.1 == c'.1 && (c.1.1 == 0 || c.1.1 == 1 || c.1.1 == 5 || c.1.1 == 3 || decide (7 ≤ c.1.1)) && c.2.length == c'.2.length && (c.2.zip c'.2).all (fun q => ck_la T μ q.1 q.2)
def ck_cpre (T : List ck_C) (μ : List Nat) (pre : List ck_C) : Bool := μ.length == pre.length && (μ.zip pre).all (fun q => match T[q.1]? with
    | some c => ck_lc T μ c q.2
    | none => false) && decide μ.Nodup
/-- between two more bounds -/
def ck_isc (lo hi : Int) : ck_V → ck_V
  | .inl (a, b, t) => .inl (ck_max lo a, ck_min hi b, t)
  | x => x
def ck_pv (f0 : List ck_V) (μ : List Nat) : ck_V → ck_V
  | .inl (lo, hi, some (g, d)) => if 100 ≤ g ∧ g < 200 then (match f0[g - 100]? with
    | some (.inl q) => ck_isc lo hi (ck_add q (d, d, none))
    | _ => .inl (lo, hi, none)) else .inl (lo, hi, none)
  | .inr (.inr (1, j)) => match μ[j]? with
    | some i => .inr (.inr (1, i))
    | none => .inr (.inr (8, 0))
  | x => x
def ck_rst (tab : List ck_D) (wr : List Nat) (c : ck_C) : ck_C := match c.1 with
  | (3, τ) => if wr.contains τ then (match tab[τ]? with
    | some (.inr (_, ks)) => if ks.all ck_plain then ((3, τ), ks) else ((2, 0), [])
    | _ => ((2, 0), [])) else c
  | (k + 7, τ) => if wr.contains τ then ((2, 0), []) else c
  | _ => c
def ck_fo (T : List ck_C) (i : Nat) : List ck_V := match T[i]? with
  | some c => c.2
  | none => []
def ck_f0 (T : List ck_C) : List Nat → List ck_V
  | [] => []
  | i :: t => ck_fo T i ++ ck_f0 T t
def ck_mu (T : List ck_C) (μ : List Nat) (post : List ck_C) : List Nat := μ ++ (List.range (post.length - μ.length)).map (fun k => T.length + k)
def ck_cp1 (tab : List ck_D) (wr : List Nat) (f0 : List ck_V) (μ μ' : List Nat) (post : List ck_C) (i : Nat) (c : ck_C) : ck_C := match μ.findIdx? (fun k => k == i) with
  | some j => match post[j]? with
    | some d => (d.1, d.2.map (ck_pv f0 μ'))
    | none => ((2, 0), [])
  | none => ck_rst tab wr c
def ck_cpost (tab : List ck_D) (wr : List Nat) (T : List ck_C) (μ : List Nat) (post : List ck_C) : List ck_C :=
  (T.mapIdx (fun i c => ck_cp1 tab wr (ck_f0 T μ) μ (ck_mu T μ post) post i c)) ++ (post.drop μ.length).map (fun d => (d.1, d.2.map (ck_pv (ck_f0 T μ) (ck_mu T μ post))))
section CKC
variable {D : va_G} {AC : Nat → ClassId} {S : Nat → Nat} {tab : List ck_D} {L : Heap} {ρ : Nat → Int} {G : Nat → Nat} {N : List Nat} {T : List ck_C} {H H' : Heap}
theorem ck_unf_ok (h4 : ck_H D AC S tab L ρ G N T H) {k : ck_V} {v : Value} (h : ck_R S ρ G N k v) : ck_R S ρ G N (ck_unf T k) v := by
  match k, h with
  | .inl q, h => exact h
  | .inr (.inl q), h => exact h
  | .inr (.inr (0, _)), h => exact h
  | .inr (.inr (1, i)), h =>
    show ck_R S ρ G N (match T[i]? with | some ((3, τ), _) => .inr (.inr (2, τ)) | some ((_ + 7, τ), _) => .inr (.inr (2, τ)) | _ => .inr (.inr (1, i))) v
    split
    · rename_i τ fs hi
      obtain ⟨a, ha, rfl⟩ := h
      obtain ⟨e1, e2, -⟩ := h4.2.2.1 i _ a hi ha
      exact ⟨a, rfl, e1, e2⟩
    · rename_i k7 τ fs hi
      obtain ⟨a, ha, rfl⟩ := h
      obtain ⟨e1, e2, -⟩ := h4.2.2.1 i _ a hi ha
      exact ⟨a, rfl, e1, e2⟩
    · exact h
  | .inr (.inr (2, τ)), h => exact h
  | .inr (.inr (3, j)), h => exact h
  | .inr (.inr (4, _)), h => exact h
  | .inr (.inr (n + 5, _)), h => exact h
/-- an argument, or a field, as the called one sees it -/
theorem ck_la_ok (h4 : ck_H D AC S tab L ρ G N T H) {μ : List Nat} {ρ0 : Nat → Int} {N0 : List Nat} (hN : ∀ (j i : Nat), μ[j]? = some i → N0[j]? = N[i]?) {k k' : ck_V} {v : Value} (hl : ck_la T μ k k' = true) (h : ck_R S ρ G N k v) : ck_R S ρ0 G N0 k' v := by
  have key : ∀ k' : ck_V, (ck_le (ck_unf T k) k' && ck_plain k') = true → ck_R S ρ0 G N0 k' v := by
    intro k' hl
    simp only [Bool.and_eq_true] at hl
    exact ((ck_unf_ok h4 h).le hl.1).plain hl.2
  match k', hl with
  | .inl q, hl => exact key _ hl
  | .inr (.inl q), hl => exact key _ hl
  | .inr (.inr (0, n)), hl => exact key _ hl
  | .inr (.inr (1, j)), hl =>
    have hl : (match μ[j]? with | some i => decide (k = .inr (.inr (1, i))) | none => false) = true := hl
    split at hl
    · rename_i i hi
      have e : k = .inr (.inr (1, i)) := by simpa using hl
      subst e
      obtain ⟨a, ha, rfl⟩ := h
      exact ⟨a, by rw [hN j i hi]; exact ha, rfl⟩
    · cases hl
  | .inr (.inr (2, τ)), hl => exact key _ hl
  | .inr (.inr (3, n)), hl => exact key _ hl
  | .inr (.inr (4, n)), hl => exact key _ hl
  | .inr (.inr (n + 5, n')), hl => exact key _ hl
theorem ck_tagF_get (b : Nat) : ∀ (fs : List ck_V) (k0 k : Nat), (ck_tagF b fs k0)[k]? = (fs[k]?).map (fun v => match v with | .inl (lo, hi, _) => .inl (lo, hi, if k0 + k < 50 then some (b + (k0 + k), 0) else none) | x => x)
  | [], k0, k => by simp [ck_tagF]
  | .inl (lo, hi, t) :: r, k0, k => by
    cases k with
    | zero => simp [ck_tagF]
    | succ k =>
      show (ck_tagF b r (k0 + 1))[k]? = _
      rw [ck_tagF_get b r (k0 + 1) k]
      simp [Nat.add_comm, Nat.add_left_comm]
  | .inr x :: r, k0, k => by
    cases k with
    | zero => simp [ck_tagF]
    | succ k =>
      show (ck_tagF b r (k0 + 1))[k]? = _
      rw [ck_tagF_get b r (k0 + 1) k]
      simp [Nat.add_comm, Nat.add_left_comm]
theorem ck_tagF_len (b : Nat) : ∀ (fs : List ck_V) (k0 : Nat), (ck_tagF b fs k0).length = fs.length
  | [], _ => rfl
  | .inl (lo, hi, t) :: r, k0 => by simp [ck_tagF, ck_tagF_len b r]
  | .inr x :: r, k0 => by simp [ck_tagF, ck_tagF_len b r]
def ck_iv (v : Option Value) : Int := match v with
  | some (.int x) => x.toInt
  | _ => 0
/-- the values of a cell's fields -/
theorem ck_vals {c : ck_C} {a : Nat} (h : ck_tc D AC S tab L ρ G N H c a) (hk : c.1.1 = 0 ∨ c.1.1 = 1 ∨ c.1.1 = 5 ∨ ck_foc c) : ∃ f : Nat → Value, (∀ (j : Nat) (v : ck_V), c.2[j]? = some v → ck_R S ρ G N v (f j)) ∧ ∀ (ρ' : Nat → Int) (N' : List Nat) (c' : ck_C), c'.1 = c.1 → c'.2.length = c.2.length → (∀ (j : Nat) (v : ck_V), c'.2[j]? = some v → ck_R S ρ' G N' v (f j)) → ck_tc D AC S tab L ρ' G N' H c' a := by
  obtain ⟨⟨k, n⟩, fs⟩ := c
  unfold ck_foc at hk
  dsimp only at hk
  rcases hk with rfl | rfl | rfl | rfl | h7
  · obtain ⟨l1, l2, vs, z1, z2⟩ := h
    refine ⟨fun j => vs.getD j .null, fun j v hj => ?_, fun ρ' N' c' e1 e2 hc => ?_⟩
    · obtain ⟨b, y1, y2⟩ := z2.get hj
      show ck_R S ρ G N v (vs.getD j .null)
      rw [List.getD_eq_getElem?_getD, y1]
      exact y2
    · obtain ⟨⟨k', n'⟩, fs'⟩ := c'
      cases e1
      refine ⟨l1, l2, vs, z1, by rw [e2]; exact z2.1, fun j x y hx hy => ?_⟩
      have : ck_R S ρ' G N' x (vs.getD j .null) := hc j x hx
      rw [List.getD_eq_getElem?_getD, hy] at this
      exact this
  · obtain ⟨l1, l2, f, z1, z2⟩ := h
    refine ⟨f, z2, fun ρ' N' c' e1 e2 hc => ?_⟩
    obtain ⟨⟨k', n'⟩, fs'⟩ := c'
    cases e1
    exact ⟨l1, l2, f, by rw [e2]; exact z1, hc⟩
  · obtain ⟨l1, cell, l2, l3, z2⟩ := h
    refine ⟨fun j => cell.slots.getD j .null, fun j v hj => ?_, fun ρ' N' c' e1 e2 hc => ?_⟩
    · obtain ⟨w, y1, y2⟩ := z2 j v hj
      show ck_R S ρ G N v (cell.slots.getD j .null)
      rw [Array.getD_eq_getD_getElem?, y1]
      exact y2
    · obtain ⟨⟨k', n'⟩, fs'⟩ := c'
      cases e1
      refine ⟨l1, cell, l2, l3, fun j v hj => ?_⟩
      have h9 : j < fs.length := by rw [← e2]; exact (List.getElem?_eq_some_iff.mp hj).1
      obtain ⟨w, y1, -⟩ := z2 j _ (List.getElem?_eq_getElem h9)
      have : ck_R S ρ' G N' v (cell.slots.getD j .null) := hc j v hj
      rw [Array.getD_eq_getD_getElem?, y1] at this
      exact ⟨w, y1, this⟩
  · obtain ⟨l1, l2, ci, ks, vs, z0, z1, z2⟩ := h
    dsimp only at z2
    refine ⟨fun j => vs.getD j .null, fun j v hj => ?_, fun ρ' N' c' e1 e2 hc => ?_⟩
    · obtain ⟨b, y1, y2⟩ := z2.get hj
      show ck_R S ρ G N v (vs.getD j .null)
      rw [List.getD_eq_getElem?_getD, y1]
      exact y2
    · obtain ⟨⟨k', n'⟩, fs'⟩ := c'
      cases e1
      refine ⟨l1, l2, ci, ks, vs, z0, z1, by dsimp only at e2 ⊢; rw [e2]; exact z2.1, fun j x y hx hy => ?_⟩
      have : ck_R S ρ' G N' x (vs.getD j .null) := hc j x hx
      rw [List.getD_eq_getElem?_getD, hy] at this
      exact this
  · obtain ⟨k', rfl⟩ : ∃ k', k = k' + 7 := ⟨k - 7, by omega⟩
    obtain ⟨l1, l2, ac, n0, sg, f, z0, z1, z2, z3⟩ := h
    refine ⟨fun j => f (k' + j), z3, fun ρ' N' c' e1 e2 hc => ?_⟩
    obtain ⟨⟨k9, n9⟩, fs'⟩ := c'
    cases e1
    exact ⟨l1, l2, ac, n0, sg, f, z0, z1, by dsimp only at e2 z2 ⊢; omega, hc⟩
theorem ck_lc_ok {T : List ck_C} {μ : List Nat} {c c' : ck_C} (h : ck_lc T μ c c' = true) : c.1 = c'.1 ∧ (c.1.1 = 0 ∨ c.1.1 = 1 ∨ c.1.1 = 5 ∨ ck_foc c) ∧ c.2.length = c'.2.length ∧ (c.2.zip c'.2).all (fun q => ck_la T μ q.1 q.2) = true := by
  unfold ck_lc at h
  simp only [Bool.and_eq_true, Bool.or_eq_true, beq_iff_eq, decide_eq_true_eq] at h
  obtain ⟨⟨⟨e1, k⟩, e2⟩, e3⟩ := h
  refine ⟨e1, ?_, e2, e3⟩
  rcases k with (((k | k) | k) | k) | k
  · exact Or.inl k
  · exact Or.inr (Or.inl k)
  · exact Or.inr (Or.inr (Or.inl k))
  · exact Or.inr (Or.inr (Or.inr (Or.inl k)))
  · exact Or.inr (Or.inr (Or.inr (Or.inr k)))
theorem ck_etX_get : ∀ {l : List ck_C} {k j : Nat} {d : ck_C}, (ck_etX k l)[j]? = some d → ∃ c, l[j]? = some c ∧ d.1 = c.1
  | [], k, j, d, h => by simp [ck_etX] at h
  | (h0, fs) :: t, k, j, d, h => by
    cases j with
    | zero =>
      simp only [ck_etX, List.getElem?_cons_zero, Option.some.injEq] at h
      exact ⟨(h0, fs), rfl, by rw [← h]⟩
    | succ j =>
      simp only [ck_etX, List.getElem?_cons_succ] at h
      obtain ⟨c, h1, h2⟩ := ck_etX_get h
      exact ⟨c, by simpa using h1, h2⟩
/-- the values of all fields that a contract names, and what they say of its cells -/
theorem ck_pre_vals (h4 : ck_H D AC S tab L ρ G N T H) {μ : List Nat} : ∀ (μs : List Nat) (pre : List ck_C) (k0 : Nat), μs.length = pre.length → (∀ (j i : Nat) (c' : ck_C), μs[j]? = some i → pre[j]? = some c' → ∃ c a, T[i]? = some c ∧ N[i]? = some a ∧ ck_lc T μ c c' = true) →
    ∃ f : Nat → Value, (∀ (q : Nat) (v : ck_V), (ck_f0 T μs)[q]? = some v → ck_R S ρ G N v (f (k0 + q))) ∧ ∀ (ρ0 : Nat → Int) (N0 : List Nat), (∀ k, k0 ≤ k → k < 50 → ρ0 (100 + k) = ck_iv (some (f k))) → (∀ (j i : Nat), μ[j]? = some i → N0[j]? = N[i]?) →
      ∀ (j : Nat) (d : ck_C), (ck_etX k0 pre)[j]? = some d → ∀ (i a : Nat), μs[j]? = some i → N[i]? = some a → ck_tc D AC S tab L ρ0 G N0 H d a
  | [], pre, k0, hl, hc => by
    cases pre with
    | nil => exact ⟨fun _ => .null, fun q v hv => by simp [ck_f0] at hv, fun ρ0 N0 _ _ j d hd => by simp [ck_etX] at hd⟩
    | cons a b => simp at hl
  | i :: μs, [], k0, hl, hc => by simp at hl
  | i :: μs, (hd', fs') :: pre, k0, hl, hc => by
    obtain ⟨c, a, hT, hNa, hlc⟩ := hc 0 i (hd', fs') rfl rfl
    obtain ⟨e1, hk, e2, e3⟩ := ck_lc_ok hlc
    dsimp only at e1 e2 e3
    obtain ⟨f0, f1, f2⟩ := ck_vals (h4.2.2.1 i c a hT hNa) hk
    obtain ⟨f', g1, g2⟩ := ck_pre_vals h4 (μ := μ) μs pre (k0 + fs'.length) (by simpa using hl) (fun j i' c' h1 h2 => hc (j + 1) i' c' (by simpa using h1) (by simpa using h2))
    have hfo : ck_fo T i = c.2 := by unfold ck_fo; rw [hT]
    have hflo : ∀ q, q < fs'.length → (fun k => if k < k0 + fs'.length then f0 (k - k0) else f' k) (k0 + q) = f0 q := fun q hq => by
      show (if k0 + q < k0 + fs'.length then f0 (k0 + q - k0) else f' (k0 + q)) = f0 q
      rw [if_pos (by omega), show k0 + q - k0 = q by omega]
    have hfhi : ∀ k, k0 + fs'.length ≤ k → (fun k => if k < k0 + fs'.length then f0 (k - k0) else f' k) k = f' k := fun k hk => by
      show (if k < k0 + fs'.length then f0 (k - k0) else f' k) = f' k
      rw [if_neg (by omega)]
    refine ⟨fun k => if k < k0 + fs'.length then f0 (k - k0) else f' k, fun q v hv => ?_, fun ρ0 N0 hρ hN0 j d hd i' a' hi' ha' => ?_⟩
    · have hv : (ck_fo T i ++ ck_f0 T μs)[q]? = some v := hv
      rw [hfo] at hv
      by_cases hq : q < c.2.length
      · rw [List.getElem?_append_left hq] at hv
        rw [hflo q (by omega)]
        exact f1 q v hv
      · rw [List.getElem?_append_right (by omega)] at hv
        rw [hfhi (k0 + q) (by omega)]
        have := g1 (q - c.2.length) v hv
        rw [show k0 + fs'.length + (q - c.2.length) = k0 + q by omega] at this
        exact this
    · cases j with
      | zero =>
        have hi' : i = i' := by simpa using hi'
        subst hi'
        cases hNa.symm.trans ha'
        simp only [ck_etX, List.getElem?_cons_zero, Option.some.injEq] at hd
        subst hd
        refine f2 ρ0 N0 _ e1.symm (by rw [ck_tagF_len]; exact e2.symm) (fun q v hq => ?_)
        rw [ck_tagF_get] at hq
        obtain ⟨v', hv', rfl⟩ := Option.map_eq_some_iff.mp hq
        have hql : q < c.2.length := by rw [e2]; exact (List.getElem?_eq_some_iff.mp hv').1
        have hla : ck_la T μ c.2[q] v' = true := List.all_eq_true.mp e3 (c.2[q], v') (List.mem_of_getElem? (i := q) (by rw [List.getElem?_zip_eq_some]; exact ⟨List.getElem?_eq_getElem hql, hv'⟩))
        have hr := ck_la_ok (ρ0 := ρ0) (N0 := N0) h4 hN0 hla (f1 q _ (List.getElem?_eq_getElem hql))
        match v', hr with
        | .inl (lo, hi, t'), hr =>
          obtain ⟨x', ex, x1, x2, -⟩ := hr
          refine ⟨x', ex, x1, x2, fun g c9 hg => ?_⟩
          dsimp only at hg
          split at hg
          · rename_i h50
            cases hg
            have e9 := hρ (k0 + q) (by omega) h50
            rw [hflo q (by omega), ex] at e9
            rw [e9]
            show x'.toInt = x'.toInt + 0
            omega
          · cases hg
        | .inr z, hr => exact hr
      | succ j =>
        simp only [ck_etX, List.getElem?_cons_succ] at hd
        exact g2 ρ0 N0 (fun k h1 h2 => by rw [hρ k (by omega) h2, hfhi k h1]) hN0 j d hd i' a' (by simpa using hi') ha'
/-- what the called one asks of the heap -/
theorem ck_H.pre (h4 : ck_H D AC S tab L ρ G N T H) {μ : List Nat} {pre : List ck_C} (hp : ck_cpre T μ pre = true) :
    ∃ (ρ0 : Nat → Int) (N0 : List Nat), (∀ (j i : Nat), μ[j]? = some i → N0[j]? = N[i]? ∧ ∃ a, N[i]? = some a) ∧ N0.length = μ.length ∧ ck_H D AC S tab L ρ0 G N0 (ck_etag pre) H ∧ (∀ (k : Nat) (v : ck_V), (ck_f0 T μ)[k]? = some v → k < 100 → ∃ w : Value, ck_R S ρ G N v w ∧ ρ0 (100 + k) = ck_iv (some w)) ∧ μ.Nodup ∧ (∀ i ∈ μ, ∃ c, T[i]? = some c ∧ (ck_own c = true ∨ c.1.1 = 5 ∨ ck_foc c)) := by
  unfold ck_cpre at hp
  simp only [Bool.and_eq_true, beq_iff_eq, decide_eq_true_eq] at hp
  obtain ⟨⟨hl, hz⟩, hnd⟩ := hp
  have hcell : ∀ (j i : Nat), μ[j]? = some i → ∃ c c' a, T[i]? = some c ∧ pre[j]? = some c' ∧ N[i]? = some a ∧ ck_lc T μ c c' = true := by
    intro j i hj
    have hjp : j < pre.length := by rw [← hl]; exact (List.getElem?_eq_some_iff.mp hj).1
    have hm : (i, pre[j]) ∈ μ.zip pre := List.mem_of_getElem? (i := j) (by rw [List.getElem?_zip_eq_some]; exact ⟨hj, List.getElem?_eq_getElem hjp⟩)
    have := List.all_eq_true.mp hz _ hm
    dsimp only at this
    split at this
    · rename_i c hc
      have hil : i < T.length := (List.getElem?_eq_some_iff.mp hc).1
      exact ⟨c, pre[j], N[i]'(by rw [h4.2.1]; exact hil), hc, List.getElem?_eq_getElem hjp, List.getElem?_eq_getElem _, this⟩
    · cases this
  have hN0 : ∀ (j i : Nat), μ[j]? = some i → (μ.map (fun i => N.getD i 0))[j]? = N[i]? := by
    intro j i hj
    obtain ⟨c, c', a, -, -, ha, -⟩ := hcell j i hj
    rw [List.getElem?_map, hj, ha]
    simp [List.getD_eq_getElem?_getD, ha]
  obtain ⟨f, f1, f2⟩ := ck_pre_vals h4 (μ := μ) μ pre 0 hl (fun j i c' h1 h2 => by
    obtain ⟨c, c'', a, k1, k2, k3, k4⟩ := hcell j i h1
    cases h2.symm.trans k2
    exact ⟨c, a, k1, k3, k4⟩)
  have f3 := f2 (fun g => ck_iv (some (f (g - 100)))) (μ.map (fun i => N.getD i 0)) (fun k _ _ => by show ck_iv (some (f (100 + k - 100))) = _; rw [show 100 + k - 100 = k by omega]) hN0
  refine ⟨fun g => ck_iv (some (f (g - 100))), μ.map (fun i => N.getD i 0), fun j i hj => ⟨hN0 j i hj, ?_⟩, by simp, ⟨h4.1, ?_, fun j d b hj hb => ?_, ?_⟩, fun k v hv hk => ?_, hnd, fun i hi => ?_⟩
  · obtain ⟨c, c', a, -, -, ha, -⟩ := hcell j i hj
    exact ⟨a, ha⟩
  · show (μ.map (fun i => N.getD i 0)).length = (ck_etX 0 pre).length
    rw [ck_etX_len]
    simp [hl]
  · have hjμ : j < μ.length := by
      have := (List.getElem?_eq_some_iff.mp hb).1
      simpa using this
    have hji : μ[j]? = some μ[j] := List.getElem?_eq_getElem hjμ
    exact f3 j d hj μ[j] b hji (by rw [← hN0 j _ hji]; exact hb)
  · intro j1 j2 d1 d2 b h1 h2 o1 o2 n1 n2
    have key : ∀ (j : Nat) (d : ck_C), (ck_etag pre)[j]? = some d → ck_own d = true → (μ.map (fun i => N.getD i 0))[j]? = some b → ∃ i c, μ[j]? = some i ∧ T[i]? = some c ∧ ck_own c = true ∧ N[i]? = some b := by
      intro j d hd ho hb
      have hjμ : j < μ.length := by
        have := (List.getElem?_eq_some_iff.mp hb).1
        simpa using this
      have hji : μ[j]? = some μ[j] := List.getElem?_eq_getElem hjμ
      obtain ⟨c, c', a, k1, k2, k3, k5⟩ := hcell j _ hji
      refine ⟨_, c, hji, k1, ?_, by rw [← hN0 j _ hji]; exact hb⟩
      have e1 := (ck_lc_ok k5).1
      obtain ⟨c'', z1, z2⟩ := ck_etX_get hd
      cases k2.symm.trans z1
      unfold ck_own at ho ⊢
      rw [e1, ← z2]
      exact ho
    obtain ⟨i1, c1, x1, x2, x3, x4⟩ := key j1 d1 h1 o1 n1
    obtain ⟨i2, c2, y1, y2, y3, y4⟩ := key j2 d2 h2 o2 n2
    have ei := h4.2.2.2 i1 i2 c1 c2 b x2 y2 x3 y3 x4 y4
    subst ei
    have hl1 := (List.getElem?_eq_some_iff.mp x1).1
    have hl2 := (List.getElem?_eq_some_iff.mp y1).1
    exact (List.getElem?_inj hl1 hnd).mp (x1.trans y1.symm)
  · have := f1 k v hv
    rw [Nat.zero_add] at this
    exact ⟨f k, this, by show ck_iv (some (f (100 + k - 100))) = _; rw [show 100 + k - 100 = k by omega]⟩
  · obtain ⟨j, hj⟩ := List.getElem?_of_mem hi
    obtain ⟨c, c', a, k1, k2, k3, k5⟩ := hcell j i hj
    refine ⟨c, k1, ?_⟩
    rcases (ck_lc_ok k5).2.1 with k | k | k
    · exact Or.inl (by simp [ck_own, k])
    · exact Or.inl (by simp [ck_own, k])
    · exact Or.inr k
end CKC
