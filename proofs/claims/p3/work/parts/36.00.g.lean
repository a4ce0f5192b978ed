/-! ===== frames with guarded writing, and with types of which no second cell is made ===== -/
/-- what may be written at all: codes from 1000 on speak of places from 128 on -/
def gk_w (wr : List Nat) : List Nat := wr ++ wr.filterMap (fun c => if 1000 ≤ c then some (c - 1000) else none)
def gk_isr (τ : Nat) : Bool := τ == 13 || τ == 46
def gk_isz (τ : Nat) : Bool := τ == 10 || τ == 13 || τ == 46 || τ == 49
def gk_mk (wr : List Nat) (ce τ : Nat) : Bool := !gk_isr τ || (wr.contains (τ + 2000) && ce == 0)
def gk_mk1 (τ ac : Nat) : Bool := !gk_isz τ || (!(τ == 13) && !(τ == 49) && ac == 0)
def gk_mk2 (τo τi : Nat) : Bool := (!gk_isz τo || τo == 13) && !gk_isr τi && !(τi == 49)
def gk_sw (wr : List Nat) (τ : Nat) (q : ck_Q) : Bool := wr.contains τ || (decide (128 ≤ q.1) && wr.contains (τ + 1000))
theorem gk_mk_ok {wr : List Nat} {ce τ : Nat} (h : gk_mk wr ce τ = true) : gk_isr τ = true → τ + 2000 ∈ wr ∧ ce = 0 := fun hr => by
  unfold gk_mk at h
  rw [hr] at h
  simpa using h
theorem gk_mk1_ok {τ ac : Nat} (h : gk_mk1 τ ac = true) : gk_isz τ = true → τ ≠ 13 ∧ τ ≠ 49 ∧ ac = 0 := fun hr => by
  unfold gk_mk1 at h
  rw [hr] at h
  simp only [Bool.not_true, Bool.false_or, Bool.and_eq_true, Bool.not_eq_true', beq_eq_false_iff_ne, beq_iff_eq] at h
  exact ⟨h.1.1, h.1.2, h.2⟩
theorem gk_mk2_ok {τo τi : Nat} (h : gk_mk2 τo τi = true) : (gk_isz τo = true → τo = 13) ∧ gk_isr τi = false ∧ τi ≠ 49 := by
  unfold gk_mk2 at h
  simp only [Bool.and_eq_true, Bool.not_eq_true', beq_eq_false_iff_ne] at h
  refine ⟨fun hr => ?_, h.1.2, h.2⟩
  have h1 := h.1.1
  rw [hr] at h1
  simpa using h1
theorem gk_sw_ok {wr : List Nat} {τ : Nat} {q : ck_Q} (h : gk_sw wr τ q = true) : τ ∈ wr ∨ (τ + 1000 ∈ wr ∧ 128 ≤ q.1) := by
  unfold gk_sw at h
  simp only [Bool.or_eq_true, Bool.and_eq_true, decide_eq_true_eq] at h
  rcases h with h | ⟨h1, h2⟩
  · exact Or.inl (by simpa using h)
  · exact Or.inr ⟨by simpa using h2, h1⟩
theorem gk_in_w {wr : List Nat} {τ : Nat} (h : τ ∈ wr) : τ ∈ gk_w wr := List.mem_append_left _ h
theorem gk_in_g {wr : List Nat} {τ : Nat} (h : τ + 1000 ∈ wr) : τ ∈ gk_w wr := List.mem_append_right _ (List.mem_filterMap.mpr ⟨_, h, by rw [if_pos (by omega)]; exact congrArg some (by omega)⟩)
theorem gk_w_sub {wk wr : List Nat} (h : ∀ τ ∈ wk, τ ∈ wr) : ∀ τ ∈ gk_w wk, τ ∈ gk_w wr := by
  intro τ hτ
  rcases List.mem_append.mp hτ with hm | hm
  · exact gk_in_w (h τ hm)
  · obtain ⟨c, hc, he⟩ := List.mem_filterMap.mp hm
    exact List.mem_append_right _ (List.mem_filterMap.mpr ⟨c, h c hc, he⟩)
def gk_at (H : Heap) (q j : Nat) : Option Value := match H[q]? with
  | some c => c.slots[j]?
  | none => none
def gk_sm (H0 H : Heap) (q : Nat) : Prop := ∀ j, j < 128 → gk_at H q j = gk_at H0 q j
theorem gk_at_eq {H H' : Heap} {q j : Nat} (h : H'[q]? = H[q]?) : gk_at H' q j = gk_at H q j := by
  unfold gk_at
  rw [h]
theorem gk_arr_eq {C : ClassId} {n j : Nat} {f g : Nat → Value} (h : ∀ k, k < 128 → f k = g k) (hj : j < 128) : (arrV C n f).slots[j]? = (arrV C n g).slots[j]? := by
  by_cases hn : j < n
  · rw [arrV_read _ _ hn, arrV_read _ _ hn, h j hj]
  · rw [Array.getElem?_eq_none (by rw [arrV_size]; omega), Array.getElem?_eq_none (by rw [arrV_size]; omega)]
/-- what is known of a new typed cell: one of a single kind stands first, and is counted; a row of rows has its own rows; what nobody wrote is 0 -/
def gk_nw (wr : List Nat) (H0 H : Heap) (τ q : Nat) : Prop := (gk_isr τ = true → τ + 2000 ∈ wr ∧ q = H0.size) ∧ τ ≠ 49 ∧ (τ ∉ wr → (τ = 13 → ∃ r : Nat → Nat, (∀ i j, r i = r j → i = j) ∧ ∀ k v, k < 4 → gk_at H q k = some v → v = .ref (r k)) ∧ ((τ = 10 ∨ τ = 46) → ∀ j v, j < 128 → gk_at H q j = some v → v = .int 0))
theorem gk_nw.mono {wr : List Nat} {H0 H H' : Heap} {τ q : Nat} (h : gk_nw wr H0 H τ q) (hs : τ ∈ wr ∨ ∀ j, j < 128 → gk_at H' q j = gk_at H q j) : gk_nw wr H0 H' τ q := by
  refine ⟨h.1, h.2.1, fun hn => ?_⟩
  have hs := hs.resolve_left hn
  obtain ⟨h1, h2⟩ := h.2.2 hn
  refine ⟨fun e => ?_, fun e j v hj hv => h2 e j v hj (by rw [← hs j hj]; exact hv)⟩
  obtain ⟨r, r1, r2⟩ := h1 e
  exact ⟨r, r1, fun k v hk hv => r2 k v hk (by rw [← hs k (by omega)]; exact hv)⟩
theorem gk_nw.free {wr : List Nat} {H0 H : Heap} {τ q : Nat} (h : gk_isz τ = false) : gk_nw wr H0 H τ q := by
  unfold gk_isz at h
  simp only [Bool.or_eq_false_iff, beq_eq_false_iff_ne] at h
  refine ⟨fun hr => ?_, h.2, fun _ => ⟨fun e => absurd e h.1.1.2, fun e => ?_⟩⟩
  · unfold gk_isr at hr
    simp only [Bool.or_eq_true, beq_iff_eq] at hr
    rcases hr with e | e
    · exact absurd e h.1.1.2
    · exact absurd e h.1.2
  · rcases e with e | e
    · exact absurd e h.1.1.1
    · exact absurd e h.1.2
theorem gk_size {p : Program} {l : Launch} {e : Env} {R : Room} {s : State} {m : MethodId} {args : Array Value} {below : List Frame} {meth : Method} {c : Code} {H : Heap} {locs : List Loc} {cells slots : Nat} {Q : State → Prop} {g : JFrame} (k : H.size ≤ s.heap.size + cells → W p l e R s m args below meth c H locs cells slots Q g) : W p l e R s m args below meth c H locs cells slots Q g := fun U hU X => k (by
  have := X.same.2.2.1
  subst hU
  exact this) U hU X
def gk_X (wr : List Nat) (G0 : Nat → Nat) (H0 : Heap) (G : Nat → Nat) (H : Heap) : Prop := (∀ q, q < H0.size → G0 q ≠ 0 → G0 q ∉ wr → gk_sm H0 H q) ∧ ∀ q, H0.size ≤ q → G q ≠ 0 → gk_nw wr H0 H (G q) q
def gck_F (wr : List Nat) (G0 : Nat → Nat) (N0 : List Nat) (H0 : Heap) (G : Nat → Nat) (N : List Nat) (T : List ck_C) (H : Heap) : Prop := ck_F (gk_w wr) G0 N0 H0 G N T H ∧ gk_X wr G0 H0 G H
section GF
variable {wr : List Nat} {G0 G G' : Nat → Nat} {N0 N N' : List Nat} {T T' : List ck_C} {H0 H H' : Heap} {a : Nat}
theorem gck_F.mapV (φ : ck_V → ck_V) (h : gck_F wr G0 N0 H0 G N T H) : gck_F wr G0 N0 H0 G N (T.map (fun c => (c.1, c.2.map φ))) H := ⟨h.1.mapV φ, h.2⟩
theorem gck_F.put (hF : gck_F wr G0 N0 H0 G N T H) (hs : H'.size = H.size) (hq : ∀ q, q ≠ a → H'[q]? = H[q]?) (ha : (G a ≠ 0 ∧ G a ∈ wr) ∨ (G a = 0 ∧ ∃ (i : Nat) (c : ck_C), T[i]? = some c ∧ N[i]? = some a ∧ ck_own c = true)) (hT : ∀ (i : Nat) (c : ck_C), T'[i]? = some c → ck_own c = true → ∃ c', T[i]? = some c' ∧ ck_own c' = true) : gck_F wr G0 N0 H0 G N T' H' := by
  refine ⟨hF.1.put hs hq (ha.imp (fun z => ⟨z.1, gk_in_w z.2⟩) id) hT, fun q hl hz hn j hj => ?_, fun q hl hz => (hF.2.2 q hl hz).mono ?_⟩
  rotate_left
  · by_cases hne : q = a
    · subst hne
      rcases ha with ⟨-, z⟩ | ⟨z, -⟩
      · exact Or.inl z
      · exact absurd z hz
    · exact Or.inr fun j _ => gk_at_eq (hq q hne)
  have e := hF.1.2.1 q hl
  have hne : q ≠ a := fun e1 => by
    subst e1
    rcases ha with ⟨-, z⟩ | ⟨z, -⟩
    · exact hn (by rw [← e]; exact z)
    · exact hz (by rw [← e]; exact z)
  rw [gk_at_eq (hq q hne)]
  exact hF.2.1 q hl hz hn j hj
theorem gck_F.putG (hF : gck_F wr G0 N0 H0 G N T H) (hs : H'.size = H.size) (hq : ∀ q, q ≠ a → H'[q]? = H[q]?) (hG : G a ≠ 0) (hw : G a + 1000 ∈ wr) (hsl : ∀ j, j < 128 → gk_at H' a j = gk_at H a j) (hT : ∀ (i : Nat) (c : ck_C), T'[i]? = some c → ck_own c = true → ∃ c', T[i]? = some c' ∧ ck_own c' = true) : gck_F wr G0 N0 H0 G N T' H' := by
  refine ⟨hF.1.put hs hq (Or.inl ⟨hG, gk_in_g hw⟩) hT, fun q hl hz hn j hj => ?_, fun q hl hz => (hF.2.2 q hl hz).mono (Or.inr fun j hj => ?_)⟩
  rotate_left
  · by_cases hne : q = a
    · subst hne
      exact hsl j hj
    · exact gk_at_eq (hq q hne)
  by_cases hne : q = a
  · subst hne
    rw [hsl j hj]
    exact hF.2.1 q hl hz hn j hj
  · rw [gk_at_eq (hq q hne)]
    exact hF.2.1 q hl hz hn j hj
theorem gck_F.new (hF : gck_F wr G0 N0 H0 G N T H) (hs : H.size ≤ H'.size) (hq : ∀ q, q < H.size → H'[q]? = H[q]?) (hG : ∀ q, q < H.size → G' q = G q) (hN : ∃ M, N' = N ++ M) (hT : ∀ (i : Nat) (c : ck_C) (a : Nat), T'[i]? = some c → N'[i]? = some a → ck_own c = true → (∃ c', T[i]? = some c' ∧ N[i]? = some a ∧ ck_own c' = true) ∨ H.size ≤ a) (hal : ∀ q, H.size ≤ q → G' q ≠ 0 → gk_nw wr H0 H' (G' q) q) : gck_F wr G0 N0 H0 G' N' T' H' := by
  have h1 := hF.1.1
  refine ⟨hF.1.new hs hq hG hN hT, fun q hl hz hn j hj => ?_, fun q hl hr => ?_⟩
  · rw [gk_at_eq (hq q (by omega))]
    exact hF.2.1 q hl hz hn j hj
  · by_cases h : q < H.size
    · rw [hG q h] at hr ⊢
      exact (hF.2.2 q hl hr).mono (Or.inr fun j _ => gk_at_eq (hq q h))
    · exact hal q (by omega) hr
theorem gck_F.dr {n : Nat} (h : gck_F wr G0 N0 H0 G N T H) (hn : N0.length ≤ n) : gck_F wr G0 N0 H0 G (N.take n) (ck_dr n T) H := ⟨h.1.dr hn, h.2⟩
theorem gck_F.leT (h : gck_F wr G0 N0 H0 G N T H) (hl : ck_leT T T' = true) : gck_F wr G0 N0 H0 G N T' H := ⟨h.1.leT hl, h.2⟩
theorem gck_F.refl (hl : N.length = T.length) (hz : ∀ q, H.size ≤ q → G q = 0) : gck_F wr G N H G N T H := by
  refine ⟨⟨Nat.le_refl _, fun _ _ => rfl, fun _ _ _ => rfl, Nat.le_refl _, fun _ _ => rfl, fun i c a hc ha ho hi => ?_⟩, fun _ _ _ _ _ _ => rfl, fun q hq hr => ?_⟩
  · have := (List.getElem?_eq_some_iff.mp hc).1
    omega
  · exact absurd (hz q hq) hr
end GF
section GH
variable {D : va_G} {AC : Nat → ClassId} {S : Nat → Nat} {tab : List ck_D} {L : Heap} {ρ : Nat → Int} {G : Nat → Nat} {N : List Nat} {T : List ck_C} {H H' : Heap}
theorem ck_H.postg {wk : List Nat} {μ : List Nat} {post : List ck_C} {ρ0 ρ1 : Nat → Int} {G1 : Nat → Nat} {N0 N1 : List Nat} (h4 : ck_H D AC S tab L ρ G N T H) (hN0 : ∀ (j i : Nat), μ[j]? = some i → N0[j]? = N[i]? ∧ ∃ a, N[i]? = some a) (hlen0 : N0.length = μ.length) (hnd : μ.Nodup) (hμT : ∀ i ∈ μ, ∃ c, T[i]? = some c ∧ (ck_own c = true ∨ c.1.1 = 5 ∨ ck_foc c))
    (hf : ∀ (k : Nat) (v : ck_V), (ck_f0 T μ)[k]? = some v → k < 100 → ∃ w : Value, ck_R S ρ G N v w ∧ ρ0 (100 + k) = ck_iv (some w)) (hρ : ∀ g, 100 ≤ g → g < 200 → ρ1 g = ρ0 g)
    (h1 : ck_H D AC S tab L ρ1 G1 N1 post H') (hF : gck_F wk G N0 H G1 N1 post H') :
    ∃ N', (∃ M, N' = N ++ M) ∧ (∀ q, G q ≠ 0 → G1 q = G q) ∧ ck_H D AC S tab L ρ G1 N' (ck_cpost tab (gk_w wk) T μ post) H' ∧ (∀ (k : ck_V) (v : Value), ck_R S ρ1 G1 N1 k v → ck_R S ρ G1 N' (ck_pv (ck_f0 T μ) (ck_mu T μ post) k) v) ∧
      ∀ {wr : List Nat} {G00 : Nat → Nat} {N00 : List Nat} {H00 : Heap}, (∀ τ ∈ wk, τ ∈ wr) → ((∃ c ∈ wk, 2000 ≤ c) → H.size ≤ H00.size) → gck_F wr G00 N00 H00 G N T H → gck_F wr G00 N00 H00 G1 N' (ck_cpost tab (gk_w wk) T μ post) H' := by
  obtain ⟨N', a1, a2, a3, a4, a5⟩ := h4.post (wk := gk_w wk) hN0 hlen0 hnd hμT hf hρ h1 hF.1
  refine ⟨N', a1, a2, a3, a4, fun {wr G00 N00 H00} hs hc0 h => ⟨a5 (gk_w_sub hs) h.1, fun q hl hz hn j hj => ?_, fun q hl hr => ?_⟩⟩
  · have e := h.1.2.1 q hl
    have l1 := h.1.1
    rw [hF.2.1 q (by omega) (by rw [e]; exact hz) (fun hm => hn (by rw [← e]; exact hs _ hm)) j hj]
    exact h.2.1 q hl hz hn j hj
  · by_cases hq : q < H.size
    · rw [hF.1.2.1 q hq] at hr ⊢
      refine (h.2.2 q hl hr).mono ?_
      by_cases hm : G q ∈ wk
      · exact Or.inl (hs _ hm)
      · exact Or.inr (hF.2.1 q hq hr hm)
    · obtain ⟨n1, n2⟩ := hF.2.2 q (by omega) hr
      refine ⟨fun hi => ?_, n2.1, fun hn => n2.2 (fun hm => hn (hs _ hm))⟩
      obtain ⟨n3, n4⟩ := n1 hi
      have h9 := hc0 ⟨_, n3, by omega⟩
      have h8 := h.1.1
      exact ⟨hs _ n3, by omega⟩
end GH
