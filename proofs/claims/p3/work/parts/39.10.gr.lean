/-! ===== the desk's rows and the reference's memory ===== -/
def gr_kc : List Int := [1116352408, 1899447441, -1245643825, -373957723, 961987163, 1508970993, -1841331548, -1424204075, -670586216, 310598401, 607225278, 1426881987, 1925078388, -2132889090, -1680079193, -1046744716, -459576895, -272742522, 264347078, 604807628, 770255983, 1249150122, 1555081692, 1996064986, -1740746414, -1473132947, -1341970488, -1084653625, -958395405, -710438585, 113926993, 338241895, 666307205, 773529912, 1294757372, 1396182291, 1695183700, 1986661051, -2117940946, -1838011259, -1564481375, -1474664885, -1035236496, -949202525, -778901479, -694614492, -200395387, 275423344, 430227734, 506948616, 659060556, 883997877, 958139571, 1322822218, 1537002063, 1747873779, 1955562222, 2024104815, -2067236844, -1933114872, -1866530822, -1538233109, -1090935817, -965641998, 1779033703, -1150833019, 1013904242, -1521486534, 1359893119, -1694144372, 528734635, 1541459225]
/-- one row of rows, one memory; the rows; the reference's constants -/
def gr_R (G : Nat → Nat) (H : Heap) (d a : Nat) (r : Nat → Nat) : Prop :=
  G d = 13 ∧ G a = 46 ∧ (∀ q, G q = 13 → q = d) ∧ (∀ q, G q = 46 → q = a) ∧ (∀ i j, r i = r j → i = j) ∧ (∀ k, k < 4 → G (r k) = 10 ∧ gk_at H d k = some (.ref (r k))) ∧ ∀ q, G q = 49 → ∀ j v, gr_kc[j]? = some v → ∃ x : Int32, gk_at H q j = some (.int x) ∧ x.toInt = v
/-- the rows are the memory's first places -/
def gr_E (H : Heap) (a : Nat) (r : Nat → Nat) : Prop := ∀ k j, k < 4 → j < 32 → gk_at H (r k) j = gk_at H a (32 * k + j)
def gr_wk (wr : List Nat) : Bool := !wr.contains 13 && !wr.contains 49 && !wr.contains 2013 && !wr.contains 2046
def gr_we (wr : List Nat) : Bool := !wr.contains 10 && !wr.contains 46
section GR
variable {wr : List Nat} {G G' : Nat → Nat} {N N' : List Nat} {T : List ck_C} {H H' : Heap} {d a : Nat} {r : Nat → Nat}
theorem gr_nc {wr : List Nat} {τ : Nat} (h : (!wr.contains τ) = true) : τ ∉ wr := by
  simpa using h
theorem gr_wk_ok (h : gr_wk wr = true) : 13 ∉ wr ∧ 49 ∉ wr ∧ 2013 ∉ wr ∧ 2046 ∉ wr := by
  unfold gr_wk at h
  simp only [Bool.and_eq_true] at h
  exact ⟨gr_nc h.1.1.1, gr_nc h.1.1.2, gr_nc h.1.2, gr_nc h.2⟩
theorem gr_we_ok (h : gr_we wr = true) : 10 ∉ wr ∧ 46 ∉ wr := by
  unfold gr_we at h
  simp only [Bool.and_eq_true] at h
  exact ⟨gr_nc h.1, gr_nc h.2⟩
theorem gr_lt (hz : ∀ q, H.size ≤ q → G q = 0) {q : Nat} (h : G q ≠ 0) : q < H.size := by
  by_cases hq : q < H.size
  · exact hq
  · exact absurd (hz q (by omega)) h
theorem gr_at (hF : gck_F wr G N H G' N' T H') (hz : ∀ q, H.size ≤ q → G q = 0) {q τ j : Nat} (hq : G q = τ) (h0 : τ ≠ 0) (hw : τ ∉ wr) (hj : j < 128) : gk_at H' q j = gk_at H q j := by
  subst hq
  exact hF.2.1 q (gr_lt hz h0) h0 hw j hj
theorem gr_old (hF : gck_F wr G N H G' N' T H') (hz : ∀ q, H.size ≤ q → G q = 0) {q τ : Nat} (hq : G q = τ) (h0 : τ ≠ 0) : G' q = τ := by
  subst hq
  exact hF.1.2.1 q (gr_lt hz h0)
theorem gr_R.keep (hF : gck_F wr G N H G' N' T H') (hz : ∀ q, H.size ≤ q → G q = 0) (hw : gr_wk wr = true) (h : gr_R G H d a r) : gr_R G' H' d a r := by
  obtain ⟨w1, w2, w3, w4⟩ := gr_wk_ok hw
  obtain ⟨h1, h2, h3, h4, h5, h6, h7⟩ := h
  refine ⟨gr_old hF hz h1 (by decide), gr_old hF hz h2 (by decide), fun q hq => ?_, fun q hq => ?_, h5, fun k hk => ⟨gr_old hF hz (h6 k hk).1 (by decide), ?_⟩, fun q hq j v hv => ?_⟩
  · by_cases hl : q < H.size
    · exact h3 q (by rw [← hF.1.2.1 q hl]; exact hq)
    · have := (hF.2.2 q (by omega) (by rw [hq]; decide)).1 (by rw [hq]; rfl)
      rw [hq] at this
      exact absurd this.1 w3
  · by_cases hl : q < H.size
    · exact h4 q (by rw [← hF.1.2.1 q hl]; exact hq)
    · have := (hF.2.2 q (by omega) (by rw [hq]; decide)).1 (by rw [hq]; rfl)
      rw [hq] at this
      exact absurd this.1 w4
  · rw [gr_at hF hz h1 (by decide) w1 (by omega)]
    exact (h6 k hk).2
  · by_cases hl : q < H.size
    · have hq0 : G q = 49 := by rw [← hF.1.2.1 q hl]; exact hq
      have hj : j < 128 := by
        have := (List.getElem?_eq_some_iff.mp hv).1
        have e : gr_kc.length = 72 := rfl
        omega
      rw [gr_at hF hz hq0 (by decide) w2 hj]
      exact h7 q hq0 j v hv
    · exact absurd hq (hF.2.2 q (by omega) (by rw [hq]; decide)).2.1
theorem gr_E.keep (hF : gck_F wr G N H G' N' T H') (hz : ∀ q, H.size ≤ q → G q = 0) (hw : gr_we wr = true) (h : gr_R G H d a r) (he : gr_E H a r) : gr_E H' a r := by
  obtain ⟨w1, w2⟩ := gr_we_ok hw
  intro k j hk hj
  rw [gr_at hF hz (h.2.2.2.2.2.1 k hk).1 (by decide) w1 (by omega), gr_at hF hz h.2.1 (by decide) w2 (by omega)]
  exact he k j hk hj
/-- at first: at most one row of rows, one memory, all that is written nowhere is 0 -/
def gr_P (G : Nat → Nat) (H : Heap) (o1 o2 : Option Nat) : Prop :=
  (∀ q, G q = 13 → o1 = some q) ∧ (∀ q, G q = 46 → o2 = some q) ∧ (∀ q, G q ≠ 49) ∧ (∀ q, G q = 13 → ∃ r : Nat → Nat, (∀ i j, r i = r j → i = j) ∧ ∀ k v, k < 4 → gk_at H q k = some v → v = .ref (r k)) ∧ ∀ q, (G q = 10 ∨ G q = 46) → ∀ j v, j < 128 → gk_at H q j = some v → v = .int 0
theorem gr_P.first : gr_P (fun _ => 0) H none none := ⟨fun q h => (by cases h), fun q h => (by cases h), fun q h => (by cases h), fun q h => (by cases h), fun q h => (by rcases h with h | h <;> cases h)⟩
theorem gr_P.step {o1 o2 p1 p2 : Option Nat} (hF : gck_F wr G N H G' N' T H') (hz : ∀ q, H.size ≤ q → G q = 0) (hw : (gr_we wr && !wr.contains 13) = true) (h : gr_P G H o1 o2) (hp1 : (2013 ∉ wr ∧ p1 = o1) ∨ (o1 = none ∧ p1 = some H.size)) (hp2 : (2046 ∉ wr ∧ p2 = o2) ∨ (o2 = none ∧ p2 = some H.size)) : gr_P G' H' p1 p2 := by
  simp only [Bool.and_eq_true] at hw
  obtain ⟨w1, w2⟩ := gr_we_ok hw.1
  have w3 := gr_nc hw.2
  obtain ⟨h1, h2, h3, h4, h5⟩ := h
  refine ⟨fun q hq => ?_, fun q hq => ?_, fun q hq => ?_, fun q hq => ?_, fun q hq j v hj hv => ?_⟩
  · by_cases hl : q < H.size
    · have := h1 q (by rw [← hF.1.2.1 q hl]; exact hq)
      rcases hp1 with ⟨-, e⟩ | ⟨e, -⟩
      · rw [e]; exact this
      · rw [e] at this; cases this
    · have := (hF.2.2 q (by omega) (by rw [hq]; decide)).1 (by rw [hq]; rfl)
      rw [hq] at this
      rcases hp1 with ⟨e, -⟩ | ⟨-, e⟩
      · exact absurd this.1 e
      · rw [e, this.2]
  · by_cases hl : q < H.size
    · have := h2 q (by rw [← hF.1.2.1 q hl]; exact hq)
      rcases hp2 with ⟨-, e⟩ | ⟨e, -⟩
      · rw [e]; exact this
      · rw [e] at this; cases this
    · have := (hF.2.2 q (by omega) (by rw [hq]; decide)).1 (by rw [hq]; rfl)
      rw [hq] at this
      rcases hp2 with ⟨e, -⟩ | ⟨-, e⟩
      · exact absurd this.1 e
      · rw [e, this.2]
  · by_cases hl : q < H.size
    · exact h3 q (by rw [← hF.1.2.1 q hl]; exact hq)
    · exact absurd hq (hF.2.2 q (by omega) (by rw [hq]; decide)).2.1
  · by_cases hl : q < H.size
    · have hq0 : G q = 13 := by rw [← hF.1.2.1 q hl]; exact hq
      obtain ⟨r, r1, r2⟩ := h4 q hq0
      exact ⟨r, r1, fun k v hk hv => r2 k v hk (by rw [← gr_at hF hz hq0 (by decide) w3 (by omega)]; exact hv)⟩
    · have h9 := (hF.2.2 q (by omega) (by rw [hq]; decide)).2.2 (by rw [hq]; exact w3)
      exact h9.1 hq
  · by_cases hl : q < H.size
    · have hq0 : G q = 10 ∨ G q = 46 := by rw [← hF.1.2.1 q hl]; exact hq
      refine h5 q hq0 j v hj ?_
      rcases hq0 with e | e
      · rw [← gr_at hF hz e (by decide) w1 hj]; exact hv
      · rw [← gr_at hF hz e (by decide) w2 hj]; exact hv
    · have hne : G' q ≠ 0 := by rcases hq with e | e <;> (rw [e]; decide)
      have hnw : G' q ∉ wr := by
        rcases hq with e | e
        · rw [e]; exact w1
        · rw [e]; exact w2
      exact ((hF.2.2 q (by omega) hne).2.2 hnw).2 hq j v hj hv
end GR
