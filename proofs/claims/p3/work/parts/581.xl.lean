/-! ===== calls of the curve's functions: groups of limbs ===== -/
theorem xl_pos {N i : Nat} {L : List Int} (hL : L.length = N) (hi : i < N) : xk_pos (xn 1 N) L (1 + i) = L.getD i 0 := by
  have hx : (xn 1 N).length = N := by unfold xn; simp
  have hg : i < (xn 1 N).length := by omega
  have e0 : (xn 1 N)[i]? = some (1 + i) := by
    unfold xn
    rw [List.getElem?_map, List.getElem?_range hi]
    rfl
  have e : (xn 1 N)[i] = 1 + i := by
    have := List.getElem?_eq_getElem hg
    rw [e0] at this
    exact (Option.some.inj this).symm
  have := xk_pos_get (l := xn 1 N) (inp := L) (i := i) (xn_nodup 1 N) (by omega) hg
  rw [e] at this
  exact this
theorem xl_nu {N k j n : Nat} {ν : Nat → Int} {L : List Int} (hν : ∀ g, g ≤ n → ν g = xk_pos (xn 1 N) L g) (hL : L.length = N) (hn : N ≤ n) (hk : k + j ≤ N) : (xn (1 + k) j).map ν = (L.drop k).take j := by
  apply List.ext_getElem?
  intro i
  by_cases hi : i < j
  · unfold xn
    rw [List.getElem?_map, List.getElem?_map, List.getElem?_range hi, List.getElem?_take_of_lt hi, List.getElem?_drop]
    show some (ν (1 + k + i)) = _
    have hki : k + i < L.length := by omega
    rw [hν _ (by omega), show 1 + k + i = 1 + (k + i) by omega, xl_pos hL (by omega), List.getElem?_eq_getElem hki, List.getD_eq_getElem?_getD, List.getElem?_eq_getElem hki]
    rfl
  · rw [List.getElem?_eq_none (by unfold xn; simp; omega), List.getElem?_eq_none (by simp; omega)]
section XL
variable {Φ : Nat → Nat → List Int → Int} {wd : Nat → Nat} {ρ : Nat → Int}
theorem xl_G.le {k k' : Int} {ns : List Nat} {x : Int} (h : xl_G ρ k ns x) (hk : k ≤ k') : xl_G ρ k' ns x := by
  refine ⟨h.1, fun i g hg => ?_, h.2.2⟩
  obtain ⟨a, b⟩ := h.2.1 i g hg
  exact ⟨fun hi => by have := a hi; omega, fun hi => by have := b hi; omega⟩
theorem xl_ovs : ∀ {ns : List Nat}, ns.all (fun g => decide (0 < g)) = true → (ns.map (fun g => ((g, 0) : xk_O))).map (xk_ov ρ) = ns.map ρ
  | [], _ => rfl
  | g :: t, h => by
    simp only [List.all_cons, Bool.and_eq_true, decide_eq_true_eq] at h
    show xk_ov ρ (g, 0) :: _ = ρ g :: _
    rw [xl_ovs h.2]
    unfold xk_ov
    rw [if_neg (by show ¬ g = 0; omega)]
theorem xl_bnd {n0 : Nat} {k : Int} {xs : List Nat} {x : Int} {f : Nat → Int} (hx : xl_G ρ k xs x) (hf : ∀ i g, xs[i]? = some g → f (n0 + i) = ρ g) : ∀ q ∈ xc_b10 n0 k, q.2.1 ≤ f q.1 ∧ f q.1 ≤ q.2.2 := by
  intro q hq
  unfold xc_b10 at hq
  obtain ⟨i, hi, rfl⟩ := List.mem_map.mp hq
  have hi := List.mem_range.mp hi
  have hil : i < xs.length := by rw [hx.1]; exact hi
  have hg := List.getElem?_eq_getElem hil
  obtain ⟨a, b⟩ := hx.2.1 i _ hg
  have e := hf i _ hg
  split
  · rename_i h; dsimp only; rw [e]; exact a h
  · rename_i h; dsimp only; rw [e]; exact b (by omega)
/-- the group that comes out -/
theorem xl_out {n b : Nat} {k : Int} {l : List xk_V} {z : Int} (hc : xl_cg (xc_val (((xc_o10 l k).map (fun q => b + (q.1 - n - 1))).map ρ) xc_E10) z) (hb : ∀ q ∈ xc_o10 l k, q.2.1 ≤ ρ (b + (q.1 - n - 1)) ∧ ρ (b + (q.1 - n - 1)) ≤ q.2.2) : xl_G ρ k ((xc_o10 l k).map (fun q => b + (q.1 - n - 1))) z := by
  refine ⟨by unfold xc_o10; simp, fun i g hg => ?_, hc⟩
  rw [List.getElem?_map] at hg
  cases hq : (xc_o10 l k)[i]? with
  | none => rw [hq] at hg; cases hg
  | some q =>
    rw [hq] at hg
    cases hg
    have hm := hb q (List.mem_of_getElem? hq)
    unfold xc_o10 at hq
    have hi : i < 10 := by
      have := (List.getElem?_eq_some_iff.mp hq).1
      simpa using this
    rw [List.getElem?_map, List.getElem?_range hi] at hq
    have hq : some (if i % 2 = 0 then ((l.getD i (0, 0, 0)).2.1, -k, k) else ((l.getD i (0, 0, 0)).2.1, -(k / 2), k / 2)) = some q := hq
    have hq := Option.some.inj hq
    refine ⟨fun h => ?_, fun h => ?_⟩
    · rw [if_pos h] at hq; subst hq; exact hm
    · rw [if_neg (by omega)] at hq; subst hq; exact hm
theorem xl_two {t n b : Nat} {tb : List xk_E} {xs ys : List Nat} {l : List xk_V} {k1 k2 k : Int} {x y : Int} {want : Option xa_P} {f : Int → Int → Int} (hP : kP Φ wd t n (xn 1 20) tb) (hwf : xk_wf wd (n + 1) tb = true) (hck : xc_ck tb (xc_b10 1 k1 ++ xc_b10 11 k2) (xc_o10 l k) xc_E10 xc_p want = true) (hn : 20 ≤ n) (hout : (xc_o10 l k).all (fun q => decide (n < q.1) && decide (q.1 - n - 1 < wd t)) = true)
    (hw : ∀ w ν, want = some w → xa_e ν w = f (xc_val ((xn 1 10).map ν) xc_E10) (xc_val ((xn 11 10).map ν) xc_E10)) (hf : ∀ a b c d, xl_cg a c → xl_cg b d → xl_cg (f a b) (f c d)) (he : xk_eok Φ wd ρ (b, 1000 + t, (xs ++ ys).map (fun g => (g, 0)))) (hx : xl_G ρ k1 xs x) (hy : xl_G ρ k2 ys y) (hpos : (xs ++ ys).all (fun g => decide (0 < g)) = true) : xl_G ρ k ((xc_o10 l k).map (fun q => b + (q.1 - n - 1))) (f x y) := by
  have hL := xl_ovs (ρ := ρ) hpos
  have hlen : ((xs ++ ys).map ρ).length = 20 := by simp [hx.1, hy.1]
  have gx : ∀ i g, xs[i]? = some g → xk_pos (xn 1 20) ((xs ++ ys).map ρ) (1 + i) = ρ g := fun i g hg => by
    have hi : i < xs.length := (List.getElem?_eq_some_iff.mp hg).1
    rw [xl_pos hlen (by rw [hx.1] at hi; omega), List.getD_eq_getElem?_getD, List.getElem?_map, List.getElem?_append_left hi, hg]
    rfl
  have gy : ∀ i g, ys[i]? = some g → xk_pos (xn 1 20) ((xs ++ ys).map ρ) (11 + i) = ρ g := fun i g hg => by
    have hi : i < ys.length := (List.getElem?_eq_some_iff.mp hg).1
    have hx1 := hx.1
    have hy1 := hy.1
    rw [show 11 + i = 1 + (10 + i) by omega, xl_pos hlen (by omega), List.getD_eq_getElem?_getD, List.getElem?_map, List.getElem?_append_right (by omega), show 10 + i - xs.length = i by omega, hg]
    rfl
  obtain ⟨w, ν, h1, h2, h3, h4⟩ := xl_call hP hwf hck he (by
    rw [List.all_eq_true]
    intro q hq
    rw [decide_eq_true_eq]
    rcases List.mem_append.mp hq with hq | hq
    · unfold xc_b10 at hq
      obtain ⟨i, hi, rfl⟩ := List.mem_map.mp hq
      have := List.mem_range.mp hi
      split <;> (dsimp only; omega)
    · unfold xc_b10 at hq
      obtain ⟨i, hi, rfl⟩ := List.mem_map.mp hq
      have := List.mem_range.mp hi
      split <;> (dsimp only; omega)) hout (by
    rw [hL]
    intro q hq
    rcases List.mem_append.mp hq with hq | hq
    · exact xl_bnd hx gx q hq
    · exact xl_bnd hy gy q hq)
  rw [hL] at h2
  have v1 := xl_nu (k := 0) (j := 10) h2 hlen hn (by omega)
  have v2 := xl_nu (k := 10) (j := 10) h2 hlen hn (by omega)
  have hx1 := hx.1
  have hy1 := hy.1
  have e1 : (((xs ++ ys).map ρ).drop 0).take 10 = xs.map ρ := by
    rw [List.drop_zero, List.map_append, List.take_left' (by simp [hx1])]
  have e2 : (((xs ++ ys).map ρ).drop 10).take 10 = ys.map ρ := by
    rw [List.map_append, List.drop_left' (by simp [hx1]), List.take_of_length_le (by simp [hy1])]
  rw [e1] at v1
  rw [e2] at v2
  refine xl_out ?_ h4
  have h3 : xl_cg _ (xa_e ν w) := h3
  rw [hw w ν h1, v1, v2] at h3
  exact h3.trans (hf _ _ _ _ hx.2.2 hy.2.2)
end XL
