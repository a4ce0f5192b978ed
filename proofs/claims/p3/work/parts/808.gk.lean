/-! ===== places told in three pieces ===== -/
theorem gi_xil {n k : Nat} : (xi n k).length = k := by
  unfold xi
  simp
theorem gi_seg {s0 p mm r s2 q : Nat} {M tl : List xk_V} {f : Nat → Nat} (hs : s2 = s0 + p + mm) (hM : M.length = mm) (hf : ∀ i, i < mm → M[i]? = some (0, f i, 0)) (hq : q < p + mm + r) : (xi s0 p ++ M ++ (xi s2 r ++ tl))[q]? = some (0, (if p ≤ q ∧ q < p + mm then f (q - p) else s0 + q), 0) := by
  by_cases h1 : q < p
  · rw [List.append_assoc, List.getElem?_append_left (by rw [gi_xil]; exact h1), gi_xi h1, if_neg (by omega)]
  · by_cases h2 : q < p + mm
    · rw [List.append_assoc, List.getElem?_append_right (by rw [gi_xil]; omega), gi_xil, List.getElem?_append_left (by omega), hf _ (by omega), if_pos ⟨by omega, h2⟩]
    · rw [List.getElem?_append_right (by rw [List.length_append, gi_xil, hM]; omega), List.length_append, gi_xil, hM, List.getElem?_append_left (by rw [gi_xil]; omega), gi_xi (by omega), if_neg (by omega), hs]
      exact congrArg some (congrArg (fun z => ((0, z, 0) : xk_V)) (by omega))
theorem gi_xm {s n : Nat} {f : Nat → Int} : (xn s n).map f = (List.range n).map (fun i => f (s + i)) := by
  unfold xn
  rw [List.map_map]
  rfl
theorem gi_mp {n : Nat} {f g : Nat → Int} (h : ∀ i, i < n → f i = g i) : (List.range n).map f = (List.range n).map g := List.map_congr_left fun i hi => h i (List.mem_range.mp hi)
theorem gi_m8 {b : Nat} : ∀ i, i < 8 → ((List.range 8).map (fun i => ((0, (b + 3 * i, 0)) : xk_V)))[i]? = some (0, b + 3 * i, 0) := fun i hi => by
  rw [List.getElem?_map, List.getElem?_range hi]
  rfl
/-- equal rows, told by places -/
theorem gi_E {H : Heap} {a : Nat} {r : Nat → Nat} {nw : Nat → Int} (h1 : ∀ q, q < 128 → ∃ x : Int32, gk_at H (r (q / 32)) (q % 32) = some (.int x) ∧ x.toInt = nw q) (h2 : ∀ q, q < 128 → ∃ x : Int32, gk_at H a q = some (.int x) ∧ x.toInt = nw q) : gr_E H a r := fun k j hk hj => by
  obtain ⟨x, x1, x2⟩ := h1 (32 * k + j) (by omega)
  obtain ⟨y, y1, y2⟩ := h2 (32 * k + j) (by omega)
  rw [show (32 * k + j) / 32 = k by omega, show (32 * k + j) % 32 = j by omega] at x1
  rw [x1, y1, gi_ieq (x2.trans y2.symm)]
