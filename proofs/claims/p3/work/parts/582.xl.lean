/-! ===== the same for one group ===== -/
section XL
variable {Φ : Nat → Nat → List Int → Int} {wd : Nat → Nat} {ρ : Nat → Int}
theorem xl_one {t n b : Nat} {tb : List xk_E} {xs : List Nat} {l : List xk_V} {k1 k : Int} {x : Int} {want : Option xa_P} {f : Int → Int} (hP : kP Φ wd t n (xn 1 10) tb) (hwf : xk_wf wd (n + 1) tb = true) (hck : xc_ck tb (xc_b10 1 k1) (xc_o10 l k) xc_E10 xc_p want = true) (hn : 10 ≤ n) (hout : (xc_o10 l k).all (fun q => decide (n < q.1) && decide (q.1 - n - 1 < wd t)) = true)
    (hw : ∀ w ν, want = some w → xa_e ν w = f (xc_val ((xn 1 10).map ν) xc_E10)) (hf : ∀ a c, xl_cg a c → xl_cg (f a) (f c)) (he : xk_eok Φ wd ρ (b, 1000 + t, xs.map (fun g => (g, 0)))) (hx : xl_G ρ k1 xs x) (hpos : xs.all (fun g => decide (0 < g)) = true) : xl_G ρ k ((xc_o10 l k).map (fun q => b + (q.1 - n - 1))) (f x) := by
  have hL := xl_ovs (ρ := ρ) hpos
  have hlen : (xs.map ρ).length = 10 := by simp [hx.1]
  have gx : ∀ i g, xs[i]? = some g → xk_pos (xn 1 10) (xs.map ρ) (1 + i) = ρ g := fun i g hg => by
    have hi : i < xs.length := (List.getElem?_eq_some_iff.mp hg).1
    rw [xl_pos hlen (by rw [hx.1] at hi; omega), List.getD_eq_getElem?_getD, List.getElem?_map, hg]
    rfl
  obtain ⟨w, ν, h1, h2, h3, h4⟩ := xl_call hP hwf hck he (by
    rw [List.all_eq_true]
    intro q hq
    rw [decide_eq_true_eq]
    unfold xc_b10 at hq
    obtain ⟨i, hi, rfl⟩ := List.mem_map.mp hq
    have := List.mem_range.mp hi
    split <;> (dsimp only; omega)) hout (by
    rw [hL]
    exact fun q hq => xl_bnd hx gx q hq)
  rw [hL] at h2
  have v1 := xl_nu (k := 0) (j := 10) h2 hlen hn (by omega)
  have e1 : ((xs.map ρ).drop 0).take 10 = xs.map ρ := by
    rw [List.drop_zero, List.take_of_length_le (by omega)]
  rw [e1] at v1
  refine xl_out ?_ h4
  have h3 : xl_cg _ (xa_e ν w) := h3
  rw [hw w ν h1, v1] at h3
  exact h3.trans (hf _ _ hx.2.2)
end XL
theorem xl_w2 {w : xa_P} {ν : Nat → Int} (h : xa_mul (xa_lin (xn 1 10) xc_E10) (xa_lin (xn 11 10) xc_E10) = some w) : xa_e ν w = xc_val ((xn 1 10).map ν) xc_E10 * xc_val ((xn 11 10).map ν) xc_E10 := by
  rw [xa_mul_ok ν h, xa_lin_ok ν (by decide), xa_lin_ok ν (by decide)]
theorem xl_w1 {w : xa_P} {ν : Nat → Int} (h : xa_mul (xa_lin (xn 1 10) xc_E10) (xa_lin (xn 1 10) xc_E10) = some w) : xa_e ν w = xc_val ((xn 1 10).map ν) xc_E10 * xc_val ((xn 1 10).map ν) xc_E10 := by
  rw [xa_mul_ok ν h, xa_lin_ok ν (by decide)]
theorem xl_wl {w : xa_P} {ν : Nat → Int} {s : Int} (h : some (xa_add (xa_lin (xn 1 10) xc_E10) (xa_scl s (xa_lin (xn 11 10) xc_E10))) = some w) : xa_e ν w = xc_val ((xn 1 10).map ν) xc_E10 + s * xc_val ((xn 11 10).map ν) xc_E10 := by
  cases h
  rw [xa_add_ok, xa_scl_ok, xa_lin_ok ν (by decide), xa_lin_ok ν (by decide)]
theorem xl_ws {w : xa_P} {ν : Nat → Int} {s : Int} (h : some (xa_scl s (xa_lin (xn 1 10) xc_E10)) = some w) : xa_e ν w = s * xc_val ((xn 1 10).map ν) xc_E10 := by
  cases h
  rw [xa_scl_ok, xa_lin_ok ν (by decide)]
