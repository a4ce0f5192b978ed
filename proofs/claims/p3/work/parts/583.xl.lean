/-! ===== rules of the class's functions ===== -/
section XL
variable {Φ : Nat → Nat → List Int → Int} {ρ : Nat → Int}
theorem kl_mulD (H : kC_13 Φ) {b : Nat} {xs ys os : List Nat} {x y : Int} (he : xk_eok Φ kwe ρ (b, 1000 + 1, (xs ++ ys).map (fun g => (g, 0)))) (hos : (xc_o10 ((kc_mulD.2.2.2.1.getD 2 ((0, 0), [])).2) 34000000).map (fun q => b + (q.1 - 30 - 1)) = os) (hpos : (xs ++ ys).all (fun g => decide (0 < g)) = true) (hx : xl_G ρ 134217728 xs x) (hy : xl_G ρ 134217728 ys y) : xl_G ρ 34000000 os (x * y) := by
  subst hos
  have e : x * y = x * y := by rfl
  rw [e]
  exact xl_two (f := (fun x y => x * y)) (H.1.1.1.1.1.1.1.1.1.1.1.1.2) (by decide +kernel) xc_mulD (by decide) (by decide +kernel) (fun w ν h => xl_w2 h) (fun a b c d h1 h2 => h1.mul h2) he hx hy hpos
theorem kl_mulIX (H : kC_13 Φ) {b : Nat} {xs ys os : List Nat} {x y : Int} (he : xk_eok Φ kwe ρ (b, 1000 + 3, (xs ++ ys).map (fun g => (g, 0)))) (hos : (xc_o10 ((kc_mulIX.2.2.2.1.getD 0 ((0, 0), [])).2) 34000000).map (fun q => b + (q.1 - 20 - 1)) = os) (hpos : (xs ++ ys).all (fun g => decide (0 < g)) = true) (hx : xl_G ρ 134217728 xs x) (hy : xl_G ρ 134217728 ys y) : xl_G ρ 34000000 os (x * y) := by
  subst hos
  have e : x * y = x * y := by rfl
  rw [e]
  exact xl_two (f := (fun x y => x * y)) (H.1.1.1.1.1.1.1.1.1.1.2) (by decide +kernel) xc_mulIX (by decide) (by decide +kernel) (fun w ν h => xl_w2 h) (fun a b c d h1 h2 => h1.mul h2) he hx hy hpos
theorem kl_mulIY (H : kC_13 Φ) {b : Nat} {xs ys os : List Nat} {x y : Int} (he : xk_eok Φ kwe ρ (b, 1000 + 4, (xs ++ ys).map (fun g => (g, 0)))) (hos : (xc_o10 ((kc_mulIY.2.2.2.1.getD 1 ((0, 0), [])).2) 34000000).map (fun q => b + (q.1 - 20 - 1)) = os) (hpos : (xs ++ ys).all (fun g => decide (0 < g)) = true) (hx : xl_G ρ 134217728 xs x) (hy : xl_G ρ 134217728 ys y) : xl_G ρ 34000000 os (x * y) := by
  subst hos
  have e : x * y = x * y := by rfl
  rw [e]
  exact xl_two (f := (fun x y => x * y)) (H.1.1.1.1.1.1.1.1.1.2) (by decide +kernel) xc_mulIY (by decide) (by decide +kernel) (fun w ν h => xl_w2 h) (fun a b c d h1 h2 => h1.mul h2) he hx hy hpos
theorem kl_mulXX (H : kC_13 Φ) {b : Nat} {xs os : List Nat} {x : Int} (he : xk_eok Φ kwe ρ (b, 1000 + 2, xs.map (fun g => (g, 0)))) (hos : (xc_o10 ((kc_mulXX.2.2.2.1.getD 1 ((0, 0), [])).2) 34000000).map (fun q => b + (q.1 - 20 - 1)) = os) (hpos : xs.all (fun g => decide (0 < g)) = true) (hx : xl_G ρ 134217728 xs x) : xl_G ρ 34000000 os (x * x) := by
  subst hos
  exact xl_one (f := (fun x => x * x)) (H.1.1.1.1.1.1.1.1.1.1.1.2) (by decide +kernel) xc_mulXX (by decide) (by decide +kernel) (fun w ν h => xl_w1 h) (fun a c h1 => h1.mul h1) he hx hpos
theorem kl_mulA (H : kC_13 Φ) {b : Nat} {xs os : List Nat} {x : Int} (he : xk_eok Φ kwe ρ (b, 1000 + 5, xs.map (fun g => (g, 0)))) (hos : (xc_o10 ((kc_mulA.2.2.2.1.getD 0 ((0, 0), [])).2) 34000000).map (fun q => b + (q.1 - 10 - 1)) = os) (hpos : xs.all (fun g => decide (0 < g)) = true) (hx : xl_G ρ 134217728 xs x) : xl_G ρ 34000000 os (x * x) := by
  subst hos
  exact xl_one (f := (fun x => x * x)) (H.1.1.1.1.1.1.1.1.2) (by decide +kernel) xc_mulA (by decide) (by decide +kernel) (fun w ν h => xl_w1 h) (fun a c h1 => h1.mul h1) he hx hpos
theorem kl_scale (H : kC_13 Φ) {b : Nat} {xs os : List Nat} {x : Int} (he : xk_eok Φ kwe ρ (b, 1000 + 9, xs.map (fun g => (g, 0)))) (hos : (xc_o10 ((kc_scale.2.2.2.1.getD 1 ((0, 0), [])).2) 50000000).map (fun q => b + (q.1 - 20 - 1)) = os) (hpos : xs.all (fun g => decide (0 < g)) = true) (hx : xl_G ρ 134217728 xs x) : xl_G ρ 50000000 os (121665 * x) := by
  subst hos
  exact xl_one (f := (fun x => 121665 * x)) (H.1.1.1.1.2) (by decide +kernel) xc_scale (by decide) (by decide +kernel) (fun w ν h => xl_ws h) (fun a c h1 => (xl_cg.refl _).mul h1) he hx hpos
theorem kl_add26_c : xc_ck kc_addD_g (xc_b10 1 67108864 ++ xc_b10 11 67108864) (xc_o10 ((kc_addD.2.2.2.1.getD 2 ((0, 0), [])).2) 134217728) xc_E10 xc_p (some (xa_add (xa_lin (xn 1 10) xc_E10) (xa_scl (1) (xa_lin (xn 11 10) xc_E10)))) = true := by decide +kernel
theorem kl_add26 (H : kC_13 Φ) {b : Nat} {xs ys os : List Nat} {x y : Int} (he : xk_eok Φ kwe ρ (b, 1000 + 6, (xs ++ ys).map (fun g => (g, 0)))) (hos : (xc_o10 ((kc_addD.2.2.2.1.getD 2 ((0, 0), [])).2) 134217728).map (fun q => b + (q.1 - 30 - 1)) = os) (hpos : (xs ++ ys).all (fun g => decide (0 < g)) = true) (hx : xl_G ρ 67108864 xs x) (hy : xl_G ρ 67108864 ys y) : xl_G ρ 134217728 os (x + y) := by
  subst hos
  have e : x + y = x + 1 * y := by omega
  rw [e]
  exact xl_two (f := (fun x y => x + 1 * y)) (H.1.1.1.1.1.1.1.2) (by decide +kernel) kl_add26_c (by decide) (by decide +kernel) (fun w ν h => xl_wl h) (fun a b c d h1 h2 => h1.add ((xl_cg.refl _).mul h2)) he hx hy hpos
theorem kl_add34_c : xc_ck kc_addD_g (xc_b10 1 34000000 ++ xc_b10 11 34000000) (xc_o10 ((kc_addD.2.2.2.1.getD 2 ((0, 0), [])).2) 68000000) xc_E10 xc_p (some (xa_add (xa_lin (xn 1 10) xc_E10) (xa_scl (1) (xa_lin (xn 11 10) xc_E10)))) = true := by decide +kernel
theorem kl_add34 (H : kC_13 Φ) {b : Nat} {xs ys os : List Nat} {x y : Int} (he : xk_eok Φ kwe ρ (b, 1000 + 6, (xs ++ ys).map (fun g => (g, 0)))) (hos : (xc_o10 ((kc_addD.2.2.2.1.getD 2 ((0, 0), [])).2) 68000000).map (fun q => b + (q.1 - 30 - 1)) = os) (hpos : (xs ++ ys).all (fun g => decide (0 < g)) = true) (hx : xl_G ρ 34000000 xs x) (hy : xl_G ρ 34000000 ys y) : xl_G ρ 68000000 os (x + y) := by
  subst hos
  have e : x + y = x + 1 * y := by omega
  rw [e]
  exact xl_two (f := (fun x y => x + 1 * y)) (H.1.1.1.1.1.1.1.2) (by decide +kernel) kl_add34_c (by decide) (by decide +kernel) (fun w ν h => xl_wl h) (fun a b c d h1 h2 => h1.add ((xl_cg.refl _).mul h2)) he hx hy hpos
theorem kl_addq_c : xc_ck kc_addIY_g (xc_b10 1 34000000 ++ xc_b10 11 50000000) (xc_o10 ((kc_addIY.2.2.2.1.getD 1 ((0, 0), [])).2) 84000000) xc_E10 xc_p (some (xa_add (xa_lin (xn 1 10) xc_E10) (xa_scl (1) (xa_lin (xn 11 10) xc_E10)))) = true := by decide +kernel
theorem kl_addq (H : kC_13 Φ) {b : Nat} {xs ys os : List Nat} {x y : Int} (he : xk_eok Φ kwe ρ (b, 1000 + 7, (xs ++ ys).map (fun g => (g, 0)))) (hos : (xc_o10 ((kc_addIY.2.2.2.1.getD 1 ((0, 0), [])).2) 84000000).map (fun q => b + (q.1 - 20 - 1)) = os) (hpos : (xs ++ ys).all (fun g => decide (0 < g)) = true) (hx : xl_G ρ 34000000 xs x) (hy : xl_G ρ 50000000 ys y) : xl_G ρ 84000000 os (x + y) := by
  subst hos
  have e : x + y = x + 1 * y := by omega
  rw [e]
  exact xl_two (f := (fun x y => x + 1 * y)) (H.1.1.1.1.1.1.2) (by decide +kernel) kl_addq_c (by decide) (by decide +kernel) (fun w ν h => xl_wl h) (fun a b c d h1 h2 => h1.add ((xl_cg.refl _).mul h2)) he hx hy hpos
theorem kl_sub26_c : xc_ck kc_subD_g (xc_b10 1 67108864 ++ xc_b10 11 67108864) (xc_o10 ((kc_subD.2.2.2.1.getD 2 ((0, 0), [])).2) 134217728) xc_E10 xc_p (some (xa_add (xa_lin (xn 1 10) xc_E10) (xa_scl (-1) (xa_lin (xn 11 10) xc_E10)))) = true := by decide +kernel
theorem kl_sub26 (H : kC_13 Φ) {b : Nat} {xs ys os : List Nat} {x y : Int} (he : xk_eok Φ kwe ρ (b, 1000 + 8, (xs ++ ys).map (fun g => (g, 0)))) (hos : (xc_o10 ((kc_subD.2.2.2.1.getD 2 ((0, 0), [])).2) 134217728).map (fun q => b + (q.1 - 30 - 1)) = os) (hpos : (xs ++ ys).all (fun g => decide (0 < g)) = true) (hx : xl_G ρ 67108864 xs x) (hy : xl_G ρ 67108864 ys y) : xl_G ρ 134217728 os (x - y) := by
  subst hos
  have e : x - y = x + (-1) * y := by omega
  rw [e]
  exact xl_two (f := (fun x y => x + (-1) * y)) (H.1.1.1.1.1.2) (by decide +kernel) kl_sub26_c (by decide) (by decide +kernel) (fun w ν h => xl_wl h) (fun a b c d h1 h2 => h1.add ((xl_cg.refl _).mul h2)) he hx hy hpos
theorem kl_sub34_c : xc_ck kc_subD_g (xc_b10 1 34000000 ++ xc_b10 11 34000000) (xc_o10 ((kc_subD.2.2.2.1.getD 2 ((0, 0), [])).2) 68000000) xc_E10 xc_p (some (xa_add (xa_lin (xn 1 10) xc_E10) (xa_scl (-1) (xa_lin (xn 11 10) xc_E10)))) = true := by decide +kernel
theorem kl_sub34 (H : kC_13 Φ) {b : Nat} {xs ys os : List Nat} {x y : Int} (he : xk_eok Φ kwe ρ (b, 1000 + 8, (xs ++ ys).map (fun g => (g, 0)))) (hos : (xc_o10 ((kc_subD.2.2.2.1.getD 2 ((0, 0), [])).2) 68000000).map (fun q => b + (q.1 - 30 - 1)) = os) (hpos : (xs ++ ys).all (fun g => decide (0 < g)) = true) (hx : xl_G ρ 34000000 xs x) (hy : xl_G ρ 34000000 ys y) : xl_G ρ 68000000 os (x - y) := by
  subst hos
  have e : x - y = x + (-1) * y := by omega
  rw [e]
  exact xl_two (f := (fun x y => x + (-1) * y)) (H.1.1.1.1.1.2) (by decide +kernel) kl_sub34_c (by decide) (by decide +kernel) (fun w ν h => xl_wl h) (fun a b c d h1 h2 => h1.add ((xl_cg.refl _).mul h2)) he hx hy hpos
end XL
