/-! ===== rules of plus ===== -/
theorem xr_wl {A B : Nat} {w : xa_P} {ν : Nat → Int} {s : Int} (hA : 0 < A) (hB : 0 < B) (h : some (xa_add (xa_lin (xn A 16) xc_E16) (xa_scl s (xa_lin (xn B 16) xc_E16))) = some w) : xa_e ν w = xc_val ((xn A 16).map ν) xc_E16 + s * xc_val ((xn B 16).map ν) xc_E16 := by
  have hp : ∀ {C : Nat}, 0 < C → ∀ g ∈ xn C 16, 0 < g := fun {C} hC g hg => by
    unfold xn at hg
    obtain ⟨i, _, rfl⟩ := List.mem_map.mp hg
    omega
  rw [← Option.some.inj h, xa_add_ok, xa_scl_ok, xa_lin_ok ν (hp hA), xa_lin_ok ν (hp hB)]
theorem xr_wm {A B : Nat} {w : xa_P} {ν : Nat → Int} (hA : 0 < A) (hB : 0 < B) (h : xa_mul (xa_lin (xn A 16) xc_E16) (xa_lin (xn B 16) xc_E16) = some w) : xa_e ν w = xc_val ((xn A 16).map ν) xc_E16 * xc_val ((xn B 16).map ν) xc_E16 := by
  have hp : ∀ {C : Nat}, 0 < C → ∀ g ∈ xn C 16, 0 < g := fun {C} hC g hg => by
    unfold xn at hg
    obtain ⟨i, _, rfl⟩ := List.mem_map.mp hg
    omega
  rw [xa_mul_ok ν h, xa_lin_ok ν (hp hA), xa_lin_ok ν (hp hB)]
section XR
variable {Φ : Nat → Nat → List Int → Int} {ρ : Nat → Int}
theorem kr_plus10_0_1_1_r (H : kR_14 Φ) {b : Nat} {args : List xk_O} {xs ys os : List Nat} {x y : Int} (he : xk_eok Φ kwr ρ (b, 1000 + 14, args)) (hl : (xn 1 32).length = args.length) (px : (List.range 16).map (fun i => xk_ps (xn 1 32) args (1 + i)) = xs.map (fun g => ((g, 0) : xk_O))) (py : (List.range 16).map (fun i => xk_ps (xn 1 32) args (17 + i)) = ys.map (fun g => ((g, 0) : xk_O))) (hposx : xs.all (fun g => decide (0 < g)) = true) (hposy : ys.all (fun g => decide (0 < g)) = true) (hos : (xc_o16 ((kr_plus10_0_1_1.2.2.2.1.getD 1 ((0, 0), [])).2) 10).map (fun q => b + (q.1 - 256 - 1)) = os) (hx : xr_G ρ xs x) (hy : xr_G ρ ys y) : xr_G ρ os (x + (1) * y) := by
  subst hos
  exact xr_two (f := fun x y => x + (1) * y) H.2 (kr_cs_ok H.1) kr_plus10_0_1_1_t kr_plus10_0_1_1_f kr_plus10_0_1_1_c (fun q hq => List.mem_append.mp hq) (by decide +kernel) (by decide) (by decide) (by decide +kernel) (fun w ν h => xr_wl (by decide) (by decide) h) (fun a b c d h1 h2 => h1.add ((xl_cg.refl _).mul h2)) he hl px py hposx hposy hx hy
end XR
section XR
variable {Φ : Nat → Nat → List Int → Int} {ρ : Nat → Int}
theorem kr_plus12_0_1_m1_r (H : kR_15 Φ) {b : Nat} {args : List xk_O} {xs ys os : List Nat} {x y : Int} (he : xk_eok Φ kwr ρ (b, 1000 + 15, args)) (hl : (xn 1 32).length = args.length) (px : (List.range 16).map (fun i => xk_ps (xn 1 32) args (1 + i)) = xs.map (fun g => ((g, 0) : xk_O))) (py : (List.range 16).map (fun i => xk_ps (xn 1 32) args (17 + i)) = ys.map (fun g => ((g, 0) : xk_O))) (hposx : xs.all (fun g => decide (0 < g)) = true) (hposy : ys.all (fun g => decide (0 < g)) = true) (hos : (xc_o16 ((kr_plus12_0_1_m1.2.2.2.1.getD 1 ((0, 0), [])).2) 12).map (fun q => b + (q.1 - 256 - 1)) = os) (hx : xr_G ρ xs x) (hy : xr_G ρ ys y) : xr_G ρ os (x + (-1) * y) := by
  subst hos
  exact xr_two (f := fun x y => x + (-1) * y) H.2 (kr_cs_ok H.1.1) kr_plus12_0_1_m1_t kr_plus12_0_1_m1_f kr_plus12_0_1_m1_c (fun q hq => List.mem_append.mp hq) (by decide +kernel) (by decide) (by decide) (by decide +kernel) (fun w ν h => xr_wl (by decide) (by decide) h) (fun a b c d h1 h2 => h1.add ((xl_cg.refl _).mul h2)) he hl px py hposx hposy hx hy
end XR
section XR
variable {Φ : Nat → Nat → List Int → Int} {ρ : Nat → Int}
theorem kr_plus4_7_8_m1_r (H : kR_16 Φ) {b : Nat} {args : List xk_O} {xs ys os : List Nat} {x y : Int} (he : xk_eok Φ kwr ρ (b, 1000 + 16, args)) (hl : (xn 113 32).length = args.length) (px : (List.range 16).map (fun i => xk_ps (xn 113 32) args (113 + i)) = xs.map (fun g => ((g, 0) : xk_O))) (py : (List.range 16).map (fun i => xk_ps (xn 113 32) args (129 + i)) = ys.map (fun g => ((g, 0) : xk_O))) (hposx : xs.all (fun g => decide (0 < g)) = true) (hposy : ys.all (fun g => decide (0 < g)) = true) (hos : (xc_o16 ((kr_plus4_7_8_m1.2.2.2.1.getD 1 ((0, 0), [])).2) 4).map (fun q => b + (q.1 - 256 - 1)) = os) (hx : xr_G ρ xs x) (hy : xr_G ρ ys y) : xr_G ρ os (x + (-1) * y) := by
  subst hos
  exact xr_two (f := fun x y => x + (-1) * y) H.2 (kr_cs_ok H.1.1.1) kr_plus4_7_8_m1_t kr_plus4_7_8_m1_f kr_plus4_7_8_m1_c (fun q hq => List.mem_append.mp hq) (by decide +kernel) (by decide) (by decide) (by decide +kernel) (fun w ν h => xr_wl (by decide) (by decide) h) (fun a b c d h1 h2 => h1.add ((xl_cg.refl _).mul h2)) he hl px py hposx hposy hx hy
end XR
section XR
variable {Φ : Nat → Nat → List Int → Int} {ρ : Nat → Int}
theorem kr_plus13_2_3_m1_r (H : kR_17 Φ) {b : Nat} {args : List xk_O} {xs ys os : List Nat} {x y : Int} (he : xk_eok Φ kwr ρ (b, 1000 + 17, args)) (hl : (xn 33 32).length = args.length) (px : (List.range 16).map (fun i => xk_ps (xn 33 32) args (33 + i)) = xs.map (fun g => ((g, 0) : xk_O))) (py : (List.range 16).map (fun i => xk_ps (xn 33 32) args (49 + i)) = ys.map (fun g => ((g, 0) : xk_O))) (hposx : xs.all (fun g => decide (0 < g)) = true) (hposy : ys.all (fun g => decide (0 < g)) = true) (hos : (xc_o16 ((kr_plus13_2_3_m1.2.2.2.1.getD 1 ((0, 0), [])).2) 13).map (fun q => b + (q.1 - 256 - 1)) = os) (hx : xr_G ρ xs x) (hy : xr_G ρ ys y) : xr_G ρ os (x + (-1) * y) := by
  subst hos
  exact xr_two (f := fun x y => x + (-1) * y) H.2 (kr_cs_ok H.1.1.1.1) kr_plus13_2_3_m1_t kr_plus13_2_3_m1_f kr_plus13_2_3_m1_c (fun q hq => List.mem_append.mp hq) (by decide +kernel) (by decide) (by decide) (by decide +kernel) (fun w ν h => xr_wl (by decide) (by decide) h) (fun a b c d h1 h2 => h1.add ((xl_cg.refl _).mul h2)) he hl px py hposx hposy hx hy
end XR
section XR
variable {Φ : Nat → Nat → List Int → Int} {ρ : Nat → Int}
theorem kr_plus13_2_3_1_r (H : kR_18 Φ) {b : Nat} {args : List xk_O} {xs ys os : List Nat} {x y : Int} (he : xk_eok Φ kwr ρ (b, 1000 + 18, args)) (hl : (xn 33 32).length = args.length) (px : (List.range 16).map (fun i => xk_ps (xn 33 32) args (33 + i)) = xs.map (fun g => ((g, 0) : xk_O))) (py : (List.range 16).map (fun i => xk_ps (xn 33 32) args (49 + i)) = ys.map (fun g => ((g, 0) : xk_O))) (hposx : xs.all (fun g => decide (0 < g)) = true) (hposy : ys.all (fun g => decide (0 < g)) = true) (hos : (xc_o16 ((kr_plus13_2_3_1.2.2.2.1.getD 1 ((0, 0), [])).2) 13).map (fun q => b + (q.1 - 256 - 1)) = os) (hx : xr_G ρ xs x) (hy : xr_G ρ ys y) : xr_G ρ os (x + (1) * y) := by
  subst hos
  exact xr_two (f := fun x y => x + (1) * y) H.2 (kr_cs_ok H.1.1.1.1.1) kr_plus13_2_3_1_t kr_plus13_2_3_1_f kr_plus13_2_3_1_c (fun q hq => List.mem_append.mp hq) (by decide +kernel) (by decide) (by decide) (by decide +kernel) (fun w ν h => xr_wl (by decide) (by decide) h) (fun a b c d h1 h2 => h1.add ((xl_cg.refl _).mul h2)) he hl px py hposx hposy hx hy
end XR
section XR
variable {Φ : Nat → Nat → List Int → Int} {ρ : Nat → Int}
theorem kr_plus13_5_6_1_r (H : kR_19 Φ) {b : Nat} {args : List xk_O} {xs ys os : List Nat} {x y : Int} (he : xk_eok Φ kwr ρ (b, 1000 + 19, args)) (hl : (xn 81 32).length = args.length) (px : (List.range 16).map (fun i => xk_ps (xn 81 32) args (81 + i)) = xs.map (fun g => ((g, 0) : xk_O))) (py : (List.range 16).map (fun i => xk_ps (xn 81 32) args (97 + i)) = ys.map (fun g => ((g, 0) : xk_O))) (hposx : xs.all (fun g => decide (0 < g)) = true) (hposy : ys.all (fun g => decide (0 < g)) = true) (hos : (xc_o16 ((kr_plus13_5_6_1.2.2.2.1.getD 1 ((0, 0), [])).2) 13).map (fun q => b + (q.1 - 256 - 1)) = os) (hx : xr_G ρ xs x) (hy : xr_G ρ ys y) : xr_G ρ os (x + (1) * y) := by
  subst hos
  exact xr_two (f := fun x y => x + (1) * y) H.2 (kr_cs_ok H.1.1.1.1.1.1) kr_plus13_5_6_1_t kr_plus13_5_6_1_f kr_plus13_5_6_1_c (fun q hq => List.mem_append.mp hq) (by decide +kernel) (by decide) (by decide) (by decide +kernel) (fun w ν h => xr_wl (by decide) (by decide) h) (fun a b c d h1 h2 => h1.add ((xl_cg.refl _).mul h2)) he hl px py hposx hposy hx hy
end XR
section XR
variable {Φ : Nat → Nat → List Int → Int} {ρ : Nat → Int}
theorem kr_plus13_5_6_m1_r (H : kR_20 Φ) {b : Nat} {args : List xk_O} {xs ys os : List Nat} {x y : Int} (he : xk_eok Φ kwr ρ (b, 1000 + 20, args)) (hl : (xn 81 32).length = args.length) (px : (List.range 16).map (fun i => xk_ps (xn 81 32) args (81 + i)) = xs.map (fun g => ((g, 0) : xk_O))) (py : (List.range 16).map (fun i => xk_ps (xn 81 32) args (97 + i)) = ys.map (fun g => ((g, 0) : xk_O))) (hposx : xs.all (fun g => decide (0 < g)) = true) (hposy : ys.all (fun g => decide (0 < g)) = true) (hos : (xc_o16 ((kr_plus13_5_6_m1.2.2.2.1.getD 1 ((0, 0), [])).2) 13).map (fun q => b + (q.1 - 256 - 1)) = os) (hx : xr_G ρ xs x) (hy : xr_G ρ ys y) : xr_G ρ os (x + (-1) * y) := by
  subst hos
  exact xr_two (f := fun x y => x + (-1) * y) H.2 (kr_cs_ok H.1.1.1.1.1.1.1) kr_plus13_5_6_m1_t kr_plus13_5_6_m1_f kr_plus13_5_6_m1_c (fun q hq => List.mem_append.mp hq) (by decide +kernel) (by decide) (by decide) (by decide +kernel) (fun w ν h => xr_wl (by decide) (by decide) h) (fun a b c d h1 h2 => h1.add ((xl_cg.refl _).mul h2)) he hl px py hposx hposy hx hy
end XR
section XR
variable {Φ : Nat → Nat → List Int → Int} {ρ : Nat → Int}
theorem kr_plus13_7_4_121665_r (H : kR_21 Φ) {b : Nat} {args : List xk_O} {xs ys os : List Nat} {x y : Int} (he : xk_eok Φ kwr ρ (b, 1000 + 21, args)) (hl : (xn 65 16 ++ xn 113 16).length = args.length) (px : (List.range 16).map (fun i => xk_ps (xn 65 16 ++ xn 113 16) args (113 + i)) = xs.map (fun g => ((g, 0) : xk_O))) (py : (List.range 16).map (fun i => xk_ps (xn 65 16 ++ xn 113 16) args (65 + i)) = ys.map (fun g => ((g, 0) : xk_O))) (hposx : xs.all (fun g => decide (0 < g)) = true) (hposy : ys.all (fun g => decide (0 < g)) = true) (hos : (xc_o16 ((kr_plus13_7_4_121665.2.2.2.1.getD 1 ((0, 0), [])).2) 13).map (fun q => b + (q.1 - 256 - 1)) = os) (hx : xr_G ρ xs x) (hy : xr_G ρ ys y) : xr_G ρ os (x + (121665) * y) := by
  subst hos
  exact xr_two (f := fun x y => x + (121665) * y) H.2 (kr_cs_ok H.1.1.1.1.1.1.1.1) kr_plus13_7_4_121665_t kr_plus13_7_4_121665_f kr_plus13_7_4_121665_c (fun q hq => List.mem_append.mp hq) (by decide +kernel) (by decide) (by decide) (by decide +kernel) (fun w ν h => xr_wl (by decide) (by decide) h) (fun a b c d h1 h2 => h1.add ((xl_cg.refl _).mul h2)) he hl px py hposx hposy hx hy
end XR
