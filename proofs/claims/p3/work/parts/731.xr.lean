/-! ===== rules of times ===== -/
section XR
variable {Φ : Nat → Nat → List Int → Int} {ρ : Nat → Int}
theorem kr_tim8_12_12_r (H : kR_31 Φ) {b : Nat} {args : List xk_O} {xs ys os : List Nat} {x y : Int} (he : xk_eok Φ kwr ρ (b, 1000 + 31, args)) (hl : (xn 193 16).length = args.length) (px : (List.range 16).map (fun i => xk_ps (xn 193 16) args (193 + i)) = xs.map (fun g => ((g, 0) : xk_O))) (py : (List.range 16).map (fun i => xk_ps (xn 193 16) args (193 + i)) = ys.map (fun g => ((g, 0) : xk_O))) (hposx : xs.all (fun g => decide (0 < g)) = true) (hposy : ys.all (fun g => decide (0 < g)) = true) (hos : (xc_o16 ((kr_tim8_12_12.2.2.2.1.getD 1 ((0, 0), [])).2) 8).map (fun q => b + (q.1 - 287 - 1)) = os) (hx : xr_G ρ xs x) (hy : xr_G ρ ys y) : xr_G ρ os (x * y) := by
  subst hos
  exact xr_two (f := fun x y => x * y) H.2 (kr_cs_ok H.1.1.1.1.1.1.1.1.1.1.1.1.1.1.1.1.1.1) kr_tim8_12_12_t kr_tim8_12_12_f kr_tim8_12_12_c (fun q hq => Or.inl hq) (by decide +kernel) (by decide) (by decide) (by decide +kernel) (fun w ν h => xr_wm (by decide) (by decide) h) (fun a b c d h1 h2 => h1.mul h2) he hl px py hposx hposy hx hy
end XR
section XR
variable {Φ : Nat → Nat → List Int → Int} {ρ : Nat → Int}
theorem kr_tim5_13_10_r (H : kR_32 Φ) {b : Nat} {args : List xk_O} {xs ys os : List Nat} {x y : Int} (he : xk_eok Φ kwr ρ (b, 1000 + 32, args)) (hl : (xn 161 16 ++ xn 209 16).length = args.length) (px : (List.range 16).map (fun i => xk_ps (xn 161 16 ++ xn 209 16) args (209 + i)) = xs.map (fun g => ((g, 0) : xk_O))) (py : (List.range 16).map (fun i => xk_ps (xn 161 16 ++ xn 209 16) args (161 + i)) = ys.map (fun g => ((g, 0) : xk_O))) (hposx : xs.all (fun g => decide (0 < g)) = true) (hposy : ys.all (fun g => decide (0 < g)) = true) (hos : (xc_o16 ((kr_tim5_13_10.2.2.2.1.getD 1 ((0, 0), [])).2) 5).map (fun q => b + (q.1 - 287 - 1)) = os) (hx : xr_G ρ xs x) (hy : xr_G ρ ys y) : xr_G ρ os (x * y) := by
  subst hos
  exact xr_two (f := fun x y => x * y) H.2 (kr_cs_ok H.1.1.1.1.1.1.1.1.1.1.1.1.1.1.1.1.1.1.1) kr_tim5_13_10_t kr_tim5_13_10_f kr_tim5_13_10_c (fun q hq => List.mem_append.mp hq) (by decide +kernel) (by decide) (by decide) (by decide +kernel) (fun w ν h => xr_wm (by decide) (by decide) h) (fun a b c d h1 h2 => h1.mul h2) he hl px py hposx hposy hx hy
end XR
section XR
variable {Φ : Nat → Nat → List Int → Int} {ρ : Nat → Int}
theorem kr_tim6_13_12_r (H : kR_33 Φ) {b : Nat} {args : List xk_O} {xs ys os : List Nat} {x y : Int} (he : xk_eok Φ kwr ρ (b, 1000 + 33, args)) (hl : (xn 193 32).length = args.length) (px : (List.range 16).map (fun i => xk_ps (xn 193 32) args (209 + i)) = xs.map (fun g => ((g, 0) : xk_O))) (py : (List.range 16).map (fun i => xk_ps (xn 193 32) args (193 + i)) = ys.map (fun g => ((g, 0) : xk_O))) (hposx : xs.all (fun g => decide (0 < g)) = true) (hposy : ys.all (fun g => decide (0 < g)) = true) (hos : (xc_o16 ((kr_tim6_13_12.2.2.2.1.getD 1 ((0, 0), [])).2) 6).map (fun q => b + (q.1 - 287 - 1)) = os) (hx : xr_G ρ xs x) (hy : xr_G ρ ys y) : xr_G ρ os (x * y) := by
  subst hos
  exact xr_two (f := fun x y => x * y) H.2 (kr_cs_ok H.1.1.1.1.1.1.1.1.1.1.1.1.1.1.1.1.1.1.1.1) kr_tim6_13_12_t kr_tim6_13_12_f kr_tim6_13_12_c (fun q hq => List.mem_append.mp hq) (by decide +kernel) (by decide) (by decide) (by decide +kernel) (fun w ν h => xr_wm (by decide) (by decide) h) (fun a b c d h1 h2 => h1.mul h2) he hl px py hposx hposy hx hy
end XR
section XR
variable {Φ : Nat → Nat → List Int → Int} {ρ : Nat → Int}
theorem kr_tim2_13_13_r (H : kR_34 Φ) {b : Nat} {args : List xk_O} {xs ys os : List Nat} {x y : Int} (he : xk_eok Φ kwr ρ (b, 1000 + 34, args)) (hl : (xn 209 16).length = args.length) (px : (List.range 16).map (fun i => xk_ps (xn 209 16) args (209 + i)) = xs.map (fun g => ((g, 0) : xk_O))) (py : (List.range 16).map (fun i => xk_ps (xn 209 16) args (209 + i)) = ys.map (fun g => ((g, 0) : xk_O))) (hposx : xs.all (fun g => decide (0 < g)) = true) (hposy : ys.all (fun g => decide (0 < g)) = true) (hos : (xc_o16 ((kr_tim2_13_13.2.2.2.1.getD 1 ((0, 0), [])).2) 2).map (fun q => b + (q.1 - 287 - 1)) = os) (hx : xr_G ρ xs x) (hy : xr_G ρ ys y) : xr_G ρ os (x * y) := by
  subst hos
  exact xr_two (f := fun x y => x * y) H.2 (kr_cs_ok H.1.1.1.1.1.1.1.1.1.1.1.1.1.1.1.1.1.1.1.1.1) kr_tim2_13_13_t kr_tim2_13_13_f kr_tim2_13_13_c (fun q hq => Or.inl hq) (by decide +kernel) (by decide) (by decide) (by decide +kernel) (fun w ν h => xr_wm (by decide) (by decide) h) (fun a b c d h1 h2 => h1.mul h2) he hl px py hposx hposy hx hy
end XR
section XR
variable {Φ : Nat → Nat → List Int → Int} {ρ : Nat → Int}
theorem kr_tim13_13_13_r (H : kR_35 Φ) {b : Nat} {args : List xk_O} {xs ys os : List Nat} {x y : Int} (he : xk_eok Φ kwr ρ (b, 1000 + 35, args)) (hl : (xn 209 16).length = args.length) (px : (List.range 16).map (fun i => xk_ps (xn 209 16) args (209 + i)) = xs.map (fun g => ((g, 0) : xk_O))) (py : (List.range 16).map (fun i => xk_ps (xn 209 16) args (209 + i)) = ys.map (fun g => ((g, 0) : xk_O))) (hposx : xs.all (fun g => decide (0 < g)) = true) (hposy : ys.all (fun g => decide (0 < g)) = true) (hos : (xc_o16 ((kr_tim13_13_13.2.2.2.1.getD 1 ((0, 0), [])).2) 13).map (fun q => b + (q.1 - 287 - 1)) = os) (hx : xr_G ρ xs x) (hy : xr_G ρ ys y) : xr_G ρ os (x * y) := by
  subst hos
  exact xr_two (f := fun x y => x * y) H.2 (kr_cs_ok H.1.1.1.1.1.1.1.1.1.1.1.1.1.1.1.1.1.1.1.1.1.1) kr_tim13_13_13_t kr_tim13_13_13_f kr_tim13_13_13_c (fun q hq => Or.inl hq) (by decide +kernel) (by decide) (by decide) (by decide +kernel) (fun w ν h => xr_wm (by decide) (by decide) h) (fun a b c d h1 h2 => h1.mul h2) he hl px py hposx hposy hx hy
end XR
section XR
variable {Φ : Nat → Nat → List Int → Int} {ρ : Nat → Int}
theorem kr_tim3_9_13_r (H : kR_36 Φ) {b : Nat} {args : List xk_O} {xs ys os : List Nat} {x y : Int} (he : xk_eok Φ kwr ρ (b, 1000 + 36, args)) (hl : (xn 145 16 ++ xn 209 16).length = args.length) (px : (List.range 16).map (fun i => xk_ps (xn 145 16 ++ xn 209 16) args (145 + i)) = xs.map (fun g => ((g, 0) : xk_O))) (py : (List.range 16).map (fun i => xk_ps (xn 145 16 ++ xn 209 16) args (209 + i)) = ys.map (fun g => ((g, 0) : xk_O))) (hposx : xs.all (fun g => decide (0 < g)) = true) (hposy : ys.all (fun g => decide (0 < g)) = true) (hos : (xc_o16 ((kr_tim3_9_13.2.2.2.1.getD 1 ((0, 0), [])).2) 3).map (fun q => b + (q.1 - 287 - 1)) = os) (hx : xr_G ρ xs x) (hy : xr_G ρ ys y) : xr_G ρ os (x * y) := by
  subst hos
  exact xr_two (f := fun x y => x * y) H.2 (kr_cs_ok H.1.1.1.1.1.1.1.1.1.1.1.1.1.1.1.1.1.1.1.1.1.1.1) kr_tim3_9_13_t kr_tim3_9_13_f kr_tim3_9_13_c (fun q hq => List.mem_append.mp hq) (by decide +kernel) (by decide) (by decide) (by decide +kernel) (fun w ν h => xr_wm (by decide) (by decide) h) (fun a b c d h1 h2 => h1.mul h2) he hl px py hposx hposy hx hy
end XR
section XR
variable {Φ : Nat → Nat → List Int → Int} {ρ : Nat → Int}
theorem kr_tim0_7_8_r (H : kR_37 Φ) {b : Nat} {args : List xk_O} {xs ys os : List Nat} {x y : Int} (he : xk_eok Φ kwr ρ (b, 1000 + 37, args)) (hl : (xn 113 32).length = args.length) (px : (List.range 16).map (fun i => xk_ps (xn 113 32) args (113 + i)) = xs.map (fun g => ((g, 0) : xk_O))) (py : (List.range 16).map (fun i => xk_ps (xn 113 32) args (129 + i)) = ys.map (fun g => ((g, 0) : xk_O))) (hposx : xs.all (fun g => decide (0 < g)) = true) (hposy : ys.all (fun g => decide (0 < g)) = true) (hos : (xc_o16 ((kr_tim0_7_8.2.2.2.1.getD 1 ((0, 0), [])).2) 0).map (fun q => b + (q.1 - 287 - 1)) = os) (hx : xr_G ρ xs x) (hy : xr_G ρ ys y) : xr_G ρ os (x * y) := by
  subst hos
  exact xr_two (f := fun x y => x * y) H.2 (kr_cs_ok H.1.1.1.1.1.1.1.1.1.1.1.1.1.1.1.1.1.1.1.1.1.1.1.1) kr_tim0_7_8_t kr_tim0_7_8_f kr_tim0_7_8_c (fun q hq => List.mem_append.mp hq) (by decide +kernel) (by decide) (by decide) (by decide +kernel) (fun w ν h => xr_wm (by decide) (by decide) h) (fun a b c d h1 h2 => h1.mul h2) he hl px py hposx hposy hx hy
end XR
section XR
variable {Φ : Nat → Nat → List Int → Int} {ρ : Nat → Int}
theorem kr_tim1_4_13_r (H : kR_38 Φ) {b : Nat} {args : List xk_O} {xs ys os : List Nat} {x y : Int} (he : xk_eok Φ kwr ρ (b, 1000 + 38, args)) (hl : (xn 65 16 ++ xn 209 16).length = args.length) (px : (List.range 16).map (fun i => xk_ps (xn 65 16 ++ xn 209 16) args (65 + i)) = xs.map (fun g => ((g, 0) : xk_O))) (py : (List.range 16).map (fun i => xk_ps (xn 65 16 ++ xn 209 16) args (209 + i)) = ys.map (fun g => ((g, 0) : xk_O))) (hposx : xs.all (fun g => decide (0 < g)) = true) (hposy : ys.all (fun g => decide (0 < g)) = true) (hos : (xc_o16 ((kr_tim1_4_13.2.2.2.1.getD 1 ((0, 0), [])).2) 1).map (fun q => b + (q.1 - 287 - 1)) = os) (hx : xr_G ρ xs x) (hy : xr_G ρ ys y) : xr_G ρ os (x * y) := by
  subst hos
  exact xr_two (f := fun x y => x * y) H.2 (kr_cs_ok H.1.1.1.1.1.1.1.1.1.1.1.1.1.1.1.1.1.1.1.1.1.1.1.1.1) kr_tim1_4_13_t kr_tim1_4_13_f kr_tim1_4_13_c (fun q hq => List.mem_append.mp hq) (by decide +kernel) (by decide) (by decide) (by decide +kernel) (fun w ν h => xr_wm (by decide) (by decide) h) (fun a b c d h1 h2 => h1.mul h2) he hl px py hposx hposy hx hy
end XR
section XR
variable {Φ : Nat → Nat → List Int → Int} {ρ : Nat → Int}
theorem kr_tim11_11_11_r (H : kR_39 Φ) {b : Nat} {args : List xk_O} {xs ys os : List Nat} {x y : Int} (he : xk_eok Φ kwr ρ (b, 1000 + 39, args)) (hl : (xn 177 16).length = args.length) (px : (List.range 16).map (fun i => xk_ps (xn 177 16) args (177 + i)) = xs.map (fun g => ((g, 0) : xk_O))) (py : (List.range 16).map (fun i => xk_ps (xn 177 16) args (177 + i)) = ys.map (fun g => ((g, 0) : xk_O))) (hposx : xs.all (fun g => decide (0 < g)) = true) (hposy : ys.all (fun g => decide (0 < g)) = true) (hos : (xc_o16 ((kr_tim11_11_11.2.2.2.1.getD 1 ((0, 0), [])).2) 11).map (fun q => b + (q.1 - 287 - 1)) = os) (hx : xr_G ρ xs x) (hy : xr_G ρ ys y) : xr_G ρ os (x * y) := by
  subst hos
  exact xr_two (f := fun x y => x * y) H.2 (kr_cs_ok H.1.1.1.1.1.1.1.1.1.1.1.1.1.1.1.1.1.1.1.1.1.1.1.1.1.1) kr_tim11_11_11_t kr_tim11_11_11_f kr_tim11_11_11_c (fun q hq => Or.inl hq) (by decide +kernel) (by decide) (by decide) (by decide +kernel) (fun w ν h => xr_wm (by decide) (by decide) h) (fun a b c d h1 h2 => h1.mul h2) he hl px py hposx hposy hx hy
end XR
section XR
variable {Φ : Nat → Nat → List Int → Int} {ρ : Nat → Int}
theorem kr_tim11_11_1_r (H : kR_40 Φ) {b : Nat} {args : List xk_O} {xs ys os : List Nat} {x y : Int} (he : xk_eok Φ kwr ρ (b, 1000 + 40, args)) (hl : (xn 17 16 ++ xn 177 16).length = args.length) (px : (List.range 16).map (fun i => xk_ps (xn 17 16 ++ xn 177 16) args (177 + i)) = xs.map (fun g => ((g, 0) : xk_O))) (py : (List.range 16).map (fun i => xk_ps (xn 17 16 ++ xn 177 16) args (17 + i)) = ys.map (fun g => ((g, 0) : xk_O))) (hposx : xs.all (fun g => decide (0 < g)) = true) (hposy : ys.all (fun g => decide (0 < g)) = true) (hos : (xc_o16 ((kr_tim11_11_1.2.2.2.1.getD 1 ((0, 0), [])).2) 11).map (fun q => b + (q.1 - 287 - 1)) = os) (hx : xr_G ρ xs x) (hy : xr_G ρ ys y) : xr_G ρ os (x * y) := by
  subst hos
  exact xr_two (f := fun x y => x * y) H.2 (kr_cs_ok H.1.1.1.1.1.1.1.1.1.1.1.1.1.1.1.1.1.1.1.1.1.1.1.1.1.1.1) kr_tim11_11_1_t kr_tim11_11_1_f kr_tim11_11_1_c (fun q hq => List.mem_append.mp hq) (by decide +kernel) (by decide) (by decide) (by decide +kernel) (fun w ν h => xr_wm (by decide) (by decide) h) (fun a b c d h1 h2 => h1.mul h2) he hl px py hposx hposy hx hy
end XR
section XR
variable {Φ : Nat → Nat → List Int → Int} {ρ : Nat → Int}
theorem kr_tim0_0_11_r (H : kR_41 Φ) {b : Nat} {args : List xk_O} {xs ys os : List Nat} {x y : Int} (he : xk_eok Φ kwr ρ (b, 1000 + 41, args)) (hl : (xn 1 16 ++ xn 177 16).length = args.length) (px : (List.range 16).map (fun i => xk_ps (xn 1 16 ++ xn 177 16) args (1 + i)) = xs.map (fun g => ((g, 0) : xk_O))) (py : (List.range 16).map (fun i => xk_ps (xn 1 16 ++ xn 177 16) args (177 + i)) = ys.map (fun g => ((g, 0) : xk_O))) (hposx : xs.all (fun g => decide (0 < g)) = true) (hposy : ys.all (fun g => decide (0 < g)) = true) (hos : (xc_o16 ((kr_tim0_0_11.2.2.2.1.getD 1 ((0, 0), [])).2) 0).map (fun q => b + (q.1 - 287 - 1)) = os) (hx : xr_G ρ xs x) (hy : xr_G ρ ys y) : xr_G ρ os (x * y) := by
  subst hos
  exact xr_two (f := fun x y => x * y) H.2 (kr_cs_ok H.1.1.1.1.1.1.1.1.1.1.1.1.1.1.1.1.1.1.1.1.1.1.1.1.1.1.1.1) kr_tim0_0_11_t kr_tim0_0_11_f kr_tim0_0_11_c (fun q hq => List.mem_append.mp hq) (by decide +kernel) (by decide) (by decide) (by decide +kernel) (fun w ν h => xr_wm (by decide) (by decide) h) (fun a b c d h1 h2 => h1.mul h2) he hl px py hposx hposy hx hy
end XR
