/-! ===== rules of times ===== -/
section XR
variable {Φ : Nat → Nat → List Int → Int} {ρ : Nat → Int}
theorem kr_tim7_10_10_r (H : kR_30 Φ) {b : Nat} {args : List xk_O} {xs ys os : List Nat} {x y : Int} (he : xk_eok Φ kwr ρ (b, 1000 + 30, args)) (hl : (xn 161 16).length = args.length) (px : (List.range 16).map (fun i => xk_ps (xn 161 16) args (161 + i)) = xs.map (fun g => ((g, 0) : xk_O))) (py : (List.range 16).map (fun i => xk_ps (xn 161 16) args (161 + i)) = ys.map (fun g => ((g, 0) : xk_O))) (hposx : xs.all (fun g => decide (0 < g)) = true) (hposy : ys.all (fun g => decide (0 < g)) = true) (hos : (xc_o16 ((kr_tim7_10_10.2.2.2.1.getD 1 ((0, 0), [])).2) 7).map (fun q => b + (q.1 - 287 - 1)) = os) (hx : xr_G ρ xs x) (hy : xr_G ρ ys y) : xr_G ρ os (x * y) := by
  subst hos
  exact xr_two (f := fun x y => x * y) H.2 (kr_cs_ok H.1.1.1.1.1.1.1.1.1.1.1.1.1.1.1.1.1) kr_tim7_10_10_t kr_tim7_10_10_f kr_tim7_10_10_c (fun q hq => Or.inl hq) (by decide +kernel) (by decide) (by decide) (by decide +kernel) (fun w ν h => xr_wm (by decide) (by decide) h) (fun a b c d h1 h2 => h1.mul h2) he hl px py hposx hposy hx hy
end XR
