/-! ===== calls of the reference's field functions: groups of sixteen places ===== -/
def xr_G (ρ : Nat → Int) (ns : List Nat) (x : Int) : Prop := ns.length = 16 ∧ (∀ (i g : Nat), ns[i]? = some g → (i = 0 → -100 ≤ ρ g ∧ ρ g ≤ 65700) ∧ (i ≠ 0 → 0 ≤ ρ g ∧ ρ g ≤ 65535)) ∧ xl_cg (xc_val (ns.map ρ) xc_E16) x
section XR
variable {Φ : Nat → Nat → List Int → Int} {wd : Nat → Nat} {ρ : Nat → Int}
theorem xr_call {t n b : Nat} {ag : List Nat} {tb : List xk_E} {fs : List (Nat × xk_G)} {args : List xk_O} {ins outs : List (Nat × Int × Int)} {es : List Nat} {m : Int} {want : Option xa_P} (hP : kP Φ wd t n ag tb) (hf : ∀ q ∈ fs, xs_fok wd q = true ∧ ∀ r inp, Φ q.1 r inp = xk_fn Φ wd q.2.2.2 q.2.1 q.2.2.1 r inp) (ht : tb.all (xs_tok fs) = true) (hwf : xk_wf wd (n + 1) (xs_flat fs tb) = true) (hck : xc_ck (xs_flat fs tb) ins outs es m want = true) (he : xk_eok Φ wd ρ (b, 1000 + t, args)) (hin : ins.all (fun q => decide (q.1 ≤ n)) = true) (hout : outs.all (fun q => decide (n < q.1) && decide (q.1 - n - 1 < wd t)) = true) (hb : ∀ q ∈ ins, q.2.1 ≤ xk_pos ag (args.map (xk_ov ρ)) q.1 ∧ xk_pos ag (args.map (xk_ov ρ)) q.1 ≤ q.2.2) :
    ∃ (w : xa_P) (ν : Nat → Int), want = some w ∧ (∀ g, g ≤ n → ν g = xk_pos ag (args.map (xk_ov ρ)) g) ∧ m ∣ xc_val ((outs.map (fun q => b + (q.1 - n - 1))).map ρ) es - xa_e ν w ∧ ∀ q ∈ outs, q.2.1 ≤ ρ (b + (q.1 - n - 1)) ∧ ρ (b + (q.1 - n - 1)) ≤ q.2.2 := by
  obtain ⟨w, ν, h1, h2, h3, h4, h5⟩ := xc_fn hP hf ht hwf hin hck (args.map (xk_ov ρ)) hb
  have ho : ∀ q ∈ outs, ν q.1 = ρ (b + (q.1 - n - 1)) := fun q hq => by
    have hq' := List.all_eq_true.mp hout q hq
    simp only [Bool.and_eq_true, decide_eq_true_eq] at hq'
    unfold xk_eok at he
    dsimp only at he
    rw [if_neg (by omega), Nat.add_sub_cancel_left] at he
    rw [he _ hq'.2, ← h3, show n + 1 + (q.1 - n - 1) = q.1 by omega]
  refine ⟨w, ν, h1, h2, ?_, fun q hq => ?_⟩
  · have e : (outs.map Prod.fst).map ν = (outs.map (fun q => b + (q.1 - n - 1))).map ρ := by
      rw [List.map_map, List.map_map]
      exact List.map_congr_left fun q hq => ho q hq
    rw [← e]
    exact h4
  · have := h5 q hq
    rw [ho q hq] at this
    exact this
theorem xr_in {A : Nat} {ag : List Nat} {args : List xk_O} {xs : List Nat} (hl : ag.length = args.length) (h : (List.range 16).map (fun i => xk_ps ag args (A + i)) = xs.map (fun g => ((g, 0) : xk_O))) (hpos : xs.all (fun g => decide (0 < g)) = true) : (xn A 16).map (fun g => xk_pos ag (args.map (xk_ov ρ)) g) = xs.map ρ := by
  rw [← xl_ovs (ρ := ρ) hpos, ← h]
  unfold xn
  rw [List.map_map, List.map_map]
  exact List.map_congr_left fun i _ => (xk_ps_all hl).symm
theorem xr_bnd {A : Nat} {xs : List Nat} {x : Int} {f : Nat → Int} (hx : xr_G ρ xs x) (hf : (xn A 16).map f = xs.map ρ) : ∀ q ∈ xc_b16 A, q.2.1 ≤ f q.1 ∧ f q.1 ≤ q.2.2 := by
  have hv : ∀ i, i < 16 → ∃ g, xs[i]? = some g ∧ f (A + i) = ρ g := fun i hi => by
    have hil : i < xs.length := by rw [hx.1]; exact hi
    refine ⟨xs[i], List.getElem?_eq_getElem hil, ?_⟩
    have h := congrArg (fun l : List Int => l[i]?) hf
    unfold xn at h
    rw [List.getElem?_map, List.getElem?_map, List.getElem?_range hi, List.getElem?_map, List.getElem?_eq_getElem hil] at h
    exact Option.some.inj h
  intro q hq
  unfold xc_b16 at hq
  rcases List.mem_cons.mp hq with rfl | hq
  · obtain ⟨g, h1, h2⟩ := hv 0 (by omega)
    have h3 := (hx.2.1 0 g h1).1 rfl
    have h2 : f A = ρ g := h2
    dsimp only
    rw [h2]
    exact h3
  · obtain ⟨i, hi, rfl⟩ := List.mem_map.mp hq
    have hi := List.mem_range.mp hi
    obtain ⟨g, h1, h2⟩ := hv (1 + i) (by omega)
    have h3 := (hx.2.1 (1 + i) g h1).2 (by omega)
    dsimp only
    rw [show A + 1 + i = A + (1 + i) by omega, h2]
    exact h3
theorem xr_out {n b to : Nat} {l : List xk_V} {z : Int} (hc : xl_cg (xc_val (((xc_o16 l to).map (fun q => b + (q.1 - n - 1))).map ρ) xc_E16) z) (hb : ∀ q ∈ xc_o16 l to, q.2.1 ≤ ρ (b + (q.1 - n - 1)) ∧ ρ (b + (q.1 - n - 1)) ≤ q.2.2) : xr_G ρ ((xc_o16 l to).map (fun q => b + (q.1 - n - 1))) z := by
  refine ⟨by unfold xc_o16; simp, fun i g hg => ?_, hc⟩
  rw [List.getElem?_map] at hg
  cases hq : (xc_o16 l to)[i]? with
  | none => rw [hq] at hg; cases hg
  | some q =>
    rw [hq] at hg
    cases hg
    have hm := hb q (List.mem_of_getElem? hq)
    unfold xc_o16 at hq
    have hi : i < 16 := by
      have := (List.getElem?_eq_some_iff.mp hq).1
      simpa using this
    rw [List.getElem?_map, List.getElem?_range hi] at hq
    have hq : some ((l.getD (16 * to + i) (0, 0, 0)).2.1, (if i = 0 then (-38 : Int) else 0), (if i = 0 then (65573 : Int) else 65535)) = some q := hq
    have hq := Option.some.inj hq
    subst hq
    refine ⟨fun h => ?_, fun h => ?_⟩
    · dsimp only at hm
      rw [if_pos h, if_pos h] at hm
      dsimp only
      omega
    · dsimp only at hm
      rw [if_neg h, if_neg h] at hm
      exact hm
theorem xr_two {t n b A B to : Nat} {ag : List Nat} {tb : List xk_E} {fs : List (Nat × xk_G)} {args : List xk_O} {xs ys : List Nat} {l : List xk_V} {x y : Int} {ins : List (Nat × Int × Int)} {want : Option xa_P} {f : Int → Int → Int} (hP : kP Φ wd t n ag tb) (hfs : ∀ q ∈ fs, xs_fok wd q = true ∧ ∀ r inp, Φ q.1 r inp = xk_fn Φ wd q.2.2.2 q.2.1 q.2.2.1 r inp) (ht : tb.all (xs_tok fs) = true) (hwf : xk_wf wd (n + 1) (xs_flat fs tb) = true) (hck : xc_ck (xs_flat fs tb) ins (xc_o16 l to) xc_E16 xc_p want = true) (hins : ∀ q ∈ ins, q ∈ xc_b16 A ∨ q ∈ xc_b16 B) (hin : ins.all (fun q => decide (q.1 ≤ n)) = true) (hA : A + 15 ≤ n) (hB : B + 15 ≤ n) (hout : (xc_o16 l to).all (fun q => decide (n < q.1) && decide (q.1 - n - 1 < wd t)) = true)
    (hw : ∀ w ν, want = some w → xa_e ν w = f (xc_val ((xn A 16).map ν) xc_E16) (xc_val ((xn B 16).map ν) xc_E16)) (hf : ∀ a b c d, xl_cg a c → xl_cg b d → xl_cg (f a b) (f c d)) (he : xk_eok Φ wd ρ (b, 1000 + t, args)) (hl : ag.length = args.length) (px : (List.range 16).map (fun i => xk_ps ag args (A + i)) = xs.map (fun g => ((g, 0) : xk_O))) (py : (List.range 16).map (fun i => xk_ps ag args (B + i)) = ys.map (fun g => ((g, 0) : xk_O))) (hposx : xs.all (fun g => decide (0 < g)) = true) (hposy : ys.all (fun g => decide (0 < g)) = true) (hx : xr_G ρ xs x) (hy : xr_G ρ ys y) : xr_G ρ ((xc_o16 l to).map (fun q => b + (q.1 - n - 1))) (f x y) := by
  have ex := xr_in (ρ := ρ) hl px hposx
  have ey := xr_in (ρ := ρ) hl py hposy
  obtain ⟨w, ν, h1, h2, h3, h4⟩ := xr_call hP hfs ht hwf hck he hin hout (fun q hq => by
    rcases hins q hq with h | h
    · exact xr_bnd hx ex q h
    · exact xr_bnd hy ey q h)
  have hm : ∀ {C : Nat}, C + 15 ≤ n → (xn C 16).map ν = (xn C 16).map (fun g => xk_pos ag (args.map (xk_ov ρ)) g) := fun {C} hC => List.map_congr_left fun g hg => by
    unfold xn at hg
    obtain ⟨i, hi, rfl⟩ := List.mem_map.mp hg
    have := List.mem_range.mp hi
    exact h2 _ (by omega)
  refine xr_out ?_ h4
  have h3 : xl_cg _ (xa_e ν w) := h3
  rw [hw w ν h1, hm hA, hm hB, ex, ey] at h3
  exact h3.trans (hf _ _ _ _ hx.2.2 hy.2.2)
end XR
