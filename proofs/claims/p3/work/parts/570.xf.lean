/-! ===== the field: what a function's table is worth, its calls in their places ===== -/
theorem xc_fn {Φ : Nat → Nat → List Int → Int} {wd : Nat → Nat} {t n : Nat} {ag : List Nat} {tb : List xk_E} {fs : List (Nat × xk_G)} {ins outs : List (Nat × Int × Int)} {es : List Nat} {m : Int} {want : Option xa_P} (hP : kP Φ wd t n ag tb) (hf : ∀ q ∈ fs, xs_fok wd q = true ∧ ∀ r inp, Φ q.1 r inp = xk_fn Φ wd q.2.2.2 q.2.1 q.2.2.1 r inp) (ht : tb.all (xs_tok fs) = true) (hwf : xk_wf wd (n + 1) (xs_flat fs tb) = true) (hin : ins.all (fun q => decide (q.1 ≤ n)) = true) (hck : xc_ck (xs_flat fs tb) ins outs es m want = true) (inp : List Int) (hb : ∀ q ∈ ins, q.2.1 ≤ xk_pos ag inp q.1 ∧ xk_pos ag inp q.1 ≤ q.2.2) :
    ∃ (w : xa_P) (ν : Nat → Int), want = some w ∧ (∀ g, g ≤ n → ν g = xk_pos ag inp g) ∧ (∀ r, ν (n + 1 + r) = Φ t r inp) ∧ m ∣ xc_val ((outs.map Prod.fst).map ν) es - xa_e ν w ∧ ∀ q ∈ outs, q.2.1 ≤ ν q.1 ∧ ν q.1 ≤ q.2.2 := by
  obtain ⟨i1, i2⟩ := xk_val_ok (Φ := Φ) (ρ := fun g => xk_pos ag inp g) hwf
  have hlow : ∀ g, g ≤ n → xk_val Φ wd (xs_flat fs tb) (fun g => xk_pos ag inp g) g = xk_pos ag inp g := fun g hg => i1 g (by omega)
  obtain ⟨w, h1, h2, h3⟩ := xc_ck_ok hck i2 (fun q hq => by
    rw [hlow q.1 (of_decide_eq_true (List.all_eq_true.mp hin q hq))]
    exact hb q hq)
  refine ⟨w, _, h1, hlow, fun r => ?_, h2, h3⟩
  rw [hP r inp, xs_flat_ok hf ht]
  rfl
/-- a number of the field: sixteen places from node n on -/
def xc_b16 (n : Nat) : List (Nat × Int × Int) := (n, -100, 65700) :: (List.range 15).map (fun i => (n + 1 + i, 0, 65535))
def xc_o16 (l : List xk_V) (f : Nat) : List (Nat × Int × Int) := (List.range 16).map (fun i => ((l.getD (16 * f + i) (0, 0, 0)).2.1, if i = 0 then -38 else 0, if i = 0 then 65573 else 65535))
def kr_cs : List (Nat × xk_G) := [(1, (256, xn 1 16, kr_carry0_g)), (2, (256, xn 17 16, kr_carry1_g)), (3, (256, xn 33 16, kr_carry2_g)), (4, (256, xn 49 16, kr_carry3_g)), (5, (256, xn 65 16, kr_carry4_g)), (6, (256, xn 81 16, kr_carry5_g)), (7, (256, xn 97 16, kr_carry6_g)), (8, (256, xn 113 16, kr_carry7_g)), (9, (256, xn 129 16, kr_carry8_g)), (10, (256, xn 161 16, kr_carry10_g)), (11, (256, xn 177 16, kr_carry11_g)), (12, (256, xn 193 16, kr_carry12_g)), (13, (256, xn 209 16, kr_carry13_g))]
theorem kr_cs_ok {Φ : Nat → Nat → List Int → Int} (H : kR_13 Φ) : ∀ q ∈ kr_cs, xs_fok kwr q = true ∧ ∀ r inp, Φ q.1 r inp = xk_fn Φ kwr q.2.2.2 q.2.1 q.2.2.1 r inp := by
  intro q hq
  have hf : kr_cs.all (xs_fok kwr) = true := by decide +kernel
  refine ⟨List.all_eq_true.mp hf q hq, ?_⟩
  unfold kr_cs at hq
  simp only [List.mem_cons, List.not_mem_nil, or_false] at hq
  rcases hq with rfl | rfl | rfl | rfl | rfl | rfl | rfl | rfl | rfl | rfl | rfl | rfl | rfl
  · exact (H.1.1.1.1.1.1.1.1.1.1.1.1.2)
  · exact (H.1.1.1.1.1.1.1.1.1.1.1.2)
  · exact (H.1.1.1.1.1.1.1.1.1.1.2)
  · exact (H.1.1.1.1.1.1.1.1.1.2)
  · exact (H.1.1.1.1.1.1.1.1.2)
  · exact (H.1.1.1.1.1.1.1.2)
  · exact (H.1.1.1.1.1.1.2)
  · exact (H.1.1.1.1.1.2)
  · exact (H.1.1.1.1.2)
  · exact (H.1.1.1.2)
  · exact (H.1.1.2)
  · exact (H.1.2)
  · exact (H.2)
