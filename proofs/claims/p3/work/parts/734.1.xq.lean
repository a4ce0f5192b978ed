section XP
variable {Φ : Nat → Nat → List Int → Int}
/-- carrying once: what goes over is the whole quotient -/
theorem kp_car (H : kR_1 Φ) {f : Nat → Int} (hf : -100 ≤ f 0 ∧ f 0 ≤ 65700) (hk : ∀ k, 0 < k → k < 16 → 0 ≤ f k ∧ f k ≤ 65535) : ∃ (g : Nat → Int) (q : Int), kp_oc.map (fun r => Φ 1 r ((xn 0 16).map f)) = (xn 0 16).map g ∧ 38 * q ≤ g 0 ∧ g 0 ≤ 65535 + 38 * q ∧ (∀ k, 0 < k → k < 16 → 0 ≤ g k ∧ g k ≤ 65535) ∧ kp_sm g 16 = kp_sm f 16 + (38 - ((2 ^ 256 : Nat) : Int)) * q := by
  obtain ⟨t1, t2⟩ := xk_tv_ok (Φ := Φ) (wd := kwr) (n := 256) (ag := xn 1 16) (tb := kr_carry0_g) (by decide +kernel) ((xn 0 16).map f)
  generalize hν : xk_tv Φ kwr kr_carry0_g (xn 1 16) ((xn 0 16).map f) = ν at t1 t2
  have hΦ : (fun r => Φ 1 r ((xn 0 16).map f)) = fun r => ν (257 + r) := by
    funext r
    rw [H.2, ← hν]
    rfl
  have hin : ∀ i, i < 16 → ν (1 + i) = f i := fun i hi => by
    rw [t1 _ (by omega), xl_posA (N := 16) rfl hi, List.getD_eq_getElem?_getD]
    unfold xn
    rw [List.getElem?_map, List.getElem?_map, List.getElem?_range hi]
    show f (0 + i) = f i
    rw [Nat.zero_add]
  have hbd : ∀ q ∈ kp_ci, q.2.1 ≤ ν q.1 ∧ ν q.1 ≤ q.2.2 := fun q hq => by
    unfold kp_ci xc_b16 at hq
    rcases List.mem_cons.mp hq with rfl | hq
    · have := hin 0 (by omega)
      dsimp only
      rw [this]
      exact hf
    · obtain ⟨i, hi, rfl⟩ := List.mem_map.mp hq
      have hi := List.mem_range.mp hi
      dsimp only
      rw [show 1 + 1 + i = 1 + (1 + i) by omega, hin (1 + i) (by omega)]
      exact hk (1 + i) (by omega) (by omega)
  obtain ⟨w, w1, w2, w3⟩ := xc_ck_ok kp_cck t2 hbd
  have hx := xc_ok_ex kp_cok t2 hbd
  have w1 := Option.some.inj w1
  subst w1
  have w2 := xc_zero w2
  rw [xa_add_ok, xa_lin_ok ν (xn_pos (by decide))] at w2
  have e1 : xc_val ((xn 1 16).map ν) xc_E16 = kp_sm f 16 := by
    rw [kp_sm_val]
    congr 1
    unfold xn
    rw [List.map_map, List.map_map]
    refine List.map_congr_left fun i hi => ?_
    show ν (1 + i) = f (0 + i)
    rw [hin i (List.mem_range.mp hi), Nat.zero_add]
  rw [e1, kp_wv] at w2
  have a3 := xc_nd_ok kp_n259 (by decide) t2 hbd
  have a4 := xc_nd_ok kp_n320 (by decide) t2 hbd
  have a5 := kp_e321 hx
  have a6 := kp_e320 a4
  have a7 := a3.1
  have a8 := a3.2.1
  rw [kp_b259.1] at a7
  rw [kp_b259.2] at a8
  have h0 : (xn 0 16).map (fun k => kp_oc.getD k 0) = kp_oc := by decide
  have h1 : (xn 0 16).map (fun k => 257 + kp_oc.getD k 0) = kp_co.map Prod.fst := by decide
  have g0 : 257 + kp_oc.getD 0 0 = 321 := by decide
  refine ⟨fun k => ν (257 + kp_oc.getD k 0), ν 317, ?_, ?_, ?_, fun k k0 k1 => ?_, ?_⟩
  · rw [hΦ]
    have h2 : (xn 0 16).map (fun k => ν (257 + kp_oc.getD k 0)) = ((xn 0 16).map (fun k => kp_oc.getD k 0)).map (fun r => ν (257 + r)) := by
      rw [List.map_map]
      rfl
    rw [h2, h0]
  · show 38 * ν 317 ≤ ν (257 + kp_oc.getD 0 0)
    rw [g0]
    omega
  · show ν (257 + kp_oc.getD 0 0) ≤ 65535 + 38 * ν 317
    rw [g0]
    omega
  · have hall : (List.range 15).all (fun j => kp_co.contains (257 + kp_oc.getD (j + 1) 0, 0, 65535)) = true := by decide +kernel
    have hj := List.all_eq_true.mp hall (k - 1) (List.mem_range.mpr (by omega))
    rw [List.contains_iff_mem, show k - 1 + 1 = k by omega] at hj
    exact w3 _ hj
  · have h3 : (xn 0 16).map (fun k => ν (257 + kp_oc.getD k 0)) = ((xn 0 16).map (fun k => 257 + kp_oc.getD k 0)).map ν := by
      rw [List.map_map]
      rfl
    rw [kp_sm_val, h3, h1, w2]
end XP
