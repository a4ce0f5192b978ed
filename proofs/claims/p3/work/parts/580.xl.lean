/-! ===== the ladder's numbers, mod p ===== -/
def xl_cg (x y : Int) : Prop := xc_p ∣ x - y
theorem xl_cg.refl (x : Int) : xl_cg x x := ⟨0, by omega⟩
theorem xl_cg.symm {x y : Int} (h : xl_cg x y) : xl_cg y x := by
  obtain ⟨k, hk⟩ := h
  exact ⟨-k, by rw [Int.mul_neg]; omega⟩
theorem xl_cg.trans {x y z : Int} (h : xl_cg x y) (h' : xl_cg y z) : xl_cg x z := by
  obtain ⟨k, hk⟩ := h
  obtain ⟨j, hj⟩ := h'
  exact ⟨k + j, by rw [Int.mul_add]; omega⟩
theorem xl_cg.add {x y u v : Int} (h : xl_cg x y) (h' : xl_cg u v) : xl_cg (x + u) (y + v) := by
  obtain ⟨k, hk⟩ := h
  obtain ⟨j, hj⟩ := h'
  exact ⟨k + j, by rw [Int.mul_add]; omega⟩
theorem xl_cg.sub {x y u v : Int} (h : xl_cg x y) (h' : xl_cg u v) : xl_cg (x - u) (y - v) := by
  obtain ⟨k, hk⟩ := h
  obtain ⟨j, hj⟩ := h'
  exact ⟨k - j, by rw [Int.mul_sub]; omega⟩
theorem xl_cg.mul {x y u v : Int} (h : xl_cg x y) (h' : xl_cg u v) : xl_cg (x * u) (y * v) := by
  obtain ⟨k, hk⟩ := h
  obtain ⟨j, hj⟩ := h'
  refine ⟨k * u + y * j, ?_⟩
  have e : x * u - y * v = (x - y) * u + y * (u - v) := by
    rw [Int.sub_mul, Int.mul_sub]
    omega
  rw [e, hk, hj, Int.mul_add, Int.mul_assoc, ← Int.mul_assoc y, Int.mul_comm y, Int.mul_assoc xc_p]
/-- once round -/
def xl_step (u a b c d : Int) : Int × Int × Int × Int :=
  (((a + b) * (a + b)) * ((a - b) * (a - b)), ((a + b) * (a + b) - (a - b) * (a - b)) * ((a + b) * (a + b) + 121665 * ((a + b) * (a + b) - (a - b) * (a - b))), ((c - d) * (a + b) + (c + d) * (a - b)) * ((c - d) * (a + b) + (c + d) * (a - b)), u * (((c - d) * (a + b) - (c + d) * (a - b)) * ((c - d) * (a + b) - (c + d) * (a - b))))
/-- limbs at nodes: bounded by k and half of it, and worth x mod p -/
def xl_G (ρ : Nat → Int) (k : Int) (ns : List Nat) (x : Int) : Prop := ns.length = 10 ∧ (∀ (i g : Nat), ns[i]? = some g → (i % 2 = 0 → -k ≤ ρ g ∧ ρ g ≤ k) ∧ (i % 2 = 1 → -(k / 2) ≤ ρ g ∧ ρ g ≤ k / 2)) ∧ xl_cg (xc_val (ns.map ρ) xc_E10) x
section XL
variable {Φ : Nat → Nat → List Int → Int} {wd : Nat → Nat} {ρ : Nat → Int}
/-- what a call's nodes are worth -/
theorem xl_call {t n b : Nat} {ag : List Nat} {tb : List xk_E} {args : List xk_O} {ins outs : List (Nat × Int × Int)} {es : List Nat} {m : Int} {want : Option xa_P} (hP : kP Φ wd t n ag tb) (hwf : xk_wf wd (n + 1) tb = true) (hck : xc_ck tb ins outs es m want = true) (he : xk_eok Φ wd ρ (b, 1000 + t, args)) (hin : ins.all (fun q => decide (q.1 ≤ n)) = true) (hout : outs.all (fun q => decide (n < q.1) && decide (q.1 - n - 1 < wd t)) = true) (hb : ∀ q ∈ ins, q.2.1 ≤ xk_pos ag (args.map (xk_ov ρ)) q.1 ∧ xk_pos ag (args.map (xk_ov ρ)) q.1 ≤ q.2.2) :
    ∃ (w : xa_P) (ν : Nat → Int), want = some w ∧ (∀ g, g ≤ n → ν g = xk_pos ag (args.map (xk_ov ρ)) g) ∧ m ∣ xc_val ((outs.map (fun q => b + (q.1 - n - 1))).map ρ) es - xa_e ν w ∧ ∀ q ∈ outs, q.2.1 ≤ ρ (b + (q.1 - n - 1)) ∧ ρ (b + (q.1 - n - 1)) ≤ q.2.2 := by
  obtain ⟨i1, i2⟩ := xk_val_ok (Φ := Φ) (ρ := fun g => xk_pos ag (args.map (xk_ov ρ)) g) hwf
  have hlow : ∀ g, g ≤ n → xk_val Φ wd tb (fun g => xk_pos ag (args.map (xk_ov ρ)) g) g = xk_pos ag (args.map (xk_ov ρ)) g := fun g hg => i1 g (by omega)
  obtain ⟨w, h1, h2, h3⟩ := xc_ck_ok hck i2 (fun q hq => by
    rw [hlow q.1 (of_decide_eq_true (List.all_eq_true.mp hin q hq))]
    exact hb q hq)
  have ho : ∀ q ∈ outs, xk_val Φ wd tb (fun g => xk_pos ag (args.map (xk_ov ρ)) g) q.1 = ρ (b + (q.1 - n - 1)) := fun q hq => by
    have hq' := List.all_eq_true.mp hout q hq
    simp only [Bool.and_eq_true, decide_eq_true_eq] at hq'
    unfold xk_eok at he
    dsimp only at he
    rw [if_neg (by omega), Nat.add_sub_cancel_left] at he
    rw [he _ hq'.2, hP]
    unfold xk_fn
    rw [show n + 1 + (q.1 - n - 1) = q.1 by omega]
  refine ⟨w, _, h1, hlow, ?_, fun q hq => ?_⟩
  · have e : (outs.map Prod.fst).map (xk_val Φ wd tb (fun g => xk_pos ag (args.map (xk_ov ρ)) g)) = (outs.map (fun q => b + (q.1 - n - 1))).map ρ := by
      rw [List.map_map, List.map_map]
      exact List.map_congr_left fun q hq => ho q hq
    rw [← e]
    exact h2
  · have := h3 q hq
    rw [ho q hq] at this
    exact this
end XL
