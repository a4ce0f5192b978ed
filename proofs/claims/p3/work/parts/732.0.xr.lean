/-! ===== the reference's ladder and inverse, as numbers mod p ===== -/
def xr_L (v : List Int) (x : Int) : Prop := v.length = 16 ∧ (∀ (i : Nat) (a : Int), v[i]? = some a → (i = 0 → -100 ≤ a ∧ a ≤ 65700) ∧ (i ≠ 0 → 0 ≤ a ∧ a ≤ 65535)) ∧ xl_cg (xc_val v xc_E16) x
theorem xr_L_G {ρ : Nat → Int} {ns : List Nat} {x : Int} (h : xr_L (ns.map ρ) x) : xr_G ρ ns x := by
  refine ⟨by have := h.1; rwa [List.length_map] at this, fun i g hg => h.2.1 i (ρ g) (by rw [List.getElem?_map, hg]; rfl), h.2.2⟩
theorem xr_G_L {ρ : Nat → Int} {ns : List Nat} {x : Int} (h : xr_G ρ ns x) : xr_L (ns.map ρ) x := by
  refine ⟨by rw [List.length_map]; exact h.1, fun i a ha => ?_, h.2.2⟩
  rw [List.getElem?_map] at ha
  cases hg : ns[i]? with
  | none => rw [hg] at ha; cases ha
  | some g => rw [hg] at ha; cases ha; exact h.2.1 i g hg
theorem xk_eok.wd {Φ : Nat → Nat → List Int → Int} {wd wd' : Nat → Nat} {ρ : Nat → Int} {b t : Nat} {args : List xk_O} (h : xk_eok Φ wd ρ (b, 1000 + t, args)) (e : wd' t = wd t) : xk_eok Φ wd' ρ (b, 1000 + t, args) := by
  unfold xk_eok at h ⊢
  dsimp only at h ⊢
  rw [if_neg (by omega), Nat.add_sub_cancel_left] at h
  rw [if_neg (by omega), Nat.add_sub_cancel_left, e]
  exact h
theorem xr_p1 {ρ : Nat → Int} {os : List Nat} {x y : Int} (h : xr_G ρ os (x + (1) * y)) : xr_G ρ os (x + y) := by rwa [Int.one_mul] at h
theorem xr_m1 {ρ : Nat → Int} {os : List Nat} {x y : Int} (h : xr_G ρ os (x + (-1) * y)) : xr_G ρ os (x - y) := by
  have e : x + (-1) * y = x - y := by omega
  rwa [e] at h
