/-- a piece of a family -/
theorem xk_ran {P : Nat → Bool} {lo n c : Nat} (h : (List.range n).all (fun c => P (lo + c)) = true) (h1 : lo ≤ c) (h2 : c < lo + n) : P c = true := by
  have := List.all_eq_true.mp h (c - lo) (List.mem_range.mpr (by omega))
  rwa [Nat.add_sub_cancel' h1] at this
/-! ===== exact contracts: what they begin with ===== -/
def kH_0 (Φ : Nat → Nat → List Int → Int) : Prop := ∀ r inp, Φ 0 r inp = 0
theorem k0 {Φ : Nat → Nat → List Int → Int} (H : kH_0 Φ) (r : Nat) (inp : List Int) {wd : Nat → Nat} {n : Nat} : Φ 0 r inp = xk_fn Φ wd [] n [] r inp := by
  rw [H]
  rfl

def kwd (t : Nat) : Nat := ([0, 1104, 1104, 1104, 1104, 2440, 32, 32, 32, 7152, 14336, 3, 3, 3, 3, 3, 3, 3, 3, 3, 3, 3544, 3544, 3544, 32, 32, 32, 32, 32, 32, 32, 32, 7152, 7152, 14368, 14368, 14368, 14368] : List Nat).getD t 0
