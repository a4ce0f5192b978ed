/-! ===== exact contracts of the curve: what they begin with ===== -/
def kR_0 (Φ : Nat → Nat → List Int → Int) : Prop := ∀ r inp, Φ 0 r inp = 0
theorem k0r {Φ : Nat → Nat → List Int → Int} (H : kR_0 Φ) (r : Nat) (inp : List Int) {wd : Nat → Nat} {n : Nat} : Φ 0 r inp = xk_fn Φ wd [] n [] r inp := by
  rw [H]
  rfl

def kwr (t : Nat) : Nat := ([0, 65, 65, 65, 65, 65, 65, 65, 65, 65, 65, 65, 65, 65, 162, 162, 162, 162, 162, 162, 162, 162, 33, 33, 33, 33, 33, 33, 33, 33, 673, 673, 673, 673, 673, 673, 673, 673, 673, 673, 673, 673] : List Nat).getD t 0
