/-! ===== exact contracts of the curve: what they begin with ===== -/
def kC_0 (Φ : Nat → Nat → List Int → Int) : Prop := ∀ r inp, Φ 0 r inp = 0
theorem k0c {Φ : Nat → Nat → List Int → Int} (H : kC_0 Φ) (r : Nat) (inp : List Int) {wd : Nat → Nat} {n : Nat} : Φ 0 r inp = xk_fn Φ wd [] n [] r inp := by
  rw [H]
  rfl

def kwe (t : Nat) : Nat := ([0, 260, 260, 260, 260, 260, 10, 10, 10, 62, 61, 2482, 1020, 1275] : List Nat).getD t 0
