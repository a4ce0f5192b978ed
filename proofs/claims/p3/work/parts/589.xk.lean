/-! ===== the class: a bit of the secret; widths ===== -/
def kwf (t : Nat) : Nat := if t < 14 then kwe t else if t = 40 then 10 else if t = 50 then 32 else if 100 ≤ t then 3 else 0
def ki_g (t : Nat) : List xk_E := if 3 ≤ t ∧ t < 254 then [(33, 7, [(1 + t / 8, 0), (0, ((t % 8 : Nat) : Int))]), (34, 3, [(33, 0), (0, 1)]), (35, 41, [(34, 0), (0, 1), (0, 1), (0, 0)])] else []
def ki (t : Nat) : xk_K := ([(2, 0, 0), (0, 0, (t : Int))], [((1, 0), xi 1 32)], some (if 3 ≤ t ∧ t < 254 then (0, 35, 0) else (0, 0, if t = 254 then 1 else 0)), [((1, 0), xi 1 32)], (if 3 ≤ t ∧ t < 254 then 100 + t else 0, 32, if 3 ≤ t ∧ t < 254 then [1 + t / 8] else []), (0, 0))
def kI (Φ : Nat → Nat → List Int → Int) : Prop := kC_13 Φ ∧ ∀ t, 3 ≤ t → t < 254 → kP Φ kwf (100 + t) 32 [1 + t / 8] (ki_g t)
def ki_b (t : Nat) : Bool := xk_all1 ce_2 cm_ms [] kco_43 cm_43.1 kwf [33] 30 (ki t) (ki_g t)
theorem ki_a0 : (List.range 16).all (fun c => ki_b (0 + c)) = true := by decide +kernel
theorem ki_a1 : (List.range 16).all (fun c => ki_b (16 + c)) = true := by decide +kernel
theorem ki_a2 : (List.range 16).all (fun c => ki_b (32 + c)) = true := by decide +kernel
theorem ki_a3 : (List.range 16).all (fun c => ki_b (48 + c)) = true := by decide +kernel
theorem ki_a4 : (List.range 16).all (fun c => ki_b (64 + c)) = true := by decide +kernel
theorem ki_a5 : (List.range 16).all (fun c => ki_b (80 + c)) = true := by decide +kernel
theorem ki_a6 : (List.range 16).all (fun c => ki_b (96 + c)) = true := by decide +kernel
theorem ki_a7 : (List.range 16).all (fun c => ki_b (112 + c)) = true := by decide +kernel
theorem ki_a8 : (List.range 16).all (fun c => ki_b (128 + c)) = true := by decide +kernel
theorem ki_a9 : (List.range 16).all (fun c => ki_b (144 + c)) = true := by decide +kernel
theorem ki_a10 : (List.range 16).all (fun c => ki_b (160 + c)) = true := by decide +kernel
theorem ki_a11 : (List.range 16).all (fun c => ki_b (176 + c)) = true := by decide +kernel
theorem ki_a12 : (List.range 16).all (fun c => ki_b (192 + c)) = true := by decide +kernel
theorem ki_a13 : (List.range 16).all (fun c => ki_b (208 + c)) = true := by decide +kernel
theorem ki_a14 : (List.range 16).all (fun c => ki_b (224 + c)) = true := by decide +kernel
theorem ki_a15 : (List.range 15).all (fun c => ki_b (240 + c)) = true := by decide +kernel
theorem ki_all (c : Nat) (h0 : 0 ≤ c) (hc : c < 255) : ki_b c = true := by
  by_cases h0 : c < 16
  · exact xk_ran ki_a0 (by omega) (by omega)
  by_cases h1 : c < 32
  · exact xk_ran ki_a1 (by omega) (by omega)
  by_cases h2 : c < 48
  · exact xk_ran ki_a2 (by omega) (by omega)
  by_cases h3 : c < 64
  · exact xk_ran ki_a3 (by omega) (by omega)
  by_cases h4 : c < 80
  · exact xk_ran ki_a4 (by omega) (by omega)
  by_cases h5 : c < 96
  · exact xk_ran ki_a5 (by omega) (by omega)
  by_cases h6 : c < 112
  · exact xk_ran ki_a6 (by omega) (by omega)
  by_cases h7 : c < 128
  · exact xk_ran ki_a7 (by omega) (by omega)
  by_cases h8 : c < 144
  · exact xk_ran ki_a8 (by omega) (by omega)
  by_cases h9 : c < 160
  · exact xk_ran ki_a9 (by omega) (by omega)
  by_cases h10 : c < 176
  · exact xk_ran ki_a10 (by omega) (by omega)
  by_cases h11 : c < 192
  · exact xk_ran ki_a11 (by omega) (by omega)
  by_cases h12 : c < 208
  · exact xk_ran ki_a12 (by omega) (by omega)
  by_cases h13 : c < 224
  · exact xk_ran ki_a13 (by omega) (by omega)
  by_cases h14 : c < 240
  · exact xk_ran ki_a14 (by omega) (by omega)
  exact xk_ran ki_a15 (by omega) (by omega)
theorem kI_0 {Φ : Nat → Nat → List Int → Int} (H : kI Φ) : kC_0 Φ := H.1.1.1.1.1.1.1.1.1.1.1.1.1.1
theorem ki_ok {l : Launch} {Φ : Nat → Nat → List Int → Int} (H : kI Φ) (t : Nat) (ht : t < 255) : xk_Cd l Φ kwf (0, 2147483647) cm_43.1 (ki t) := by
  have hb : xk_all1 ce_2 cm_ms [] kco_43 cm_43.1 kwf [33] 30 (ki t) (ki_g t) = true := ki_all t (Nat.zero_le _) ht
  refine xk_done2 (E := ce_2) (ms := cm_ms) (cts := []) (cod := kco_43) hb (fun r inp => ?_) ce_ok2 rfl cm_ok xk_Cts.nil ce_glob kco_43_ok
  by_cases h : 3 ≤ t ∧ t < 254
  · have e := H.2 t h.1 h.2 r inp
    unfold ki
    dsimp only
    rw [if_pos h, if_pos h]
    exact e
  · unfold ki ki_g
    dsimp only
    rw [if_neg h, if_neg h, if_neg h]
    exact k0c (kI_0 H) r inp
/-- the bit, as a number -/
def kb_x (t : Nat) (v : Int) : Int := xk_sem 3 [xk_sem 7 [v, ((t % 8 : Nat) : Int)], 1]
def kb_bit (t : Nat) (v : Int) : Int := if t = 254 then 1 else if 3 ≤ t ∧ t < 254 then kb_x t v else 0
theorem kb_x01 (t : Nat) (v : Int) : kb_x t v = 0 ∨ kb_x t v = 1 := by
  unfold kb_x
  generalize xk_sem 7 [v, ((t % 8 : Nat) : Int)] = w
  show (Int32.ofInt w &&& Int32.ofInt 1).toInt = 0 ∨ (Int32.ofInt w &&& Int32.ofInt 1).toInt = 1
  have h : (Int32.ofInt 1).toInt = 1 := by decide
  obtain ⟨a, b⟩ := xa_and32 (x := Int32.ofInt w) (y := Int32.ofInt 1) (by rw [h]; decide)
  rw [h] at b
  omega
theorem kb_01 (t : Nat) (v : Int) : kb_bit t v = 0 ∨ kb_bit t v = 1 := by
  unfold kb_bit
  split
  · exact Or.inr rfl
  · split
    · exact kb_x01 t v
    · exact Or.inl rfl
/-- what the class's method says -/
theorem ki_val {Φ : Nat → Nat → List Int → Int} (H : kI Φ) {t : Nat} (h1 : 3 ≤ t) (h2 : t < 254) (v : Int) : Φ (100 + t) 2 [v] = kb_bit t v := by
  rw [H.2 t h1 h2]
  have e : kb_bit t v = kb_x t v := by
    unfold kb_bit
    rw [if_neg (by omega), if_pos ⟨h1, h2⟩]
  have hk : t / 8 < 32 := by omega
  unfold ki_g
  rw [if_pos ⟨h1, h2⟩, e]
  have hx : xk_fn Φ kwf [(33, 7, [(1 + t / 8, 0), (0, ((t % 8 : Nat) : Int))]), (34, 3, [(33, 0), (0, 1)]), (35, 41, [(34, 0), (0, 1), (0, 1), (0, 0)])] 32 [1 + t / 8] 2 [v] = xk_sem 41 [kb_x t v, 1, 1, 0] := by
    have n1 : ¬ (1 + t / 8 = 0) := by omega
    simp only [xk_fn, xk_val, xk_ov, xk_pos, List.map_cons, List.map_nil, kb_x, n1, if_false, if_true, reduceIte, Nat.reduceAdd, Nat.reduceEqDiff, Nat.reduceLT]
  rw [hx]
  rcases kb_x01 t v with z | z <;> rw [z] <;> decide
