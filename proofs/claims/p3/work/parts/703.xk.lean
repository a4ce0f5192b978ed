/-! ===== the reference: a bit of the key; widths ===== -/
def kwg (t : Nat) : Nat := if t < 42 then kwr t else if t = 60 then 47 else if t = 61 then 32 else if 62 ≤ t ∧ t < 66 then 32 else if 100 ≤ t then 2 else 0
def kj_g (t : Nat) : List xk_E := if 3 ≤ t ∧ t < 254 then [(2, 7, [(1, 0), (0, ((t % 8 : Nat) : Int))]), (3, 3, [(2, 0), (0, 1)])] else []
def kj (t : Nat) : xk_K := ([(0, 1, 0), (0, 0, (t : Int))], [], some (if 3 ≤ t ∧ t < 254 then (0, 3, 0) else (0, 0, if t = 254 then 1 else 0)), [], (if 3 ≤ t ∧ t < 254 then 100 + t else 0, 1, if 3 ≤ t ∧ t < 254 then [1] else []), (0, 0))
def kJ (Φ : Nat → Nat → List Int → Int) : Prop := kR_41 Φ ∧ ∀ t, 3 ≤ t → t < 254 → kP Φ kwg (100 + t) 1 [1] (kj_g t)
def kj_b (t : Nat) : Bool := xk_all1 ce_12 cm_ms [] kco_131 cm_131.1 kwg [35] 30 (kj t) (kj_g t)
theorem kj_a0 : (List.range 16).all (fun c => kj_b (0 + c)) = true := by decide +kernel
theorem kj_a1 : (List.range 16).all (fun c => kj_b (16 + c)) = true := by decide +kernel
theorem kj_a2 : (List.range 16).all (fun c => kj_b (32 + c)) = true := by decide +kernel
theorem kj_a3 : (List.range 16).all (fun c => kj_b (48 + c)) = true := by decide +kernel
theorem kj_a4 : (List.range 16).all (fun c => kj_b (64 + c)) = true := by decide +kernel
theorem kj_a5 : (List.range 16).all (fun c => kj_b (80 + c)) = true := by decide +kernel
theorem kj_a6 : (List.range 16).all (fun c => kj_b (96 + c)) = true := by decide +kernel
theorem kj_a7 : (List.range 16).all (fun c => kj_b (112 + c)) = true := by decide +kernel
theorem kj_a8 : (List.range 16).all (fun c => kj_b (128 + c)) = true := by decide +kernel
theorem kj_a9 : (List.range 16).all (fun c => kj_b (144 + c)) = true := by decide +kernel
theorem kj_a10 : (List.range 16).all (fun c => kj_b (160 + c)) = true := by decide +kernel
theorem kj_a11 : (List.range 16).all (fun c => kj_b (176 + c)) = true := by decide +kernel
theorem kj_a12 : (List.range 16).all (fun c => kj_b (192 + c)) = true := by decide +kernel
theorem kj_a13 : (List.range 16).all (fun c => kj_b (208 + c)) = true := by decide +kernel
theorem kj_a14 : (List.range 16).all (fun c => kj_b (224 + c)) = true := by decide +kernel
theorem kj_a15 : (List.range 15).all (fun c => kj_b (240 + c)) = true := by decide +kernel
theorem kj_all (c : Nat) (h0 : 0 ≤ c) (hc : c < 255) : kj_b c = true := by
  by_cases h0 : c < 16
  · exact xk_ran kj_a0 (by omega) (by omega)
  by_cases h1 : c < 32
  · exact xk_ran kj_a1 (by omega) (by omega)
  by_cases h2 : c < 48
  · exact xk_ran kj_a2 (by omega) (by omega)
  by_cases h3 : c < 64
  · exact xk_ran kj_a3 (by omega) (by omega)
  by_cases h4 : c < 80
  · exact xk_ran kj_a4 (by omega) (by omega)
  by_cases h5 : c < 96
  · exact xk_ran kj_a5 (by omega) (by omega)
  by_cases h6 : c < 112
  · exact xk_ran kj_a6 (by omega) (by omega)
  by_cases h7 : c < 128
  · exact xk_ran kj_a7 (by omega) (by omega)
  by_cases h8 : c < 144
  · exact xk_ran kj_a8 (by omega) (by omega)
  by_cases h9 : c < 160
  · exact xk_ran kj_a9 (by omega) (by omega)
  by_cases h10 : c < 176
  · exact xk_ran kj_a10 (by omega) (by omega)
  by_cases h11 : c < 192
  · exact xk_ran kj_a11 (by omega) (by omega)
  by_cases h12 : c < 208
  · exact xk_ran kj_a12 (by omega) (by omega)
  by_cases h13 : c < 224
  · exact xk_ran kj_a13 (by omega) (by omega)
  by_cases h14 : c < 240
  · exact xk_ran kj_a14 (by omega) (by omega)
  exact xk_ran kj_a15 (by omega) (by omega)
theorem kJ_0 {Φ : Nat → Nat → List Int → Int} (H : kJ Φ) : kR_0 Φ := H.1.1.1.1.1.1.1.1.1.1.1.1.1.1.1.1.1.1.1.1.1.1.1.1.1.1.1.1.1.1.1.1.1.1.1.1.1.1.1.1.1.1
theorem kj_ok {l : Launch} {Φ : Nat → Nat → List Int → Int} (H : kJ Φ) (t : Nat) (ht : t < 255) : xk_Cd l Φ kwg (0, 2147483647) cm_131.1 (kj t) := by
  have hb : xk_all1 ce_12 cm_ms [] kco_131 cm_131.1 kwg [35] 30 (kj t) (kj_g t) = true := kj_all t (Nat.zero_le _) ht
  refine xk_done2 (E := ce_12) (ms := cm_ms) (cts := []) (cod := kco_131) hb (fun r inp => ?_) ce_ok12 rfl cm_ok xk_Cts.nil ce_glob kco_131_ok
  by_cases h : 3 ≤ t ∧ t < 254
  · have e := H.2 t h.1 h.2 r inp
    unfold kj
    dsimp only
    rw [if_pos h, if_pos h]
    exact e
  · unfold kj kj_g
    dsimp only
    rw [if_neg h, if_neg h, if_neg h]
    exact k0r (kJ_0 H) r inp
/-- what the reference's method says -/
theorem kj_val {Φ : Nat → Nat → List Int → Int} (H : kJ Φ) {t : Nat} (h1 : 3 ≤ t) (h2 : t < 254) (v : Int) : Φ (100 + t) 1 [v] = kb_bit t v := by
  rw [H.2 t h1 h2]
  have e : kb_bit t v = kb_x t v := by
    unfold kb_bit
    rw [if_neg (by omega), if_pos ⟨h1, h2⟩]
  unfold kj_g
  rw [if_pos ⟨h1, h2⟩, e]
  rfl
def xk_lw3 (P : Nat → Prop) [DecidablePred P] (v : xk_V) : Bool := decide (v.1 < 2 → v.2.1 = 0 ∨ P v.2.1)
theorem xk_refl3 {ρ ρ' : Nat → Int} {T : List xk_C} {P : Nat → Prop} [DecidablePred P] (hT : T.all (fun c => c.2.all (xk_lw3 P)) = true) (h : ∀ g, 0 < g → P g → ρ g = ρ' g) : ck_all (fun c d => d.1 = c.1 ∧ ck_all (xk_iz ρ ρ') c.2 d.2) T T := by
  refine ⟨rfl, fun i c d hc hd => ?_⟩
  rw [hc] at hd
  cases hd
  refine ⟨rfl, rfl, fun j v w hv hw => ?_⟩
  rw [hv] at hw
  cases hw
  refine Or.inr ⟨rfl, fun hk => ?_, fun _ => rfl⟩
  have := of_decide_eq_true (List.all_eq_true.mp (List.all_eq_true.mp hT c (List.mem_of_getElem? hc)) v (List.mem_of_getElem? hv)) hk
  unfold xk_ov
  split
  · rfl
  · rename_i h0
    rcases this with z | z
    · exact absurd z h0
    · exact h _ (by omega) z
