/-! ===== exact contracts, the reference ===== -/
def km_right7 : xk_K := ([(0, 1, 0), (0, 0, 7)], [], some (0, 4, 0), [], (11, 1, [1]), (0, 0))
def km_right7_g : List xk_E := xk_tb (xk_go ce_12 cm_ms [] kco_178 cm_178.1 kwd [10] 14 km_right7)
def kH_11 (Φ : Nat → Nat → List Int → Int) : Prop := kH_10 Φ ∧ kP Φ kwd 11 1 ([1]) km_right7_g
theorem km_right7_ok {l : Launch} {Φ : Nat → Nat → List Int → Int} (H : kH_11 Φ) : xk_Cd l Φ kwd (0, 2147483647) cm_178.1 km_right7 := xk_done2 (E := ce_12) (ms := cm_ms) (cts := []) (cod := kco_178) (stops := [10]) (f := 14) (tb := km_right7_g) (by decide +kernel) H.2 ce_ok12 rfl cm_ok xk_Cts.nil ce_glob kco_178_ok
def km_right18 : xk_K := ([(0, 1, 0), (0, 0, 18)], [], some (0, 4, 0), [], (12, 1, [1]), (0, 0))
def km_right18_g : List xk_E := xk_tb (xk_go ce_12 cm_ms [] kco_178 cm_178.1 kwd [10] 14 km_right18)
def kH_12 (Φ : Nat → Nat → List Int → Int) : Prop := kH_11 Φ ∧ kP Φ kwd 12 1 ([1]) km_right18_g
theorem km_right18_ok {l : Launch} {Φ : Nat → Nat → List Int → Int} (H : kH_12 Φ) : xk_Cd l Φ kwd (0, 2147483647) cm_178.1 km_right18 := xk_done2 (E := ce_12) (ms := cm_ms) (cts := []) (cod := kco_178) (stops := [10]) (f := 14) (tb := km_right18_g) (by decide +kernel) H.2 ce_ok12 rfl cm_ok xk_Cts.nil ce_glob kco_178_ok
def km_right17 : xk_K := ([(0, 1, 0), (0, 0, 17)], [], some (0, 4, 0), [], (13, 1, [1]), (0, 0))
def km_right17_g : List xk_E := xk_tb (xk_go ce_12 cm_ms [] kco_178 cm_178.1 kwd [10] 14 km_right17)
def kH_13 (Φ : Nat → Nat → List Int → Int) : Prop := kH_12 Φ ∧ kP Φ kwd 13 1 ([1]) km_right17_g
theorem km_right17_ok {l : Launch} {Φ : Nat → Nat → List Int → Int} (H : kH_13 Φ) : xk_Cd l Φ kwd (0, 2147483647) cm_178.1 km_right17 := xk_done2 (E := ce_12) (ms := cm_ms) (cts := []) (cod := kco_178) (stops := [10]) (f := 14) (tb := km_right17_g) (by decide +kernel) H.2 ce_ok12 rfl cm_ok xk_Cts.nil ce_glob kco_178_ok
def km_right19 : xk_K := ([(0, 1, 0), (0, 0, 19)], [], some (0, 4, 0), [], (14, 1, [1]), (0, 0))
def km_right19_g : List xk_E := xk_tb (xk_go ce_12 cm_ms [] kco_178 cm_178.1 kwd [10] 14 km_right19)
def kH_14 (Φ : Nat → Nat → List Int → Int) : Prop := kH_13 Φ ∧ kP Φ kwd 14 1 ([1]) km_right19_g
theorem km_right19_ok {l : Launch} {Φ : Nat → Nat → List Int → Int} (H : kH_14 Φ) : xk_Cd l Φ kwd (0, 2147483647) cm_178.1 km_right19 := xk_done2 (E := ce_12) (ms := cm_ms) (cts := []) (cod := kco_178) (stops := [10]) (f := 14) (tb := km_right19_g) (by decide +kernel) H.2 ce_ok12 rfl cm_ok xk_Cts.nil ce_glob kco_178_ok
def km_right6 : xk_K := ([(0, 1, 0), (0, 0, 6)], [], some (0, 4, 0), [], (15, 1, [1]), (0, 0))
def km_right6_g : List xk_E := xk_tb (xk_go ce_12 cm_ms [] kco_178 cm_178.1 kwd [10] 14 km_right6)
def kH_15 (Φ : Nat → Nat → List Int → Int) : Prop := kH_14 Φ ∧ kP Φ kwd 15 1 ([1]) km_right6_g
theorem km_right6_ok {l : Launch} {Φ : Nat → Nat → List Int → Int} (H : kH_15 Φ) : xk_Cd l Φ kwd (0, 2147483647) cm_178.1 km_right6 := xk_done2 (E := ce_12) (ms := cm_ms) (cts := []) (cod := kco_178) (stops := [10]) (f := 14) (tb := km_right6_g) (by decide +kernel) H.2 ce_ok12 rfl cm_ok xk_Cts.nil ce_glob kco_178_ok
def km_right11 : xk_K := ([(0, 1, 0), (0, 0, 11)], [], some (0, 4, 0), [], (16, 1, [1]), (0, 0))
def km_right11_g : List xk_E := xk_tb (xk_go ce_12 cm_ms [] kco_178 cm_178.1 kwd [10] 14 km_right11)
def kH_16 (Φ : Nat → Nat → List Int → Int) : Prop := kH_15 Φ ∧ kP Φ kwd 16 1 ([1]) km_right11_g
theorem km_right11_ok {l : Launch} {Φ : Nat → Nat → List Int → Int} (H : kH_16 Φ) : xk_Cd l Φ kwd (0, 2147483647) cm_178.1 km_right11 := xk_done2 (E := ce_12) (ms := cm_ms) (cts := []) (cod := kco_178) (stops := [10]) (f := 14) (tb := km_right11_g) (by decide +kernel) H.2 ce_ok12 rfl cm_ok xk_Cts.nil ce_glob kco_178_ok
def km_right25 : xk_K := ([(0, 1, 0), (0, 0, 25)], [], some (0, 4, 0), [], (17, 1, [1]), (0, 0))
def km_right25_g : List xk_E := xk_tb (xk_go ce_12 cm_ms [] kco_178 cm_178.1 kwd [10] 14 km_right25)
def kH_17 (Φ : Nat → Nat → List Int → Int) : Prop := kH_16 Φ ∧ kP Φ kwd 17 1 ([1]) km_right25_g
theorem km_right25_ok {l : Launch} {Φ : Nat → Nat → List Int → Int} (H : kH_17 Φ) : xk_Cd l Φ kwd (0, 2147483647) cm_178.1 km_right25 := xk_done2 (E := ce_12) (ms := cm_ms) (cts := []) (cod := kco_178) (stops := [10]) (f := 14) (tb := km_right25_g) (by decide +kernel) H.2 ce_ok12 rfl cm_ok xk_Cts.nil ce_glob kco_178_ok
def km_right2 : xk_K := ([(0, 1, 0), (0, 0, 2)], [], some (0, 4, 0), [], (18, 1, [1]), (0, 0))
def km_right2_g : List xk_E := xk_tb (xk_go ce_12 cm_ms [] kco_178 cm_178.1 kwd [10] 14 km_right2)
def kH_18 (Φ : Nat → Nat → List Int → Int) : Prop := kH_17 Φ ∧ kP Φ kwd 18 1 ([1]) km_right2_g
theorem km_right2_ok {l : Launch} {Φ : Nat → Nat → List Int → Int} (H : kH_18 Φ) : xk_Cd l Φ kwd (0, 2147483647) cm_178.1 km_right2 := xk_done2 (E := ce_12) (ms := cm_ms) (cts := []) (cod := kco_178) (stops := [10]) (f := 14) (tb := km_right2_g) (by decide +kernel) H.2 ce_ok12 rfl cm_ok xk_Cts.nil ce_glob kco_178_ok
def km_right13 : xk_K := ([(0, 1, 0), (0, 0, 13)], [], some (0, 4, 0), [], (19, 1, [1]), (0, 0))
def km_right13_g : List xk_E := xk_tb (xk_go ce_12 cm_ms [] kco_178 cm_178.1 kwd [10] 14 km_right13)
def kH_19 (Φ : Nat → Nat → List Int → Int) : Prop := kH_18 Φ ∧ kP Φ kwd 19 1 ([1]) km_right13_g
theorem km_right13_ok {l : Launch} {Φ : Nat → Nat → List Int → Int} (H : kH_19 Φ) : xk_Cd l Φ kwd (0, 2147483647) cm_178.1 km_right13 := xk_done2 (E := ce_12) (ms := cm_ms) (cts := []) (cod := kco_178) (stops := [10]) (f := 14) (tb := km_right13_g) (by decide +kernel) H.2 ce_ok12 rfl cm_ok xk_Cts.nil ce_glob kco_178_ok
def km_right22 : xk_K := ([(0, 1, 0), (0, 0, 22)], [], some (0, 4, 0), [], (20, 1, [1]), (0, 0))
def km_right22_g : List xk_E := xk_tb (xk_go ce_12 cm_ms [] kco_178 cm_178.1 kwd [10] 14 km_right22)
def kH_20 (Φ : Nat → Nat → List Int → Int) : Prop := kH_19 Φ ∧ kP Φ kwd 20 1 ([1]) km_right22_g
theorem km_right22_ok {l : Launch} {Φ : Nat → Nat → List Int → Int} (H : kH_20 Φ) : xk_Cd l Φ kwd (0, 2147483647) cm_178.1 km_right22 := xk_done2 (E := ce_12) (ms := cm_ms) (cts := []) (cod := kco_178) (stops := [10]) (f := 14) (tb := km_right22_g) (by decide +kernel) H.2 ce_ok12 rfl cm_ok xk_Cts.nil ce_glob kco_178_ok
/-- where a piece of a run ends -/
def xk_eqx (a : Option xk_X) (y : xk_X) : Bool := match a with
  | some x => decide (x.1 = y.1) && decide (x.2.1 = y.2.1) && decide (x.2.2.1 = y.2.2.1) && decide (x.2.2.2.1 = y.2.2.2.1) && decide (x.2.2.2.2.1 = y.2.2.2.2.1) && decide (x.2.2.2.2.2 = y.2.2.2.2.2)
  | none => false
theorem xk_eqx_ok {a : Option xk_X} {y : xk_X} (h : xk_eqx a y = true) : a = some y := by
  unfold xk_eqx at h
  split at h
  · rename_i x
    simp only [Bool.and_eq_true, decide_eq_true_eq] at h
    obtain ⟨⟨⟨⟨⟨h1, h2⟩, h3⟩, h4⟩, h5⟩, h6⟩ := h
    obtain ⟨x1, x2, x3, x4, x5, x6⟩ := x
    obtain ⟨y1, y2, y3, y4, y5, y6⟩ := y
    dsimp only at h1 h2 h3 h4 h5 h6
    subst h1 h2 h3 h4 h5 h6
    rfl
  · cases h
