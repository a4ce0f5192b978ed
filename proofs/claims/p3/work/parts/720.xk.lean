/-! ===== digest: branches by what a number is; widths; checks ===== -/
section XI
variable {p : Program} {l : Launch} {e : Env} {R : Room} {s : State} {m : MethodId} {args : Array Value} {below : List Frame} {meth : Method} {c : Code} {Q : State → Prop}
variable {nb : Nat × Nat} {D : va_G} {AC : Nat → ClassId} {S : Nat → Nat} {θ : Nat → Value} {L : Heap} {ρ : Nat → Int} {N : List Nat} {H0 : Heap} {Φ : Nat → Nat → List Int → Int} {wd : Nat → Nat}
variable {M : ck_M} {fr lo nL : Nat} {E : ck_E} {ms : List ck_MM} {cts : List xk_Q} {cod : List (List (Nat × Instr × Nat))}
/-- two ints are compared -/
theorem xw_ic (hy : xk_Hy p l e R s m meth c M fr lo E ms cts Φ wd nb D AC S L H0 cod) {pc t : Nat} {k : ClassFile.Cond} {off : Int} {a b : xk_O} {A : List (Nat × xk_V)} {r : List xk_V} {T : List xk_C} (hi : ck_cdAt cod pc = some (.if_icmp k off, 3)) (ht : ck_tgt pc off = some t) (w1 : ck_hold k (xk_ov ρ a) (xk_ov ρ b) → xk_W p l e R s m args below meth c Q D AC S θ L nL ρ N H0 t (A, r, T)) (w2 : ¬ ck_hold k (xk_ov ρ a) (xk_ov ρ b) → xk_W p l e R s m args below meth c Q D AC S θ L nL ρ N H0 (pc + 3) (A, r, T)) : xk_W p l e R s m args below meth c Q D AC S θ L nL ρ N H0 pc (A, (0, b) :: (0, a) :: r, T) := by
  obtain ⟨⟨hexec, hb, hml, hret, hlk, hown, hhd, hnm⟩, htr, -, -, hSt, hL, hE, hEM, hms, hcts, hgl, hcod⟩ := hy
  intro H ls vs locs ⟨lv, h1, h2, h3, h4, h5, h6⟩
  obtain ⟨_, vs', rfl, ⟨y, rfl, y1⟩, g2⟩ := h3.uncons
  obtain ⟨_, vs'', rfl, ⟨z, rfl, z1⟩, g3⟩ := g2.uncons
  dsimp only at y1 z1
  refine xk_icmp hexec hb (hcod _ _ _ hi) (ck_tgt_ok ht) (fun hh => w1 ?_ H ls vs'' locs ⟨lv, h1, h2, g3, h4, h5, h6⟩) (fun hh => w2 ?_ H ls vs'' locs ⟨lv, h1, h2, g3, h4, h5, h6⟩)
  · rw [← y1, ← z1]; exact hh
  · rw [← y1, ← z1]; exact hh
/-- locals told anew, one by one -/
theorem xk_W.ls {pc : Nat} {A B : List (Nat × xk_V)} {st : List xk_V} {T : List xk_C} (h : ck_all (fun q q' : Nat × xk_V => q'.1 = q.1 ∧ xk_iz ρ ρ q.2 q'.2) A B) (k : xk_W p l e R s m args below meth c Q D AC S θ L nL ρ N H0 pc (B, st, T)) : xk_W p l e R s m args below meth c Q D AC S θ L nL ρ N H0 pc (A, st, T) := by
  intro H lv vs locs ⟨w, h1, h2, h3, h4, h5, h6⟩
  refine k H lv vs locs ⟨w, h1, ⟨by rw [← h.1]; exact h2.1, fun i q v hq hv => ?_⟩, h3, h4, h5, h6⟩
  have hi : i < A.length := by rw [h.1]; exact (List.getElem?_eq_some_iff.mp hq).1
  have ha := List.getElem?_eq_getElem hi
  obtain ⟨e1, e2⟩ := h.2 i _ q ha hq
  obtain ⟨g1, g2⟩ := h2.2 i _ v ha hv
  exact ⟨e1.trans g1, xk_iz_R e2 g2⟩
theorem xk_iz.same {v : xk_V} : xk_iz ρ ρ v v := Or.inr ⟨rfl, fun _ => rfl, fun _ => rfl⟩
theorem xk_iz.nod {g : Nat} {b : Int} {k : Nat} (hk : k < 2) (hg : 0 < g) (h : ρ g = b) : xk_iz ρ ρ (k, (0, b)) (k, (g, 0)) := Or.inr ⟨rfl, fun _ => by
  show b = (if g = 0 then 0 else ρ g)
  rw [if_neg (by omega), h], fun h => by dsimp only at h; omega⟩
theorem xk_iz.cst {g : Nat} {b : Int} {k : Nat} (hk : k < 2) (hg : 0 < g) (h : ρ g = b) : xk_iz ρ ρ (k, (g, 0)) (k, (0, b)) := Or.inr ⟨rfl, fun _ => by
  show (if g = 0 then 0 else ρ g) = b
  rw [if_neg (by omega), h], fun h => by dsimp only at h; omega⟩
end XI
def kwh (t : Nat) : Nat := if t < 38 then kwd t else if 200 ≤ t then 32 else 0
def kq_4 (c : Nat) : xk_K := ([(0, 0, (c : Int)), (0, 0, 4)], [], none, [], (0, 0, []), (0, 0))
def kq_4_b (c : Nat) : Bool := xk_all1 ce_0 cm_ms [] kco_5 cm_5.1 kwh [20] 40 (kq_4 c) []
theorem kq_4_a0 : (List.range 4).all (fun c => kq_4_b (0 + c)) = true := by decide +kernel
theorem kq_4_all (c : Nat) (h0 : 0 ≤ c) (hc : c < 4) : kq_4_b c = true := by
  exact xk_ran kq_4_a0 (by omega) (by omega)
theorem kq_4_ok {l : Launch} {Φ : Nat → Nat → List Int → Int} (H : kH_0 Φ) (c : Nat) (hc : c < 4) : xk_Cd l Φ kwh (0, 2147483647) cm_5.1 (kq_4 c) := xk_done2 (E := ce_0) (ms := cm_ms) (cts := []) (cod := kco_5) (show xk_all1 ce_0 cm_ms [] kco_5 cm_5.1 kwh [20] 40 (kq_4 c) [] = true from kq_4_all c (Nat.zero_le _) hc) (fun r inp => k0 H r inp) ce_ok0 rfl cm_ok xk_Cts.nil ce_glob kco_5_ok
def kz_4 (c : Nat) : xk_K := ([(0, 0, (c : Int)), (0, 0, 4)], [], some (0, 0, 1), [], (0, 0, []), (0, 0))
def kz_4_b (c : Nat) : Bool := xk_all1 ce_12 cm_ms [] kco_153 cm_153.1 kwh [14] 40 (kz_4 c) []
theorem kz_4_a0 : (List.range 4).all (fun c => kz_4_b (0 + c)) = true := by decide +kernel
theorem kz_4_all (c : Nat) (h0 : 0 ≤ c) (hc : c < 4) : kz_4_b c = true := by
  exact xk_ran kz_4_a0 (by omega) (by omega)
theorem kz_4_ok {l : Launch} {Φ : Nat → Nat → List Int → Int} (H : kH_0 Φ) (c : Nat) (hc : c < 4) : xk_Cd l Φ kwh (0, 2147483647) cm_153.1 (kz_4 c) := xk_done2 (E := ce_12) (ms := cm_ms) (cts := []) (cod := kco_153) (show xk_all1 ce_12 cm_ms [] kco_153 cm_153.1 kwh [14] 40 (kz_4 c) [] = true from kz_4_all c (Nat.zero_le _) hc) (fun r inp => k0 H r inp) ce_ok12 rfl cm_ok xk_Cts.nil ce_glob kco_153_ok
def kq_129 (c : Nat) : xk_K := ([(0, 0, (c : Int)), (0, 0, 129)], [], none, [], (0, 0, []), (0, 0))
def kq_129_b (c : Nat) : Bool := xk_all1 ce_0 cm_ms [] kco_5 cm_5.1 kwh [20] 40 (kq_129 c) []
theorem kq_129_a0 : (List.range 16).all (fun c => kq_129_b (0 + c)) = true := by decide +kernel
theorem kq_129_a1 : (List.range 16).all (fun c => kq_129_b (16 + c)) = true := by decide +kernel
theorem kq_129_a2 : (List.range 16).all (fun c => kq_129_b (32 + c)) = true := by decide +kernel
theorem kq_129_a3 : (List.range 16).all (fun c => kq_129_b (48 + c)) = true := by decide +kernel
theorem kq_129_a4 : (List.range 16).all (fun c => kq_129_b (64 + c)) = true := by decide +kernel
theorem kq_129_a5 : (List.range 16).all (fun c => kq_129_b (80 + c)) = true := by decide +kernel
theorem kq_129_a6 : (List.range 16).all (fun c => kq_129_b (96 + c)) = true := by decide +kernel
theorem kq_129_a7 : (List.range 16).all (fun c => kq_129_b (112 + c)) = true := by decide +kernel
theorem kq_129_a8 : (List.range 1).all (fun c => kq_129_b (128 + c)) = true := by decide +kernel
theorem kq_129_all (c : Nat) (h0 : 0 ≤ c) (hc : c < 129) : kq_129_b c = true := by
  by_cases h0 : c < 16
  · exact xk_ran kq_129_a0 (by omega) (by omega)
  by_cases h1 : c < 32
  · exact xk_ran kq_129_a1 (by omega) (by omega)
  by_cases h2 : c < 48
  · exact xk_ran kq_129_a2 (by omega) (by omega)
  by_cases h3 : c < 64
  · exact xk_ran kq_129_a3 (by omega) (by omega)
  by_cases h4 : c < 80
  · exact xk_ran kq_129_a4 (by omega) (by omega)
  by_cases h5 : c < 96
  · exact xk_ran kq_129_a5 (by omega) (by omega)
  by_cases h6 : c < 112
  · exact xk_ran kq_129_a6 (by omega) (by omega)
  by_cases h7 : c < 128
  · exact xk_ran kq_129_a7 (by omega) (by omega)
  exact xk_ran kq_129_a8 (by omega) (by omega)
theorem kq_129_ok {l : Launch} {Φ : Nat → Nat → List Int → Int} (H : kH_0 Φ) (c : Nat) (hc : c < 129) : xk_Cd l Φ kwh (0, 2147483647) cm_5.1 (kq_129 c) := xk_done2 (E := ce_0) (ms := cm_ms) (cts := []) (cod := kco_5) (show xk_all1 ce_0 cm_ms [] kco_5 cm_5.1 kwh [20] 40 (kq_129 c) [] = true from kq_129_all c (Nat.zero_le _) hc) (fun r inp => k0 H r inp) ce_ok0 rfl cm_ok xk_Cts.nil ce_glob kco_5_ok
def kz_129 (c : Nat) : xk_K := ([(0, 0, (c : Int)), (0, 0, 129)], [], some (0, 0, 1), [], (0, 0, []), (0, 0))
def kz_129_b (c : Nat) : Bool := xk_all1 ce_12 cm_ms [] kco_153 cm_153.1 kwh [14] 40 (kz_129 c) []
theorem kz_129_a0 : (List.range 16).all (fun c => kz_129_b (0 + c)) = true := by decide +kernel
theorem kz_129_a1 : (List.range 16).all (fun c => kz_129_b (16 + c)) = true := by decide +kernel
theorem kz_129_a2 : (List.range 16).all (fun c => kz_129_b (32 + c)) = true := by decide +kernel
theorem kz_129_a3 : (List.range 16).all (fun c => kz_129_b (48 + c)) = true := by decide +kernel
theorem kz_129_a4 : (List.range 16).all (fun c => kz_129_b (64 + c)) = true := by decide +kernel
theorem kz_129_a5 : (List.range 16).all (fun c => kz_129_b (80 + c)) = true := by decide +kernel
theorem kz_129_a6 : (List.range 16).all (fun c => kz_129_b (96 + c)) = true := by decide +kernel
theorem kz_129_a7 : (List.range 16).all (fun c => kz_129_b (112 + c)) = true := by decide +kernel
theorem kz_129_a8 : (List.range 1).all (fun c => kz_129_b (128 + c)) = true := by decide +kernel
theorem kz_129_all (c : Nat) (h0 : 0 ≤ c) (hc : c < 129) : kz_129_b c = true := by
  by_cases h0 : c < 16
  · exact xk_ran kz_129_a0 (by omega) (by omega)
  by_cases h1 : c < 32
  · exact xk_ran kz_129_a1 (by omega) (by omega)
  by_cases h2 : c < 48
  · exact xk_ran kz_129_a2 (by omega) (by omega)
  by_cases h3 : c < 64
  · exact xk_ran kz_129_a3 (by omega) (by omega)
  by_cases h4 : c < 80
  · exact xk_ran kz_129_a4 (by omega) (by omega)
  by_cases h5 : c < 96
  · exact xk_ran kz_129_a5 (by omega) (by omega)
  by_cases h6 : c < 112
  · exact xk_ran kz_129_a6 (by omega) (by omega)
  by_cases h7 : c < 128
  · exact xk_ran kz_129_a7 (by omega) (by omega)
  exact xk_ran kz_129_a8 (by omega) (by omega)
theorem kz_129_ok {l : Launch} {Φ : Nat → Nat → List Int → Int} (H : kH_0 Φ) (c : Nat) (hc : c < 129) : xk_Cd l Φ kwh (0, 2147483647) cm_153.1 (kz_129 c) := xk_done2 (E := ce_12) (ms := cm_ms) (cts := []) (cod := kco_153) (show xk_all1 ce_12 cm_ms [] kco_153 cm_153.1 kwh [14] 40 (kz_129 c) [] = true from kz_129_all c (Nat.zero_le _) hc) (fun r inp => k0 H r inp) ce_ok12 rfl cm_ok xk_Cts.nil ce_glob kco_153_ok
