/-! ===== the class: invert ===== -/
def kv_oA : List Nat := [259, 257, 218, 223, 228, 233, 238, 243, 248, 254]
def kv_oX : List Nat := [259, 257, 218, 223, 228, 233, 238, 243, 248, 254]
def kv_cts : List xk_Q := (44, (99, 0), kc_mulA) :: (44, (99, 0), kc_mulIX) :: []
theorem kv_cts_ok {l : Launch} {Φ : Nat → Nat → List Int → Int} (H : kC_13 Φ) : xk_Cts l Φ kwf (0, 2147483647) cm_ms kv_cts := xk_Cts.one cm_g44 ((kc_mulA_ok H.1.1.1.1.1.1.1.1).wd rfl) (xk_Cts.one cm_g44 ((kc_mulIX_ok H.1.1.1.1.1.1.1.1.1.1).wd rfl) xk_Cts.nil)
def kv_T : List xk_C := [((1, 1), xl 1 10), ((1, 1), xl 11 10)]
def kv_ls (t : Int) : List (Nat × xk_V) := [(2, (0, (0, t))), (0, (2, (0, 0))), (1, (2, (1, 0)))]
def kv_e1 : xk_E := (21, 1005, (xn 11 10).map (fun g => (g, 0)))
def kv_e2 : xk_E := (281, 1003, kv_oA.map (fun r => (21 + r, 0)) ++ (xn 1 10).map (fun g => (g, 0)))
def kv_tb (t : Nat) : List xk_E := if t = 4 ∨ t = 2 then [kv_e1] else [kv_e1, kv_e2]
def kv_rn (t : Nat) : Nat → xk_O := fun g => if g ≤ 10 then (g, 0) else (if t = 4 ∨ t = 2 then 21 + kv_oA.getD (g - 11) 0 else 281 + kv_oX.getD (g - 11) 0, 0)
def kv_b (t : Nat) : Bool := xk_sg ce_2 cm_ms kv_cts kco_42 cm_42.1 1 94 kwf [13] 30 20 (13, kv_ls (t : Int), [], kv_T, [], 21) (kv_tb t) (kv_rn t) 13 (kv_ls ((t : Int) - 1), [], kv_T)
theorem kv_a0 : (List.range 16).all (fun c => kv_b (0 + c)) = true := by decide +kernel
theorem kv_a1 : (List.range 16).all (fun c => kv_b (16 + c)) = true := by decide +kernel
theorem kv_a2 : (List.range 16).all (fun c => kv_b (32 + c)) = true := by decide +kernel
theorem kv_a3 : (List.range 16).all (fun c => kv_b (48 + c)) = true := by decide +kernel
theorem kv_a4 : (List.range 16).all (fun c => kv_b (64 + c)) = true := by decide +kernel
theorem kv_a5 : (List.range 16).all (fun c => kv_b (80 + c)) = true := by decide +kernel
theorem kv_a6 : (List.range 16).all (fun c => kv_b (96 + c)) = true := by decide +kernel
theorem kv_a7 : (List.range 16).all (fun c => kv_b (112 + c)) = true := by decide +kernel
theorem kv_a8 : (List.range 16).all (fun c => kv_b (128 + c)) = true := by decide +kernel
theorem kv_a9 : (List.range 16).all (fun c => kv_b (144 + c)) = true := by decide +kernel
theorem kv_a10 : (List.range 16).all (fun c => kv_b (160 + c)) = true := by decide +kernel
theorem kv_a11 : (List.range 16).all (fun c => kv_b (176 + c)) = true := by decide +kernel
theorem kv_a12 : (List.range 16).all (fun c => kv_b (192 + c)) = true := by decide +kernel
theorem kv_a13 : (List.range 16).all (fun c => kv_b (208 + c)) = true := by decide +kernel
theorem kv_a14 : (List.range 16).all (fun c => kv_b (224 + c)) = true := by decide +kernel
theorem kv_a15 : (List.range 14).all (fun c => kv_b (240 + c)) = true := by decide +kernel
theorem kv_all (c : Nat) (h0 : 0 ≤ c) (hc : c < 254) : kv_b c = true := by
  by_cases h0 : c < 16
  · exact xk_ran kv_a0 (by omega) (by omega)
  by_cases h1 : c < 32
  · exact xk_ran kv_a1 (by omega) (by omega)
  by_cases h2 : c < 48
  · exact xk_ran kv_a2 (by omega) (by omega)
  by_cases h3 : c < 64
  · exact xk_ran kv_a3 (by omega) (by omega)
  by_cases h4 : c < 80
  · exact xk_ran kv_a4 (by omega) (by omega)
  by_cases h5 : c < 96
  · exact xk_ran kv_a5 (by omega) (by omega)
  by_cases h6 : c < 112
  · exact xk_ran kv_a6 (by omega) (by omega)
  by_cases h7 : c < 128
  · exact xk_ran kv_a7 (by omega) (by omega)
  by_cases h8 : c < 144
  · exact xk_ran kv_a8 (by omega) (by omega)
  by_cases h9 : c < 160
  · exact xk_ran kv_a9 (by omega) (by omega)
  by_cases h10 : c < 176
  · exact xk_ran kv_a10 (by omega) (by omega)
  by_cases h11 : c < 192
  · exact xk_ran kv_a11 (by omega) (by omega)
  by_cases h12 : c < 208
  · exact xk_ran kv_a12 (by omega) (by omega)
  by_cases h13 : c < 224
  · exact xk_ran kv_a13 (by omega) (by omega)
  by_cases h14 : c < 240
  · exact xk_ran kv_a14 (by omega) (by omega)
  exact xk_ran kv_a15 (by omega) (by omega)
theorem kv_ent : xk_sg ce_2 cm_ms kv_cts kco_42 cm_42.1 1 94 kwf [13] 30 20 (0, [(0, (2, (0, 0))), (1, (2, (1, 0)))], [], kv_T, [], 21) [] (fun g => if g ≤ 10 then (g, 0) else (g - 10, 0)) 13 (kv_ls 253, [], kv_T) = true := by decide +kernel
theorem kv_ext : xk_sg ce_2 cm_ms kv_cts kco_42 cm_42.1 1 94 kwf [45] 30 20 (13, kv_ls (-1), [], kv_T, [], 21) [] (fun g => (g, 0)) 45 ([], [], kv_T) = true := by decide +kernel
/-- once round: the square, and but for two times the number itself -/
def kv_one (Φ : Nat → Nat → List Int → Int) (x : List Int) (t : Nat) (v : List Int) : List Int := if t = 4 ∨ t = 2 then kv_oA.map (fun r => Φ 5 r v) else kv_oX.map (fun r => Φ 3 r (kv_oA.map (fun r => Φ 5 r v) ++ x))
def kv_it (Φ : Nat → Nat → List Int → Int) (x : List Int) : Nat → List Int → List Int
  | 0, v => v
  | t + 1, v => kv_it Φ x t (kv_one Φ x t v)
section KV
variable {p : Program} {l : Launch} {e : Env} {R : Room} {s : State} {m : MethodId} {args : Array Value} {below : List Frame} {meth : Method} {c : Code} {Q : State → Prop}
variable {D : va_G} {AC : Nat → ClassId} {S : Nat → Nat} {θ : Nat → Value} {L : Heap} {ρ : Nat → Int} {N : List Nat} {H0 : Heap} {Φ : Nat → Nat → List Int → Int}
theorem kv_loop (H : kC_13 Φ) (hy : xk_Hy p l e R s m meth c cm_42.1 1 94 ce_2 cm_ms [] Φ kwf (0, 2147483647) D AC S L H0 kco_42) : ∀ (t : Nat), t ≤ 254 → ∀ ρ : Nat → Int, (∀ ρ' : Nat → Int, (xn 1 10).map ρ' = (xn 1 10).map ρ → (xn 11 10).map ρ' = kv_it Φ ((xn 1 10).map ρ) t ((xn 11 10).map ρ) → xk_W p l e R s m args below meth c Q D AC S θ L cm_42.1.2.2.1 ρ' N H0 13 (kv_ls (-1), [], kv_T)) → xk_W p l e R s m args below meth c Q D AC S θ L cm_42.1.2.2.1 ρ N H0 13 (kv_ls ((t : Int) - 1), [], kv_T)
  | 0, _, ρ, k => k ρ rfl rfl
  | t + 1, ht, ρ, k => by
    have e0 : (((t + 1 : Nat) : Int) - 1) = (t : Int) := by omega
    rw [e0]
    have hb := kv_all t (Nat.zero_le _) (by omega)
    unfold kv_b at hb
    refine xw_sg (hy.ct (kv_cts_ok H)) hb fun ρ' hρ ht' => ?_
    have lowx : (xn 1 10).map ρ' = (xn 1 10).map ρ := List.map_congr_left fun g hg => by
      unfold xn at hg
      obtain ⟨i, hi, rfl⟩ := List.mem_map.mp hg
      have := List.mem_range.mp hi
      exact hρ _ (by omega)
    have lowv : (xn 11 10).map ρ' = (xn 11 10).map ρ := List.map_congr_left fun g hg => by
      unfold xn at hg
      obtain ⟨i, hi, rfl⟩ := List.mem_map.mp hg
      have := List.mem_range.mp hi
      exact hρ _ (by omega)
    have n1 : (xn 1 10).map (xk_rno (kv_rn t) ρ') = (xn 1 10).map ρ := by rw [← lowx]; rfl
    have c1 : kv_oA.map (fun r => ρ' (21 + r)) = kv_oA.map (fun r => Φ 5 r ((xn 11 10).map ρ)) := by
      have he : xk_eok Φ kwf ρ' (21, 1000 + 5, (xn 11 10).map (fun g => (g, 0))) := ht' _ (by
        unfold kv_tb
        split
        · exact List.mem_cons_self
        · exact List.mem_cons_self)
      have h := xk_cv he kv_oA (by decide +kernel)
      have ea : ((xn 11 10).map (fun g => ((g, 0) : xk_O))).map (xk_ov ρ') = (xn 11 10).map ρ := by rw [← lowv]; rfl
      rw [ea] at h
      exact h
    have n2 : (xn 11 10).map (xk_rno (kv_rn t) ρ') = kv_one Φ ((xn 1 10).map ρ) t ((xn 11 10).map ρ) := by
      unfold kv_one
      by_cases h42 : t = 4 ∨ t = 2
      · rw [if_pos h42, ← c1]
        have er : kv_rn t = fun g => if g ≤ 10 then (g, 0) else (21 + kv_oA.getD (g - 11) 0, 0) := by
          unfold kv_rn
          funext g
          rw [if_pos h42]
        rw [er]
        rfl
      · rw [if_neg h42]
        have er : kv_rn t = fun g => if g ≤ 10 then (g, 0) else (281 + kv_oX.getD (g - 11) 0, 0) := by
          unfold kv_rn
          funext g
          rw [if_neg h42]
        have he : xk_eok Φ kwf ρ' (281, 1000 + 3, kv_oA.map (fun r => (21 + r, 0)) ++ (xn 1 10).map (fun g => (g, 0))) := ht' _ (by
          unfold kv_tb
          rw [if_neg h42]
          exact List.mem_cons_of_mem _ List.mem_cons_self)
        have h := xk_cv he kv_oX (by decide +kernel)
        have ea : (kv_oA.map (fun r => ((21 + r, 0) : xk_O)) ++ (xn 1 10).map (fun g => ((g, 0) : xk_O))).map (xk_ov ρ') = kv_oA.map (fun r => Φ 5 r ((xn 11 10).map ρ)) ++ (xn 1 10).map ρ := by
          rw [← c1, ← lowx]
          rfl
        rw [ea] at h
        rw [← h, er]
        rfl
    refine kv_loop H hy t (by omega) (xk_rno (kv_rn t) ρ') fun ρ'' a b => k ρ'' (a.trans n1) ?_
    rw [b, n1, n2]
    rfl
end KV
/-- invert's function: ten limbs of ten -/
def kv_fn (Φ : Nat → Nat → List Int → Int) (v : List Int) : List Int := kv_it Φ v 254 v
def kV (Φ : Nat → Nat → List Int → Int) : Prop := kI Φ ∧ ∀ r inp, Φ 40 r inp = (kv_fn Φ inp).getD r 0
def kc_inv : xk_K := ([(2, 0, 0), (2, 1, 0)], kv_T, none, [((1, 1), xl 1 10), ((1, 1), xl 21 10)], (40, 20, xn 1 10), (1, 94))
theorem kv_len (Φ : Nat → Nat → List Int → Int) (x : List Int) : ∀ (t : Nat) (v : List Int), v.length = 10 → (kv_it Φ x t v).length = 10
  | 0, v, h => h
  | t + 1, v, h => kv_len Φ x t _ (by unfold kv_one; split <;> (rw [List.length_map]; rfl))
theorem xk_izl {ρ ρ' : Nat → Int} {a b n : Nat} (h : (xn a n).map ρ = (xn b n).map ρ') (ha : 0 < a) (hb : 0 < b) : ck_all (xk_iz ρ ρ') (xl a n) (xl b n) := by
  unfold xl
  refine ⟨by simp, fun i v w hv hw => Or.inr ?_⟩
  have hi : i < n := by
    have := (List.getElem?_eq_some_iff.mp hv).1
    simpa using this
  rw [List.getElem?_map, List.getElem?_range hi] at hv hw
  have hv : some (1, (a + i, 0)) = some v := hv
  have hw : some (1, (b + i, 0)) = some w := hw
  cases hv
  cases hw
  refine ⟨rfl, fun _ => ?_, fun h => by dsimp only at h; omega⟩
  have := congrArg (fun l : List Int => l[i]?) h
  unfold xn at this
  rw [List.getElem?_map, List.getElem?_map, List.getElem?_map, List.getElem?_map, List.getElem?_range hi] at this
  have := Option.some.inj this
  unfold xk_ov
  dsimp only
  rw [if_neg (by omega), if_neg (by omega)]
  exact this
theorem kc_inv_ok {l : Launch} {Φ : Nat → Nat → List Int → Int} (H : kV Φ) : xk_Cd l Φ kwf (0, 2147483647) cm_42.1 kc_inv := by
  refine xk_okw (E := ce_2) (ms := cm_ms) (cod := kco_42) (by decide) (by decide) (by decide +kernel) (by decide) (by decide +kernel) ce_ok2 rfl cm_ok ce_glob kco_42_ok ?_
  intro p e R s m args below meth c D AC S θ L ρ0 N hy
  refine xw_sg (ρ := ρ0) (hy.ct (kv_cts_ok H.1.1)) kv_ent fun ρ1 h1 _ => ?_
  have e253 : (253 : Int) = ((254 : Nat) : Int) - 1 := rfl
  rw [e253]
  refine kv_loop H.1.1 hy 254 (by omega) _ fun ρ2 h2 h3 => ?_
  refine xw_sg (hy.ct (kv_cts_ok H.1.1)) kv_ext fun ρ3 h4 _ => ?_
  have low : ∀ {a : Nat}, a + 9 ≤ 20 → (xn a 10).map ρ3 = (xn a 10).map ρ2 := fun {a} ha => List.map_congr_left fun g hg => by
    unfold xn at hg
    obtain ⟨i, hi, rfl⟩ := List.mem_map.mp hg
    have := List.mem_range.mp hi
    exact h4 _ (by omega)
  have z1 : (xn 1 10).map (xk_rno (fun g => if g ≤ 10 then (g, 0) else (g - 10, 0)) ρ1) = (xn 1 10).map ρ0 := by
    have : (xn 1 10).map ρ1 = (xn 1 10).map ρ0 := List.map_congr_left fun g hg => by
      unfold xn at hg
      obtain ⟨i, hi, rfl⟩ := List.mem_map.mp hg
      have := List.mem_range.mp hi
      exact h1 _ (by omega)
    rw [← this]
    rfl
  have z2 : (xn 11 10).map (xk_rno (fun g => if g ≤ 10 then (g, 0) else (g - 10, 0)) ρ1) = (xn 1 10).map (xk_rno (fun g => if g ≤ 10 then (g, 0) else (g - 10, 0)) ρ1) := rfl
  rw [z2, z1] at h3
  rw [z1] at h2
  have f1 : (xn 1 10).map (xk_rno (fun g => (g, 0)) ρ3) = (xn 1 10).map ρ0 := by rw [← h2, ← low (by omega)]; rfl
  have f2 : (xn 11 10).map (xk_rno (fun g => (g, 0)) ρ3) = kv_fn Φ ((xn 1 10).map ρ0) := by
    have : (xn 11 10).map (xk_rno (fun g => (g, 0)) ρ3) = (xn 11 10).map ρ3 := rfl
    rw [this, low (by omega), h3]
    rfl
  have r1 : (xn 1 10).map (xk_rho Φ (40, 20, xn 1 10) ρ0) = (xn 1 10).map ρ0 := rfl
  have r2 : (xn 21 10).map (xk_rho Φ (40, 20, xn 1 10) ρ0) = kv_fn Φ ((xn 1 10).map ρ0) := by
    have hl : (kv_fn Φ ((xn 1 10).map ρ0)).length = 10 := kv_len Φ _ 254 _ rfl
    have : (xn 21 10).map (xk_rho Φ (40, 20, xn 1 10) ρ0) = (List.range 10).map (fun r => Φ 40 r ((xn 1 10).map ρ0)) := rfl
    rw [this]
    apply List.ext_getElem?
    intro i
    by_cases hi : i < 10
    · rw [List.getElem?_map, List.getElem?_range hi, List.getElem?_eq_getElem (by omega)]
      show some (Φ 40 i _) = _
      rw [H.2, List.getD_eq_getElem?_getD, List.getElem?_eq_getElem (by omega)]
      rfl
    · rw [List.getElem?_eq_none (by simp; omega), List.getElem?_eq_none (by omega)]
  exact xw_fin (ls := []) hy rfl rfl (ck_all.cons ⟨rfl, xk_izl (f1.trans r1.symm) (by omega) (by omega)⟩ (ck_all.cons ⟨rfl, xk_izl (f2.trans r2.symm) (by omega) (by omega)⟩ ck_all.nil))
