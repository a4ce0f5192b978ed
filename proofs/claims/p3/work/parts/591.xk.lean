/-! ===== the class: reckon, its function ===== -/
def kx_l0 : List Nat := [2149, 2147, 2108, 2113, 2118, 2123, 2128, 2133, 2138, 2144, 2481, 2479, 2440, 2445, 2450, 2455, 2460, 2465, 2470, 2476, 1359, 1357, 1318, 1323, 1328, 1333, 1338, 1343, 1348, 1354, 1889, 1887, 1848, 1853, 1858, 1863, 1868, 1873, 1878, 1884]
def kx_l1 : List Nat := [1359, 1357, 1318, 1323, 1328, 1333, 1338, 1343, 1348, 1354, 1889, 1887, 1848, 1853, 1858, 1863, 1868, 1873, 1878, 1884, 2149, 2147, 2108, 2113, 2118, 2123, 2128, 2133, 2138, 2144, 2481, 2479, 2440, 2445, 2450, 2455, 2460, 2465, 2470, 2476]
def kx_sc : List Nat := [0, 1, 2, 3, 4, 5, 6, 7, 8, 9, 10, 11, 12, 13, 14, 15, 16, 17, 18, 19, 279, 277, 238, 243, 248, 253, 258, 263, 268, 274, 539, 537, 498, 503, 508, 513, 518, 523, 528, 534, 540, 541, 542, 543, 544, 545, 546, 547, 548, 549, 819, 817, 778, 783, 788, 793, 798, 803, 808, 814, 1089, 1087, 1048, 1053, 1058, 1063, 1068, 1073, 1078, 1084]
def kx_oR : List Nat := [103, 203, 307, 407, 511, 611, 715, 815, 919, 1019]
def kx_oD : List Nat := [24, 28, 32, 36, 40, 44, 48, 52, 56, 60]
def kx_oW : List Nat := [39, 79, 119, 159, 199, 239, 279, 319, 359, 399, 439, 479, 519, 559, 599, 639, 679, 719, 759, 799, 839, 879, 919, 959, 999, 1039, 1079, 1119, 1159, 1199, 1239, 1274]
/-- once round the ladder, the limbs as they are -/
def kx_st (Φ : Nat → Nat → List Int → Int) (b : Int) (v : List Int) : List Int := if b = 0 then kx_l0.map (fun r => Φ 11 r v) ++ v.drop 40 else kx_l1.map (fun r => Φ 11 r ((v.drop 20).take 20 ++ v.take 20 ++ v.drop 40)) ++ v.drop 40
def kx_it (Φ : Nat → Nat → List Int → Int) (B : Nat → Int) : Nat → List Int → List Int
  | 0, v => v
  | t + 1, v => kx_it Φ B t (kx_st Φ (kb_bit t (B (t / 8))) v)
def kx_v0 (Φ : Nat → Nat → List Int → Int) (P : List Int) : List Int := [1, 0, 0, 0, 0, 0, 0, 0, 0, 0] ++ [0, 0, 0, 0, 0, 0, 0, 0, 0, 0] ++ kx_oR.map (fun r => Φ 12 r P) ++ [1, 0, 0, 0, 0, 0, 0, 0, 0, 0] ++ kx_oR.map (fun r => Φ 12 r P)
/-- what is done with the ladder's end -/
def kx_end (Φ : Nat → Nat → List Int → Int) (v : List Int) : List Int := kx_oW.map (fun r => Φ 13 r (kx_oD.map (fun r => Φ 10 r (kv_oX.map (fun r => Φ 3 r (v.take 10 ++ (List.range 10).map (fun r => Φ 40 r ((v.drop 10).take 10))))))))
def kx_rk (Φ : Nat → Nat → List Int → Int) (B P : List Int) : List Int := kx_end Φ (kx_it Φ (fun j => B.getD j 0) 255 (kx_v0 Φ P))
def kX (Φ : Nat → Nat → List Int → Int) : Prop := kV Φ ∧ ∀ r inp, Φ 50 r inp = (kx_rk Φ (inp.take 32) (inp.drop 32)).getD r 0
theorem kx_m1 : ∀ t : Nat, t < 255 → xk_sem 0 [(t : Int), -1] = (t : Int) - 1 := by decide +kernel
theorem kx_it_congr {Φ : Nat → Nat → List Int → Int} {B B' : Nat → Int} (h : ∀ j, j < 32 → B j = B' j) : ∀ (t : Nat), t ≤ 255 → ∀ v, kx_it Φ B t v = kx_it Φ B' t v
  | 0, _, v => rfl
  | t + 1, ht, v => by
    unfold kx_it
    rw [h (t / 8) (by omega)]
    exact kx_it_congr h t (by omega) _
def xk_lw2 (lo k : Nat) (v : xk_V) : Bool := decide (v.1 < 2 → v.2.1 = 0 ∨ (lo ≤ v.2.1 ∧ v.2.1 ≤ k))
theorem xk_refl2 {ρ ρ' : Nat → Int} {T : List xk_C} {lo k : Nat} (hT : T.all (fun c => c.2.all (xk_lw2 lo k)) = true) (h : ∀ g, lo ≤ g → g ≤ k → ρ g = ρ' g) : ck_all (fun c d => d.1 = c.1 ∧ ck_all (xk_iz ρ ρ') c.2 d.2) T T := by
  refine ⟨rfl, fun i c d hc hd => ?_⟩
  rw [hc] at hd
  cases hd
  refine ⟨rfl, rfl, fun j v w hv hw => ?_⟩
  rw [hv] at hw
  cases hw
  refine Or.inr ⟨rfl, fun hk => ?_, fun _ => rfl⟩
  have := of_decide_eq_true (List.all_eq_true.mp (List.all_eq_true.mp hT c (List.mem_of_getElem? hc)) v (List.mem_of_getElem? hv)) hk
  unfold xk_ov
  split
  · rfl
  · rename_i h0
    rcases this with z | z
    · exact absurd z h0
    · exact h _ z.1 z.2
theorem xk_lowm {ρ ρ' : Nat → Int} {n a k : Nat} (h : ∀ g, g ≤ n → ρ' g = ρ g) (ha : a + k ≤ n + 1) : (xn a k).map ρ' = (xn a k).map ρ := List.map_congr_left fun g hg => by
  unfold xn at hg
  obtain ⟨i, hi, rfl⟩ := List.mem_map.mp hg
  have := List.mem_range.mp hi
  exact h _ (by omega)
