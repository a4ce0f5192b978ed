/-! ===== the class's ladder and inverse, as numbers mod p ===== -/
def xl_L (k : Int) (v : List Int) (x : Int) : Prop := v.length = 10 ∧ (∀ (i : Nat) (a : Int), v[i]? = some a → (i % 2 = 0 → -k ≤ a ∧ a ≤ k) ∧ (i % 2 = 1 → -(k / 2) ≤ a ∧ a ≤ k / 2)) ∧ xl_cg (xc_val v xc_E10) x
theorem xl_L_G {ρ : Nat → Int} {k : Int} {ns : List Nat} {x : Int} (h : xl_L k (ns.map ρ) x) : xl_G ρ k ns x := by
  refine ⟨by have := h.1; rwa [List.length_map] at this, fun i g hg => h.2.1 i (ρ g) (by rw [List.getElem?_map, hg]; rfl), h.2.2⟩
theorem xl_G_L {ρ : Nat → Int} {k : Int} {ns : List Nat} {x : Int} (h : xl_G ρ k ns x) : xl_L k (ns.map ρ) x := by
  refine ⟨by rw [List.length_map]; exact h.1, fun i a ha => ?_, h.2.2⟩
  rw [List.getElem?_map] at ha
  cases hg : ns[i]? with
  | none => rw [hg] at ha; cases ha
  | some g => rw [hg] at ha; cases ha; exact h.2.1 i g hg
theorem xl_L.le {k k' : Int} {v : List Int} {x : Int} (h : xl_L k v x) (hk : k ≤ k') : xl_L k' v x := by
  refine ⟨h.1, fun i a ha => ?_, h.2.2⟩
  obtain ⟨p, q⟩ := h.2.1 i a ha
  exact ⟨fun hi => by have := p hi; omega, fun hi => by have := q hi; omega⟩
theorem xl_L.cg {k : Int} {v : List Int} {x y : Int} (h : xl_L k v x) (e : xl_cg x y) : xl_L k v y := ⟨h.1, h.2.1, h.2.2.trans e⟩
theorem xn_fn {n : Nat} {v : List Int} (h : v.length = n) : ∃ f : Nat → Int, v = (xn 0 n).map f := by
  refine ⟨fun i => v.getD i 0, ?_⟩
  apply List.ext_getElem?
  intro i
  by_cases hi : i < n
  · unfold xn
    rw [List.getElem?_map, List.getElem?_map, List.getElem?_range hi, List.getElem?_eq_getElem (by omega)]
    show _ = some (v.getD (0 + i) 0)
    rw [Nat.zero_add, List.getD_eq_getElem?_getD, List.getElem?_eq_getElem (by omega)]
    rfl
  · rw [List.getElem?_eq_none (by omega), List.getElem?_eq_none (by unfold xn; simp; omega)]
/-- the ladder's numbers, the places changed where the bit is 1 -/
def xl_lad (u b : Int) (q : Int × Int × Int × Int) : Int × Int × Int × Int := if b = 0 then xl_step u q.1 q.2.1 q.2.2.1 q.2.2.2 else ((xl_step u q.2.2.1 q.2.2.2 q.1 q.2.1).2.2.1, (xl_step u q.2.2.1 q.2.2.2 q.1 q.2.1).2.2.2, (xl_step u q.2.2.1 q.2.2.2 q.1 q.2.1).1, (xl_step u q.2.2.1 q.2.2.2 q.1 q.2.1).2.1)
def xl_it (u : Int) (B : Nat → Int) : Nat → Int × Int × Int × Int → Int × Int × Int × Int
  | 0, q => q
  | t + 1, q => xl_it u B t (xl_lad u (kb_bit t (B (t / 8))) q)
def xl_o1 (x : Int) (t : Nat) (v : Int) : Int := if t = 4 ∨ t = 2 then v * v else v * v * x
def xl_inv (x : Int) : Nat → Int → Int
  | 0, v => v
  | t + 1, v => xl_inv x t (xl_o1 x t v)
def kx_S (v : List Int) (u : Int) (q : Int × Int × Int × Int) : Prop := v.length = 50 ∧ xl_L 67108864 (v.take 10) q.1 ∧ xl_L 67108864 ((v.drop 10).take 10) q.2.1 ∧ xl_L 67108864 ((v.drop 20).take 10) q.2.2.1 ∧ xl_L 67108864 ((v.drop 30).take 10) q.2.2.2 ∧ xl_L 67108864 (v.drop 40) u
section XL
variable {Φ : Nat → Nat → List Int → Int}
theorem kx_step (H : kC_13 Φ) {w : List Int} {u a b c d : Int} (hl : w.length = 50) (ha : xl_L 67108864 (w.take 10) a) (hb : xl_L 67108864 ((w.drop 10).take 10) b) (hc : xl_L 67108864 ((w.drop 20).take 10) c) (hd : xl_L 67108864 ((w.drop 30).take 10) d) (hu : xl_L 67108864 (w.drop 40) u) :
    xl_L 67108864 ((kx_l0.take 10).map (fun r => Φ 11 r w)) (xl_step u a b c d).1 ∧ xl_L 67108864 (((kx_l0.drop 10).take 10).map (fun r => Φ 11 r w)) (xl_step u a b c d).2.1 ∧ xl_L 67108864 (((kx_l0.drop 20).take 10).map (fun r => Φ 11 r w)) (xl_step u a b c d).2.2.1 ∧ xl_L 67108864 ((kx_l0.drop 30).map (fun r => Φ 11 r w)) (xl_step u a b c d).2.2.2 := by
  obtain ⟨f, rfl⟩ := xn_fn hl
  obtain ⟨t1, t2⟩ := xk_tv_ok (Φ := Φ) (wd := kwe) (n := 120) (ag := xn 1 50) (tb := kc_step_g) (by decide +kernel) ((xn 0 50).map f)
  generalize hν : xk_tv Φ kwe kc_step_g (xn 1 50) ((xn 0 50).map f) = ν at t1 t2
  have hΦ : (fun r => Φ 11 r ((xn 0 50).map f)) = fun r => ν (121 + r) := by
    funext r
    rw [H.1.1.2, ← hν]
    rfl
  have hn : ∀ {k j : Nat}, k + j ≤ 50 → (xn (1 + k) j).map ν = (((xn 0 50).map f).drop k).take j := fun {k j} h => xl_nu (N := 50) (n := 120) t1 rfl (by omega) h
  have n1 : ([1, 2, 3, 4, 5, 6, 7, 8, 9, 10] : List Nat).map ν = ((xn 0 50).map f).take 10 := hn (k := 0) (j := 10) (by omega)
  have n2 : ([11, 12, 13, 14, 15, 16, 17, 18, 19, 20] : List Nat).map ν = (((xn 0 50).map f).drop 10).take 10 := hn (k := 10) (j := 10) (by omega)
  have n3 : ([21, 22, 23, 24, 25, 26, 27, 28, 29, 30] : List Nat).map ν = (((xn 0 50).map f).drop 20).take 10 := hn (k := 20) (j := 10) (by omega)
  have n4 : ([31, 32, 33, 34, 35, 36, 37, 38, 39, 40] : List Nat).map ν = (((xn 0 50).map f).drop 30).take 10 := hn (k := 30) (j := 10) (by omega)
  have n5 : ([41, 42, 43, 44, 45, 46, 47, 48, 49, 50] : List Nat).map ν = ((xn 0 50).map f).drop 40 := hn (k := 40) (j := 10) (by omega)
  rw [← n1] at ha
  rw [← n2] at hb
  rw [← n3] at hc
  rw [← n4] at hd
  rw [← n5] at hu
  obtain ⟨g1, g2, g3, g4⟩ := kl_step H t2 (xl_L_G ha) (xl_L_G hb) (xl_L_G hc) (xl_L_G hd) (xl_L_G hu)
  rw [hΦ]
  have l1 := xl_G_L g1
  have l2 := xl_G_L g2
  have l3 := xl_G_L g3
  have l4 := xl_G_L g4
  exact ⟨l1, l2, l3, l4⟩
theorem kx_st_ok (H : kC_13 Φ) {v : List Int} {u b : Int} {q : Int × Int × Int × Int} (h : kx_S v u q) : kx_S (kx_st Φ b v) u (xl_lad u b q) := by
  obtain ⟨hl, h1, h2, h3, h4, h5⟩ := h
  obtain ⟨f, rfl⟩ := xn_fn hl
  unfold kx_st xl_lad
  split
  · obtain ⟨g1, g2, g3, g4⟩ := kx_step H hl h1 h2 h3 h4 h5
    generalize (fun r => Φ 11 r ((xn 0 50).map f)) = F at g1 g2 g3 g4 ⊢
    exact ⟨rfl, g1, g2, g3, g4, h5⟩
  · obtain ⟨g1, g2, g3, g4⟩ := kx_step H (w := (((xn 0 50).map f).drop 20).take 20 ++ ((xn 0 50).map f).take 20 ++ ((xn 0 50).map f).drop 40) rfl h3 h4 h1 h2 h5
    generalize (fun r => Φ 11 r ((((xn 0 50).map f).drop 20).take 20 ++ ((xn 0 50).map f).take 20 ++ ((xn 0 50).map f).drop 40)) = F at g1 g2 g3 g4 ⊢
    exact ⟨rfl, g3, g4, g1, g2, h5⟩
theorem kx_it_ok (H : kC_13 Φ) {u : Int} {B : Nat → Int} : ∀ (t : Nat) {v : List Int} {q : Int × Int × Int × Int}, kx_S v u q → kx_S (kx_it Φ B t v) u (xl_it u B t q)
  | 0, v, q, h => h
  | t + 1, v, q, h => kx_it_ok H t (kx_st_ok H h)
/-- a square, a product -/
theorem kv_sq (H : kC_13 Φ) {v : List Int} {x : Int} (h : xl_L 134217728 v x) : xl_L 34000000 (kv_oA.map (fun r => Φ 5 r v)) (x * x) := by
  obtain ⟨f, rfl⟩ := xn_fn h.1
  have he : xk_eok Φ kwe (fun g => if g < 11 then f (g - 1) else Φ 5 (g - 11) ((xn 0 10).map f)) (11, 1000 + 5, ([1, 2, 3, 4, 5, 6, 7, 8, 9, 10] : List Nat).map (fun g => (g, 0))) := by
    unfold xk_eok
    dsimp only
    rw [if_neg (by omega)]
    intro r hr
    show (if 11 + r < 11 then _ else Φ 5 (11 + r - 11) _) = _
    rw [if_neg (by omega), Nat.add_sub_cancel_left]
    rfl
  have r := xl_G_L (kl_mulA H (b := 11) (xs := [1, 2, 3, 4, 5, 6, 7, 8, 9, 10]) (os := kv_oA.map (fun r => 11 + r)) he (by decide +kernel) (by decide) (xl_L_G h))
  exact r
theorem kv_ml (H : kC_13 Φ) {v w : List Int} {x y : Int} (h : xl_L 134217728 v x) (h' : xl_L 134217728 w y) : xl_L 34000000 (kv_oX.map (fun r => Φ 3 r (v ++ w))) (x * y) := by
  obtain ⟨f, rfl⟩ := xn_fn h.1
  obtain ⟨f', rfl⟩ := xn_fn h'.1
  have he : xk_eok Φ kwe (fun g => if g < 11 then f (g - 1) else if g < 21 then f' (g - 11) else Φ 3 (g - 21) ((xn 0 10).map f ++ (xn 0 10).map f')) (21, 1000 + 3, ([1, 2, 3, 4, 5, 6, 7, 8, 9, 10] ++ [11, 12, 13, 14, 15, 16, 17, 18, 19, 20] : List Nat).map (fun g => (g, 0))) := by
    unfold xk_eok
    dsimp only
    rw [if_neg (by omega)]
    intro r hr
    show (if 21 + r < 11 then _ else if 21 + r < 21 then _ else Φ 3 (21 + r - 21) _) = _
    rw [if_neg (by omega), if_neg (by omega), Nat.add_sub_cancel_left]
    rfl
  have r := xl_G_L (kl_mulIX H (b := 21) (xs := [1, 2, 3, 4, 5, 6, 7, 8, 9, 10]) (ys := [11, 12, 13, 14, 15, 16, 17, 18, 19, 20]) (os := kv_oX.map (fun r => 21 + r)) he (by decide +kernel) (by decide) (xl_L_G h) (xl_L_G h'))
  exact r
theorem kv_it_ok (H : kC_13 Φ) {w : List Int} {x : Int} (hw : xl_L 134217728 w x) : ∀ (t : Nat) {v : List Int} {y : Int}, xl_L 134217728 v y → xl_L 134217728 (kv_it Φ w t v) (xl_inv x t y)
  | 0, v, y, h => h
  | t + 1, v, y, h => by
    refine kv_it_ok H hw t ?_
    unfold kv_one xl_o1
    split
    · exact (kv_sq H h).le (by decide)
    · exact (kv_ml H ((kv_sq H h).le (by decide)) hw).le (by decide)
end XL
