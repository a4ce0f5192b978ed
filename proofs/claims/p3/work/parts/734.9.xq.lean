/-! ===== what the reference's reckon reckons ===== -/
theorem ku_len1 (Φ : Nat → Nat → List Int → Int) (x : List Int) (t : Nat) (v : List Int) : (ku_it Φ x (t + 1) v).length = 47 := ku_len Φ x t _ (by
  unfold ku_one xk_tf ku_os
  rw [List.length_map]
  split <;> rfl)
/-- the last product -/
theorem ky_t_ok {Φ : Nat → Nat → List Int → Int} (H : kR_41 Φ) {v w : List Int} {x y : Int} (h : xr_L v x) (h' : xr_L w y) : xr_L (ky_oT.map (fun r => Φ 41 r (v ++ w))) (x * y) := by
  obtain ⟨f, rfl⟩ := xn_fn h.1
  obtain ⟨f', rfl⟩ := xn_fn h'.1
  have he : xk_eok Φ kwr (fun g => if g < 17 then f (g - 1) else if g < 33 then f' (g - 17) else Φ 41 (g - 33) ((xn 0 16).map f ++ (xn 0 16).map f')) (33, 1000 + 41, (xn 1 16 ++ xn 17 16).map (fun g => (g, 0))) := by
    unfold xk_eok
    dsimp only
    rw [if_neg (by omega)]
    intro r hr
    show (if 33 + r < 17 then _ else if 33 + r < 33 then _ else Φ 41 (33 + r - 33) _) = _
    rw [if_neg (by omega), if_neg (by omega), Nat.add_sub_cancel_left]
    rfl
  have r := xr_G_L (kr_tim0_0_11_r H (b := 33) (xs := xn 1 16) (ys := xn 17 16) (os := ky_oT.map (fun r => 33 + r)) he (by decide) (by decide +kernel) (by decide +kernel) (by decide) (by decide) (by decide +kernel) (xr_L_G h) (xr_L_G h'))
  exact r
/-- what the reference's reckon reckons -/
theorem ky_rk_ok {Φ : Nat → Nat → List Int → Int} (H : kY Φ) {u : Nat} (hu : u < 4) {B P : List Int} (hP : kn_by P) : ky_rk Φ u B P = kn_ans B P := by
  have H1 := H.1.1.1.1
  have h9 := ku_u9 H1 hu hP
  have h2 := ku_u2 H1 hu hP
  have hz : xr_L (List.replicate 16 0) 0 := ⟨rfl, fun i a ha => by
    have : a = 0 := by
      have := List.mem_of_getElem? ha
      simpa using this
    subst this
    exact ⟨fun _ => ⟨by decide, by decide⟩, fun _ => ⟨by decide, by decide⟩⟩, ⟨0, by decide⟩⟩
  have h1 : xr_L (1 :: List.replicate 15 0) 1 := ⟨rfl, fun i a ha => by
    have : a = 1 ∨ a = 0 := by
      have := List.mem_of_getElem? ha
      simpa using this
    rcases this with rfl | rfl <;> exact ⟨fun _ => ⟨by decide, by decide⟩, fun _ => ⟨by decide, by decide⟩⟩, ⟨0, by decide⟩⟩
  have hS : kr_S (ky_v0 Φ u P) (kn_num P) (1, 0, kn_num P, 1) := by
    unfold ky_v0
    obtain ⟨F, hF⟩ := xn_fn (n := 16) (v := ky_oU.map (fun r => Φ (22 + 2 * u) r P)) rfl
    obtain ⟨G, hG⟩ := xn_fn (n := 16) (v := ky_oU.map (fun r => Φ (23 + 2 * u) r P)) rfl
    rw [hF] at h9 ⊢
    rw [hG] at h2 ⊢
    exact ⟨rfl, h1, hz, h2, h1, h9⟩
  have hI := ky_it_ok H1 (B := fun j => B.getD j 0) 255 hS
  unfold ky_rk ky_end kn_ans kn_res
  have hq : xl_it (kn_num P) (fun j => B.getD j 0) 255 (1, 0, kn_num P, 1) = kn_q B P := rfl
  rw [hq] at hI
  generalize ky_it Φ (fun j => B.getD j 0) 255 (ky_v0 Φ u P) = v at hI ⊢
  obtain ⟨hl, ha, hb, -, -, -⟩ := hI
  have hb16 : ((v.drop 16).take 16).take 16 = (v.drop 16).take 16 := by rw [List.take_take]; rfl
  have hi := ku_it_ok H1 hb 254 (v := (v.drop 16).take 16) (by rw [hb16]; exact hb)
  have hlen : (ku_it Φ ((v.drop 16).take 16) 254 ((v.drop 16).take 16)).length = 47 := ku_len1 Φ _ 253 _
  have hinv : (List.range 16).map (fun r => Φ 60 r ((v.drop 16).take 16)) = (ku_it Φ ((v.drop 16).take 16) 254 ((v.drop 16).take 16)).take 16 := by
    apply List.ext_getElem?
    intro i
    by_cases hi' : i < 16
    · rw [List.getElem?_map, List.getElem?_range hi', List.getElem?_take_of_lt hi', kx_get hlen (by omega)]
      show some (Φ 60 i _) = _
      rw [H.1.1.2]
      rfl
    · rw [List.getElem?_eq_none (by simp; omega), List.getElem?_eq_none (by simp; omega)]
  rw [hinv]
  have ht := ky_t_ok H1 ha hi
  have hp := kp_ok (Φ := Φ) H1.1.1.1.1.1.1.1.1.1.1.1.1.1.1.1.1.1.1.1.1.1.1.1.1.1.1.1.1.1.1.1.1.1.1.1.1.1.1.1.1 ht
  rw [← hp]
  apply List.ext_getElem?
  intro i
  have hpl : (kp_fn Φ (ky_oT.map (fun r => Φ 41 r (v.take 16 ++ (ku_it Φ ((v.drop 16).take 16) 254 ((v.drop 16).take 16)).take 16)))).length = 32 := by
    rw [hp]
    rfl
  by_cases hi' : i < 32
  · rw [List.getElem?_map, List.getElem?_range hi', kx_get hpl hi']
    show some (Φ 61 i _) = _
    rw [H.1.2]
  · rw [List.getElem?_eq_none (by simp; omega), List.getElem?_eq_none (by omega)]
