/-! ===== the class: a key is read, brought to 0 .. p - 1, written ===== -/
theorem kx_get {n i : Nat} {v : List Int} (h : v.length = n) (hi : i < n) : v[i]? = some (v.getD i 0) := by
  rw [List.getD_eq_getElem?_getD, List.getElem?_eq_getElem (by omega)]
  rfl
/-- reading -/
def kx_rin : List (Nat × Int × Int) := (List.range 32).map (fun i => (1 + i, 0, 255))
def kx_rout : List (Nat × Int × Int) := (List.range 10).map (fun i => (43 + kx_oR.getD i 0, 0, if i % 2 = 0 then 67108863 else 33554431))
theorem kx_rck : xc_ck kc_read_g kx_rin kx_rout xc_E10 xc_p (some (xa_lin ((List.range 255).map (fun i => 44 + 4 * i)) (List.range 255))) = true := by decide +kernel
theorem kx_rf7 : kc_read_g.filter (fun e => e.2.1 == 7) = (List.range 255).map (fun i => (43 + 4 * i, 7, [(1 + i / 8, 0), (0, ((i % 8 : Nat) : Int))])) := by decide +kernel
theorem kx_rf3 : kc_read_g.filter (fun e => e.2.1 == 3) = (List.range 255).map (fun i => (44 + 4 * i, 3, [(43 + 4 * i, 0), (0, 1)])) := by decide +kernel
section XM
variable {Φ : Nat → Nat → List Int → Int}
theorem kx_read (H : kC_13 Φ) {P : List Int} (hP : kn_by P) : xl_L 67108864 (kx_oR.map (fun r => Φ 12 r P)) (kn_num P) := by
  obtain ⟨t1, t2⟩ := xk_tv_ok (Φ := Φ) (wd := kwe) (n := 42) (ag := xn 1 32) (tb := kc_read_g) (by decide +kernel) P
  generalize hν : xk_tv Φ kwe kc_read_g (xn 1 32) P = ν at t1 t2
  have hΦ : (fun r => Φ 12 r P) = fun r => ν (43 + r) := by
    funext r
    rw [H.1.2, ← hν]
    rfl
  have hin : ∀ i, i < 32 → ν (1 + i) = P.getD i 0 := fun i hi => by rw [t1 _ (by omega), xl_pos hP.1 hi]
  obtain ⟨w, w1, w2, w3⟩ := xc_ck_ok kx_rck t2 (fun q hq => by
    unfold kx_rin at hq
    obtain ⟨i, hi, rfl⟩ := List.mem_map.mp hq
    rw [hin i (List.mem_range.mp hi)]
    exact hP.get i)
  have w1 := Option.some.inj w1
  subst w1
  rw [xa_lin_ok ν (by
    intro g hg
    obtain ⟨i, _, rfl⟩ := List.mem_map.mp hg
    omega)] at w2
  have hb : ((List.range 255).map (fun i => 44 + 4 * i)).map ν = (List.range 255).map (fun i => kb_x i (P.getD (i / 8) 0)) := by
    rw [List.map_map]
    refine List.map_congr_left fun i hi => ?_
    have hi := List.mem_range.mp hi
    have m7 : (43 + 4 * i, 7, [(1 + i / 8, 0), (0, ((i % 8 : Nat) : Int))]) ∈ kc_read_g := by
      have : (43 + 4 * i, 7, [(1 + i / 8, 0), (0, ((i % 8 : Nat) : Int))]) ∈ kc_read_g.filter (fun e => e.2.1 == 7) := by
        rw [kx_rf7]
        exact List.mem_map.mpr ⟨i, List.mem_range.mpr hi, rfl⟩
      exact (List.mem_filter.mp this).1
    have m3 : (44 + 4 * i, 3, [(43 + 4 * i, 0), (0, 1)]) ∈ kc_read_g := by
      have : (44 + 4 * i, 3, [(43 + 4 * i, 0), (0, 1)]) ∈ kc_read_g.filter (fun e => e.2.1 == 3) := by
        rw [kx_rf3]
        exact List.mem_map.mpr ⟨i, List.mem_range.mpr hi, rfl⟩
      exact (List.mem_filter.mp this).1
    have e7 : ν (43 + 4 * i) = xk_sem 7 [xk_ov ν (1 + i / 8, 0), ((i % 8 : Nat) : Int)] := t2 _ m7
    have e3 : ν (44 + 4 * i) = xk_sem 3 [xk_ov ν (43 + 4 * i, 0), 1] := t2 _ m3
    show ν (44 + 4 * i) = kb_x i (P.getD (i / 8) 0)
    unfold kb_x
    have o1 : xk_ov ν (1 + i / 8, 0) = P.getD (i / 8) 0 := by
      unfold xk_ov
      rw [if_neg (by show ¬ 1 + i / 8 = 0; omega), hin (i / 8) (by omega)]
    have o2 : xk_ov ν (43 + 4 * i, 0) = ν (43 + 4 * i) := by
      unfold xk_ov
      rw [if_neg (by show ¬ 43 + 4 * i = 0; omega)]
    rw [e3, o2, e7, o1]
  rw [hb] at w2
  rw [hΦ]
  have ho : kx_oR.map (fun r => ν (43 + r)) = (kx_rout.map Prod.fst).map ν := rfl
  rw [ho]
  refine ⟨rfl, fun i a ha => ?_, w2⟩
  have hi : i < 10 := by
    have := (List.getElem?_eq_some_iff.mp ha).1
    exact this
  have hq : kx_rout[i]? = some (43 + kx_oR.getD i 0, 0, if i % 2 = 0 then 67108863 else 33554431) := by
    unfold kx_rout
    rw [List.getElem?_map, List.getElem?_range hi]
    rfl
  rw [List.getElem?_map, List.getElem?_map, hq] at ha
  have hb := w3 _ (List.mem_of_getElem? hq)
  have ha : ν (43 + kx_oR.getD i 0) = a := Option.some.inj ha
  dsimp only at hb
  rw [ha] at hb
  refine ⟨fun h => ?_, fun h => ?_⟩
  · rw [if_pos h] at hb
    omega
  · rw [if_neg (by omega)] at hb
    omega
end XM
