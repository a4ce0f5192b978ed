/-! ===== taking p away ===== -/
section XP
variable {Φ : Nat → Nat → List Int → Int}
/-- the chain's table -/
def kp_ch (b : Nat) (ns : Nat → Nat) : List xk_E := (List.range 16).flatMap (fun k => [(b + 6 * k, 21, [(ns k, 0), (0, kp_p k)]), (b + 6 * k + 1, 21, [(b + 6 * k, 0), if k = 0 then (0, 0) else (b + 6 * (k - 1) + 3, 0)]), (b + 6 * k + 2, 31, [(b + 6 * k + 1, 0), (0, 0)]), (b + 6 * k + 3, 43, [(b + 6 * k + 2, 0), (0, 0), (0, 1), (0, 0)]), (b + 6 * k + 4, 22, [(0, 65536), (b + 6 * k + 3, 0)]), (b + 6 * k + 5, 20, [(b + 6 * k + 1, 0), (b + 6 * k + 4, 0)])])
theorem kp_ch_ok {wd : Nat → Nat} {ν : Nat → Int} {b : Nat} {ns : Nat → Nat} (ht : xk_tok Φ wd ν (kp_ch b ns)) (hb : 0 < b) (hn : ∀ k, 0 < ns k) (hf : ∀ k, k < 16 → 0 ≤ ν (ns k) ∧ ν (ns k) ≤ 65535) :
    (ν (b + 93) = 0 ∨ ν (b + 93) = 1) ∧ (∀ k, k < 16 → 0 ≤ ν (b + (6 * k + 5)) ∧ ν (b + (6 * k + 5)) ≤ 65535) ∧ kp_sm (fun k => ν (b + (6 * k + 5))) 16 = kp_sm (fun k => ν (ns k)) 16 - xc_p + ((2 ^ 256 : Nat) : Int) * ν (b + 93) := by
  have ov : ∀ {g : Nat}, 0 < g → xk_ov ν (g, 0) = ν g := fun {g} h => by
    unfold xk_ov
    rw [if_neg (by show ¬ g = 0; omega)]
  have hm : ∀ k, k < 16 → ∀ e ∈ [(b + 6 * k, 21, [(ns k, 0), (0, kp_p k)]), (b + 6 * k + 1, 21, [(b + 6 * k, 0), if k = 0 then (0, 0) else (b + 6 * (k - 1) + 3, 0)]), (b + 6 * k + 2, 31, [(b + 6 * k + 1, 0), (0, 0)]), (b + 6 * k + 3, 43, [(b + 6 * k + 2, 0), (0, 0), (0, 1), (0, 0)]), (b + 6 * k + 4, 22, [(0, 65536), (b + 6 * k + 3, 0)]), (b + 6 * k + 5, 20, [(b + 6 * k + 1, 0), (b + 6 * k + 4, 0)])], xk_eok Φ wd ν e := fun k hk e he => ht e (List.mem_flatMap.mpr ⟨k, List.mem_range.mpr hk, he⟩)
  refine kp_chain (f := fun k => ν (ns k)) (N := fun j => ν (b + j)) hf (fun k hk => ?_) (fun k hk => ?_) (fun k hk => ?_) (fun k hk => ?_) (fun k hk => ?_) (fun k hk => ?_)
  · have h : ν (b + 6 * k) = xk_sem 21 [xk_ov ν (ns k, 0), kp_p k] := hm k hk _ List.mem_cons_self
    rw [ov (hn k)] at h
    exact h
  · have h : ν (b + 6 * k + 1) = xk_sem 21 [xk_ov ν (b + 6 * k, 0), xk_ov ν (if k = 0 then (0, 0) else (b + 6 * (k - 1) + 3, 0))] := hm k hk _ (List.mem_cons_of_mem _ List.mem_cons_self)
    rw [ov (by omega)] at h
    show ν (b + (6 * k + 1)) = xk_sem 21 [ν (b + 6 * k), if k = 0 then 0 else ν (b + (6 * (k - 1) + 3))]
    rw [← Nat.add_assoc, h]
    congr 2
    split
    · rfl
    · rw [ov (by omega), Nat.add_assoc]
  · have h : ν (b + 6 * k + 2) = xk_sem 31 [xk_ov ν (b + 6 * k + 1, 0), 0] := hm k hk _ (List.mem_cons_of_mem _ (List.mem_cons_of_mem _ List.mem_cons_self))
    rw [ov (by omega)] at h
    exact h
  · have h : ν (b + 6 * k + 3) = xk_sem 43 [xk_ov ν (b + 6 * k + 2, 0), 0, 1, 0] := hm k hk _ (List.mem_cons_of_mem _ (List.mem_cons_of_mem _ (List.mem_cons_of_mem _ List.mem_cons_self)))
    rw [ov (by omega)] at h
    exact h
  · have h : ν (b + 6 * k + 4) = xk_sem 22 [65536, xk_ov ν (b + 6 * k + 3, 0)] := hm k hk _ (List.mem_cons_of_mem _ (List.mem_cons_of_mem _ (List.mem_cons_of_mem _ (List.mem_cons_of_mem _ List.mem_cons_self))))
    rw [ov (by omega)] at h
    exact h
  · have h : ν (b + 6 * k + 5) = xk_sem 20 [xk_ov ν (b + 6 * k + 1, 0), xk_ov ν (b + 6 * k + 4, 0)] := hm k hk _ (List.mem_cons_of_mem _ (List.mem_cons_of_mem _ (List.mem_cons_of_mem _ (List.mem_cons_of_mem _ (List.mem_cons_of_mem _ List.mem_cons_self)))))
    rw [ov (by omega), ov (by omega)] at h
    exact h
/-- places, what is left of them, and whether there was enough -/
def kp_R (a : List Int) (V : Int) : Prop := a.length = 33 ∧ kp_D (a.take 16) V ∧ kp_D ((a.drop 16).take 16) (V - xc_p + ((2 ^ 256 : Nat) : Int) * a.getD 32 0) ∧ (a.getD 32 0 = 0 ∨ a.getD 32 0 = 1)
theorem kp_D_fn {f : Nat → Int} (h : ∀ k, k < 16 → 0 ≤ f k ∧ f k ≤ 65535) : kp_D ((xn 0 16).map f) (kp_sm f 16) := by
  refine ⟨rfl, fun a ha => ?_, (kp_sm_val f).symm⟩
  unfold xn at ha
  rw [List.map_map] at ha
  obtain ⟨k, hk, rfl⟩ := List.mem_map.mp ha
  show 0 ≤ f (0 + k) ∧ f (0 + k) ≤ 65535
  rw [Nat.zero_add]
  exact h k (List.mem_range.mp hk)
theorem kp_D.fn {f : Nat → Int} {V : Int} (h : kp_D ((xn 0 16).map f) V) : (∀ k, k < 16 → 0 ≤ f k ∧ f k ≤ 65535) ∧ kp_sm f 16 = V := by
  refine ⟨fun k hk => h.2.1 _ ?_, by rw [kp_sm_val]; exact h.2.2⟩
  unfold xn
  rw [List.map_map]
  exact List.mem_map.mpr ⟨k, List.mem_range.mpr hk, by show f (0 + k) = f k; rw [Nat.zero_add]⟩
theorem kp_10_e : kp_10_t = kp_ch 609 (fun k => 241 + k) := by decide +kernel
theorem kp_11_e : kp_11_t = kp_ch 609 (fun k => 1 + k) := by decide +kernel
theorem kp_0_e : kp_0_t = [(609, 1001, (xn 1 16).map (fun g => (g, 0))), (674, 1001, kp_oc.map (fun r => (609 + r, 0))), (739, 1001, kp_oc.map (fun r => (674 + r, 0))), (804, 1001, kp_oc.map (fun r => (739 + r, 0)))] ++ kp_ch 869 (fun k => 804 + kp_oc.getD k 0) := by decide +kernel
theorem xn_sh {A n : Nat} {ν : Nat → Int} : (xn A n).map ν = (xn 0 n).map (fun k => ν (A + k)) := by
  unfold xn
  rw [List.map_map, List.map_map]
  refine List.map_congr_left fun i _ => ?_
  show ν (A + i) = ν (A + (0 + i))
  rw [Nat.zero_add]
theorem kp_in {ν : Nat → Int} {inp : List Int} (t1 : ∀ g, g ≤ 608 → ν g = xk_pos kp_ag inp g) (hl : inp.length = 32) : (xn 0 16).map (fun k => ν (1 + k)) = inp.take 16 ∧ (xn 0 16).map (fun k => ν (241 + k)) = inp.drop 16 := by
  have h : kp_ag.map ν = kp_ag.map (fun g => xk_pos kp_ag inp g) := List.map_congr_left fun g hg => t1 g (by
    have hall : kp_ag.all (fun g => decide (g ≤ 608)) = true := by decide
    exact of_decide_eq_true (List.all_eq_true.mp hall g hg))
  rw [xk_pos_map (by decide +kernel) (by rw [hl]; rfl)] at h
  unfold kp_ag at h
  rw [List.map_append, ← List.take_append_drop 16 inp] at h
  obtain ⟨h1, h2⟩ := List.append_inj h (by rw [List.length_take, hl]; unfold xn; simp)
  rw [← xn_sh, ← xn_sh]
  rw [List.take_append_drop] at *
  exact ⟨h1, h2⟩
theorem kp_sl {ν : Nat → Int} {o : List xk_O} {a : Nat} {ns : Nat → Nat} (h : (o.drop a).take 16 = (xn 0 16).map (fun k => (ns k, 0))) (hn : ∀ k, 0 < ns k) : ((o.map (xk_ov ν)).drop a).take 16 = (xn 0 16).map (fun k => ν (ns k)) := by
  rw [← List.map_drop, ← List.map_take, h, List.map_map]
  refine List.map_congr_left fun k _ => ?_
  show (if ns k = 0 then (0 : Int) else ν (ns k)) = ν (ns k)
  rw [if_neg (by have := hn k; omega)]
theorem kp_mk {ν : Nat → Int} {o : List xk_O} {V : Int} {ns ds : Nat → Nat} {bn : Nat} (hl : o.length = 33) (h1 : (o.drop 0).take 16 = (xn 0 16).map (fun k => (ns k, 0))) (h2 : (o.drop 16).take 16 = (xn 0 16).map (fun k => (ds k, 0))) (h3 : o[32]? = some (bn, 0)) (hn : ∀ k, 0 < ns k) (hd : ∀ k, 0 < ds k) (hb : 0 < bn) (d1 : kp_D ((xn 0 16).map (fun k => ν (ns k))) V) (d2 : kp_D ((xn 0 16).map (fun k => ν (ds k))) (V - xc_p + ((2 ^ 256 : Nat) : Int) * ν bn)) (z : ν bn = 0 ∨ ν bn = 1) : kp_R (o.map (xk_ov ν)) V := by
  have e3 : (o.map (xk_ov ν)).getD 32 0 = ν bn := by
    rw [List.getD_eq_getElem?_getD, List.getElem?_map, h3]
    show (if bn = 0 then (0 : Int) else ν bn) = ν bn
    rw [if_neg (by omega)]
  have e1 := kp_sl (ν := ν) h1 hn
  rw [List.drop_zero] at e1
  refine ⟨by rw [List.length_map, hl], ?_, ?_, ?_⟩
  · rw [e1]
    exact d1
  · rw [kp_sl h2 hd, e3]
    exact d2
  · rw [e3]
    exact z
theorem kp_S1 {a : List Int} {V : Int} (h : kp_R a V) : kp_R (kp_b1 Φ a) (if a.getD 32 0 = 0 then V - xc_p else V) := by
  obtain ⟨hl, h1, h2, h3⟩ := h
  have l32 : (a.take 32).length = 32 := by rw [List.length_take, hl]; rfl
  have s1 : (a.take 32).take 16 = a.take 16 := by rw [List.take_take]; rfl
  have s2 : (a.take 32).drop 16 = (a.drop 16).take 16 := by rw [List.drop_take]
  unfold kp_b1
  generalize a.getD 32 0 = b at h2 h3
  by_cases z : b = 0
  · rw [if_pos z, if_pos z]
    obtain ⟨t1, t2⟩ := xk_tv_ok (Φ := Φ) (wd := kwg) (n := 608) (ag := kp_ag) (tb := kp_10_t) (by decide +kernel) (a.take 32)
    unfold xk_tf
    generalize xk_tv Φ kwg kp_10_t kp_ag (a.take 32) = ν at t1 t2
    obtain ⟨-, i2⟩ := kp_in t1 l32
    rw [s2] at i2
    rw [← i2, z, Int.mul_zero, Int.add_zero] at h2
    obtain ⟨g1, g2⟩ := h2.fn
    rw [kp_10_e] at t2
    obtain ⟨c1, c2, c3⟩ := kp_ch_ok t2 (by decide) (fun k => by show 0 < 241 + k; omega) g1
    rw [g2] at c3
    have c4 := kp_D_fn c2
    rw [c3] at c4
    exact kp_mk (ns := fun k => 241 + k) (ds := fun k => 609 + (6 * k + 5)) (bn := 609 + 93) (by decide) (by decide) (by decide) (by decide) (fun k => by show 0 < 241 + k; omega) (fun k => by show 0 < 609 + (6 * k + 5); omega) (by decide) h2 c4 c1
  · rw [if_neg z, if_neg z]
    obtain ⟨t1, t2⟩ := xk_tv_ok (Φ := Φ) (wd := kwg) (n := 608) (ag := kp_ag) (tb := kp_11_t) (by decide +kernel) (a.take 32)
    unfold xk_tf
    generalize xk_tv Φ kwg kp_11_t kp_ag (a.take 32) = ν at t1 t2
    obtain ⟨i1, -⟩ := kp_in t1 l32
    rw [s1] at i1
    rw [← i1] at h1
    obtain ⟨g1, g2⟩ := h1.fn
    rw [kp_11_e] at t2
    obtain ⟨c1, c2, c3⟩ := kp_ch_ok t2 (by decide) (fun k => by show 0 < 1 + k; omega) g1
    rw [g2] at c3
    have c4 := kp_D_fn c2
    rw [c3] at c4
    exact kp_mk (ns := fun k => 1 + k) (ds := fun k => 609 + (6 * k + 5)) (bn := 609 + 93) (by decide) (by decide) (by decide) (by decide) (fun k => by show 0 < 1 + k; omega) (fun k => by show 0 < 609 + (6 * k + 5); omega) (by decide) h1 c4 c1
theorem kp_S0 (H : kR_1 Φ) {v : List Int} {x : Int} (h : xr_L v x) : ∃ V, kp_R (xk_tf Φ kwg kp_0_t (xn 1 16) kp_0_o v) V ∧ xl_cg V x ∧ 0 ≤ V ∧ V ≤ 115792089237316195423570985008687907853269984665640564039457584007913129639935 := by
  obtain ⟨V, hD, hc, v0, v1⟩ := kp_norm H h
  refine ⟨V, ?_, hc, v0, v1⟩
  obtain ⟨t1, t2⟩ := xk_tv_ok (Φ := Φ) (wd := kwg) (n := 608) (ag := xn 1 16) (tb := kp_0_t) (by decide +kernel) v
  unfold xk_tf
  generalize xk_tv Φ kwg kp_0_t (xn 1 16) v = ν at t1 t2
  rw [kp_0_e] at t2
  have i1 : (xn 1 16).map ν = v := by
    have h' : (xn 1 16).map ν = (xn 1 16).map (fun g => xk_pos (xn 1 16) v g) := List.map_congr_left fun g hg => t1 g (by
      have hall : (xn 1 16).all (fun g => decide (g ≤ 608)) = true := by decide
      exact of_decide_eq_true (List.all_eq_true.mp hall g hg))
    rw [h']
    exact xk_pos_map (xn_nodup 1 16) (by rw [h.1]; rfl)
  have g1 := xk_cv (b := 609) (t := 1) (t2 _ (List.mem_append_left _ List.mem_cons_self)) kp_oc (by decide +kernel)
  have g2 := xk_cv (b := 674) (t := 1) (t2 _ (List.mem_append_left _ (List.mem_cons_of_mem _ List.mem_cons_self))) kp_oc (by decide +kernel)
  have g3 := xk_cv (b := 739) (t := 1) (t2 _ (List.mem_append_left _ (List.mem_cons_of_mem _ (List.mem_cons_of_mem _ List.mem_cons_self)))) kp_oc (by decide +kernel)
  have g4 := xk_cv (b := 804) (t := 1) (t2 _ (List.mem_append_left _ (List.mem_cons_of_mem _ (List.mem_cons_of_mem _ (List.mem_cons_of_mem _ List.mem_cons_self))))) kp_oc (by decide +kernel)
  have am : ∀ A : Nat, (kp_oc.map (fun r => ((A + 1 + r, 0) : xk_O))).map (xk_ov ν) = kp_oc.map (fun r => ν (A + 1 + r)) := fun A => by
    rw [List.map_map]
    refine List.map_congr_left fun r _ => ?_
    show (if A + 1 + r = 0 then (0 : Int) else ν (A + 1 + r)) = _
    rw [if_neg (by omega)]
  have a1 : ((xn 1 16).map (fun g => ((g, 0) : xk_O))).map (xk_ov ν) = (xn 1 16).map ν := by
    unfold xn
    rw [List.map_map, List.map_map, List.map_map]
    refine List.map_congr_left fun r _ => ?_
    show (if 1 + r = 0 then (0 : Int) else ν (1 + r)) = _
    rw [if_neg (by omega)]
    rfl
  rw [a1, i1] at g1
  rw [am 608, g1] at g2
  rw [am 673, g2] at g3
  rw [am 738, g3] at g4
  have hF : (xn 0 16).map (fun k => ν (804 + kp_oc.getD k 0)) = kp_oc.map (fun r => ν (804 + r)) := by
    have h0 : (xn 0 16).map (fun k => kp_oc.getD k 0) = kp_oc := by decide
    have h2 : (xn 0 16).map (fun k => ν (804 + kp_oc.getD k 0)) = ((xn 0 16).map (fun k => kp_oc.getD k 0)).map (fun r => ν (804 + r)) := by
      rw [List.map_map]
      rfl
    rw [h2, h0]
  have hD : kp_D ((xn 0 16).map (fun k => ν (804 + kp_oc.getD k 0))) V := by
    rw [hF, g4]
    exact hD
  obtain ⟨b1, b2⟩ := hD.fn
  obtain ⟨c1, c2, c3⟩ := kp_ch_ok (b := 869) (ns := fun k => 804 + kp_oc.getD k 0) (fun e he => t2 e (List.mem_append_right _ he)) (by decide) (fun k => by show 0 < 804 + _; omega) b1
  rw [b2] at c3
  have c4 := kp_D_fn c2
  rw [c3] at c4
  exact kp_mk (ns := fun k => 804 + kp_oc.getD k 0) (ds := fun k => 869 + (6 * k + 5)) (bn := 869 + 93) (by decide) (by decide) (by decide) (by decide) (fun k => by show 0 < 804 + _; omega) (fun k => by show 0 < 869 + (6 * k + 5); omega) (by decide) hD c4 c1
end XP
