/-! ===== pack's bytes ===== -/
section XP
variable {Φ : Nat → Nat → List Int → Int}
/-- bytes -/
theorem kp_27 {f : Int} (h : 0 ≤ f ∧ f ≤ 65535) (n : Nat) (hn : n < 64) : xk_sem 27 [f, (n : Int)] = f / ((2 ^ n : Nat) : Int) := by
  show (Int64.ofInt f >>> ((Int32.ofInt (n : Int)).toInt64 &&& 63)).toInt = _
  rw [xa_shr hn, ck_ofInt64 (by omega) (by omega)]
theorem kp_30 {f : Int} (h : 0 ≤ f ∧ f ≤ 65535) : xk_sem 30 [f] = f := by
  show (Int64.ofInt f).toInt32.toInt = f
  rw [Int64.toInt_toInt32, ck_ofInt64 (by omega) (by omega)]
  exact ck_bm (by omega) (by omega)
theorem kp_3 {f : Int} (h : 0 ≤ f ∧ f ≤ 65535) : xk_sem 3 [f, 255] = f % 256 := by
  show (Int32.ofInt f &&& Int32.ofInt 255).toInt = _
  have e0 : (Int32.ofInt f).toInt = f := by rw [Int32.toInt_ofInt]; exact ck_bm (by omega) (by omega)
  have e := ck_and_nat (Int32.ofInt f) (Int32.ofInt 255)
  have e1 := ck_nat (x := Int32.ofInt f) (by rw [e0]; exact h.1)
  rw [e0] at e1
  have e2 : (Int32.ofInt 255).toBitVec.toNat = 2 ^ 8 - 1 := by decide
  rw [e2, Nat.and_two_pow_sub_one_eq_mod] at e
  rw [ck_ofnat e (by omega)]
  omega
theorem kp_b0 {f : Int} (h : 0 ≤ f ∧ f ≤ 65535) : xk_sem 3 [xk_sem 30 [xk_sem 27 [f, 0]], 255] = f % 256 := by
  have e := kp_27 h 0 (by decide)
  have e : xk_sem 27 [f, 0] = f / 1 := e
  rw [e, Int.ediv_one, kp_30 h, kp_3 h]
theorem kp_b8 {f : Int} (h : 0 ≤ f ∧ f ≤ 65535) : xk_sem 3 [xk_sem 30 [xk_sem 27 [f, 8]], 255] = f / 256 := by
  have e := kp_27 h 8 (by decide)
  have e : xk_sem 27 [f, 8] = f / 256 := e
  have h' : 0 ≤ f / 256 ∧ f / 256 ≤ 65535 := by omega
  rw [e, kp_30 h', kp_3 h']
  omega
def kp_bt (ns : Nat → Nat) : List xk_E := (List.range 32).flatMap (fun k => [(609 + 3 * k, 27, [(ns (k / 2), 0), (0, ((8 * (k % 2) : Nat) : Int))]), (609 + 3 * k + 1, 30, [(609 + 3 * k, 0)]), (609 + 3 * k + 2, 3, [(609 + 3 * k + 1, 0), (0, 255)])])
theorem kp_20_e : kp_20_t = kp_bt (fun k => 241 + k) := by decide +kernel
theorem kp_21_e : kp_21_t = kp_bt (fun k => 1 + k) := by decide +kernel
theorem kp_bt_ok {wd : Nat → Nat} {ν : Nat → Int} {ns : Nat → Nat} {V : Int} (ht : xk_tok Φ wd ν (kp_bt ns)) (hn : ∀ k, 0 < ns k) (hD : kp_D ((xn 0 16).map (fun k => ν (ns k))) V) : (List.range 32).map (fun k => ν (609 + 3 * k + 2)) = kn_dig 32 V := by
  obtain ⟨hf, hV⟩ := hD.fn
  have ov : ∀ {g : Nat}, 0 < g → xk_ov ν (g, 0) = ν g := fun {g} h => by
    unfold xk_ov
    rw [if_neg (by show ¬ g = 0; omega)]
  have hb : ∀ k, k < 32 → ν (609 + 3 * k + 2) = if k % 2 = 0 then ν (ns (k / 2)) % 256 else ν (ns (k / 2)) / 256 := by
    intro k hk
    have hm : ∀ e ∈ [(609 + 3 * k, 27, [(ns (k / 2), 0), (0, ((8 * (k % 2) : Nat) : Int))]), (609 + 3 * k + 1, 30, [(609 + 3 * k, 0)]), (609 + 3 * k + 2, 3, [(609 + 3 * k + 1, 0), (0, 255)])], xk_eok Φ wd ν e := fun e he => ht e (List.mem_flatMap.mpr ⟨k, List.mem_range.mpr hk, he⟩)
    have h1 : ν (609 + 3 * k) = xk_sem 27 [xk_ov ν (ns (k / 2), 0), ((8 * (k % 2) : Nat) : Int)] := hm _ List.mem_cons_self
    have h2 : ν (609 + 3 * k + 1) = xk_sem 30 [xk_ov ν (609 + 3 * k, 0)] := hm _ (List.mem_cons_of_mem _ List.mem_cons_self)
    have h3 : ν (609 + 3 * k + 2) = xk_sem 3 [xk_ov ν (609 + 3 * k + 1, 0), 255] := hm _ (List.mem_cons_of_mem _ (List.mem_cons_of_mem _ List.mem_cons_self))
    rw [ov (hn _)] at h1
    rw [ov (by omega), h1] at h2
    rw [ov (by omega), h2] at h3
    rw [h3]
    rcases Nat.mod_two_eq_zero_or_one k with z | z
    · rw [z, if_pos rfl]
      exact kp_b0 (hf (k / 2) (by omega))
    · rw [z, if_neg (by decide)]
      exact kp_b8 (hf (k / 2) (by omega))
  have hl : (List.range 32).map (fun k => ν (609 + 3 * k + 2)) = (List.range 32).map (fun k => if k % 2 = 0 then ν (ns (k / 2)) % 256 else ν (ns (k / 2)) / 256) := List.map_congr_left fun k hk => hb k (List.mem_range.mp hk)
  rw [hl]
  have hby : ∀ a ∈ (List.range 32).map (fun k => if k % 2 = 0 then ν (ns (k / 2)) % 256 else ν (ns (k / 2)) / 256), 0 ≤ a ∧ a ≤ 255 := fun a ha => by
    obtain ⟨k, hk, rfl⟩ := List.mem_map.mp ha
    have := hf (k / 2) (by have := List.mem_range.mp hk; omega)
    split <;> omega
  have hd := kn_dig_ok hby
  have h32 : ((List.range 32).map (fun k => if k % 2 = 0 then ν (ns (k / 2)) % 256 else ν (ns (k / 2)) / 256)).length = 32 := by simp
  rw [h32] at hd
  have hbv : kn_bv ((List.range 32).map (fun k => if k % 2 = 0 then ν (ns (k / 2)) % 256 else ν (ns (k / 2)) / 256)) = V := by
    rw [← hV]
    generalize hF : (fun k => ν (ns k)) = F
    have hF' : ∀ k, ν (ns k) = F k := fun k => by rw [← hF]
    have e1 : (List.range 32).map (fun k => if k % 2 = 0 then ν (ns (k / 2)) % 256 else ν (ns (k / 2)) / 256) = [F 0 % 256, F 0 / 256, F 1 % 256, F 1 / 256, F 2 % 256, F 2 / 256, F 3 % 256, F 3 / 256, F 4 % 256, F 4 / 256, F 5 % 256, F 5 / 256, F 6 % 256, F 6 / 256, F 7 % 256, F 7 / 256, F 8 % 256, F 8 / 256, F 9 % 256, F 9 / 256, F 10 % 256, F 10 / 256, F 11 % 256, F 11 / 256, F 12 % 256, F 12 / 256, F 13 % 256, F 13 / 256, F 14 % 256, F 14 / 256, F 15 % 256, F 15 / 256] := by
      have : (List.range 32).map (fun k => if k % 2 = 0 then ν (ns (k / 2)) % 256 else ν (ns (k / 2)) / 256) = (List.range 32).map (fun k => if k % 2 = 0 then F (k / 2) % 256 else F (k / 2) / 256) := by
        rw [← hF]
      rw [this]
      rfl
    rw [e1]
    have e2 : kp_sm F 16 = (((((((((((((((0 + 1 * F 0) + 65536 * F 1) + 4294967296 * F 2) + 281474976710656 * F 3) + 18446744073709551616 * F 4) + 1208925819614629174706176 * F 5) + 79228162514264337593543950336 * F 6) + 5192296858534827628530496329220096 * F 7) + 340282366920938463463374607431768211456 * F 8) + 22300745198530623141535718272648361505980416 * F 9) + 1461501637330902918203684832716283019655932542976 * F 10) + 95780971304118053647396689196894323976171195136475136 * F 11) + 6277101735386680763835789423207666416102355444464034512896 * F 12) + 411376139330301510538742295639337626245683966408394965837152256 * F 13) + 26959946667150639794667015087019630673637144422540572481103610249216 * F 14) + 1766847064778384329583297500742918515827483896875618958121606201292619776 * F 15 := rfl
    rw [e2]
    simp only [kn_bv]
    omega
  rw [hbv] at hd
  exact hd
theorem kp_o20 {ν : Nat → Int} {o : List xk_O} (h : o = (List.range 32).map (fun k => (609 + 3 * k + 2, 0))) : o.map (xk_ov ν) = (List.range 32).map (fun k => ν (609 + 3 * k + 2)) := by
  rw [h, List.map_map]
  refine List.map_congr_left fun k _ => ?_
  show (if 609 + 3 * k + 2 = 0 then (0 : Int) else ν (609 + 3 * k + 2)) = _
  rw [if_neg (by omega)]
theorem kp_S2 {a : List Int} {V : Int} (h : kp_R a V) : kp_b2 Φ a = kn_dig 32 (if a.getD 32 0 = 0 then V - xc_p else V) := by
  obtain ⟨hl, h1, h2, h3⟩ := h
  have l32 : (a.take 32).length = 32 := by rw [List.length_take, hl]; rfl
  have s1 : (a.take 32).take 16 = a.take 16 := by rw [List.take_take]; rfl
  have s2 : (a.take 32).drop 16 = (a.drop 16).take 16 := by rw [List.drop_take]
  unfold kp_b2
  generalize a.getD 32 0 = b at h2 h3
  by_cases z : b = 0
  · rw [if_pos z, if_pos z]
    obtain ⟨t1, t2⟩ := xk_tv_ok (Φ := Φ) (wd := kwg) (n := 608) (ag := kp_ag) (tb := kp_20_t) (by decide +kernel) (a.take 32)
    unfold xk_tf
    generalize xk_tv Φ kwg kp_20_t kp_ag (a.take 32) = ν at t1 t2
    obtain ⟨-, i2⟩ := kp_in t1 l32
    rw [s2] at i2
    rw [← i2, z, Int.mul_zero, Int.add_zero] at h2
    rw [kp_20_e] at t2
    rw [kp_o20 (by decide)]
    exact kp_bt_ok t2 (fun k => by show 0 < 241 + k; omega) h2
  · rw [if_neg z, if_neg z]
    obtain ⟨t1, t2⟩ := xk_tv_ok (Φ := Φ) (wd := kwg) (n := 608) (ag := kp_ag) (tb := kp_21_t) (by decide +kernel) (a.take 32)
    unfold xk_tf
    generalize xk_tv Φ kwg kp_21_t kp_ag (a.take 32) = ν at t1 t2
    obtain ⟨i1, -⟩ := kp_in t1 l32
    rw [s1] at i1
    rw [← i1] at h1
    rw [kp_21_e] at t2
    rw [kp_o20 (by decide)]
    exact kp_bt_ok t2 (fun k => by show 0 < 1 + k; omega) h1
theorem kp_D.bd {f : List Int} {V : Int} (h : kp_D f V) : 0 ≤ V ∧ V ≤ 115792089237316195423570985008687907853269984665640564039457584007913129639935 := by
  obtain ⟨g, rfl⟩ := xn_fn h.1
  obtain ⟨h1, h2⟩ := h.fn
  have := kp_sm_le (g := g) (fun k => by
    by_cases z : 16 ≤ k
    · exact Or.inr z
    · exact Or.inl (h1 k (by omega))) 16 (by omega)
  rw [h2] at this
  exact ⟨this.1, this.2⟩
/-- what pack writes -/
theorem kp_ok (H : kR_1 Φ) {v : List Int} {x : Int} (h : xr_L v x) : kp_fn Φ v = kn_dig 32 (x % xc_p) := by
  obtain ⟨V, hR, hc, v0, v1⟩ := kp_S0 H h
  unfold kp_fn
  have hR1 := kp_S1 (Φ := Φ) hR
  have hgo : (if (kp_b1 Φ (xk_tf Φ kwg kp_0_t (xn 1 16) kp_0_o v)).getD 32 0 = 0 then (if (xk_tf Φ kwg kp_0_t (xn 1 16) kp_0_o v).getD 32 0 = 0 then V - xc_p else V) - xc_p else (if (xk_tf Φ kwg kp_0_t (xn 1 16) kp_0_o v).getD 32 0 = 0 then V - xc_p else V)) = x % xc_p := by
    have w0 := hR.2.2.1.bd
    have w1 := hR1.2.2.1.bd
    have z0 := hR.2.2.2
    have z1 := hR1.2.2.2
    rw [← xl_cg_mod hc]
    have p256 : ((2 ^ 256 : Nat) : Int) = 115792089237316195423570985008687907853269984665640564039457584007913129639936 := rfl
    rw [p256] at w0 w1
    generalize (xk_tf Φ kwg kp_0_t (xn 1 16) kp_0_o v).getD 32 0 = b0 at *
    generalize (kp_b1 Φ (xk_tf Φ kwg kp_0_t (xn 1 16) kp_0_o v)).getD 32 0 = b1 at *
    unfold xc_p at *
    rcases z0 with z0 | z0 <;> rcases z1 with z1 | z1 <;> subst z0 <;> subst z1 <;> simp only [if_true, if_false, reduceIte, Int.reduceEq, Int.reduceMul, Int.mul_zero, Int.mul_one] at * <;> omega
  rw [kp_S2 hR1, hgo]
end XP
