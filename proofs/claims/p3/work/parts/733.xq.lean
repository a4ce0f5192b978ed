/-! ===== the reference: a key is read ===== -/
theorem xl_posA {A N i : Nat} {L : List Int} (hL : L.length = N) (hi : i < N) : xk_pos (xn A N) L (A + i) = L.getD i 0 := by
  have hx : (xn A N).length = N := by unfold xn; simp
  have hg : i < (xn A N).length := by omega
  have e0 : (xn A N)[i]? = some (A + i) := by
    unfold xn
    rw [List.getElem?_map, List.getElem?_range hi]
    rfl
  have e : (xn A N)[i] = A + i := by
    have := List.getElem?_eq_getElem hg
    rw [e0] at this
    exact (Option.some.inj this).symm
  have := xk_pos_get (l := xn A N) (inp := L) (i := i) (xn_nodup A N) (by omega) hg
  rw [e] at this
  exact this
theorem kn_8 : ∀ v : Nat, v < 256 → xc_val ((List.range 8).map (fun i => kb_x i (v : Int))) (List.range 8) = (v : Int) := by decide +kernel
theorem kn_7 : ∀ v : Nat, v < 256 → xc_val ((List.range 7).map (fun i => kb_x i (v : Int))) (List.range 7) = xk_sem 3 [(v : Int), 127] := by decide +kernel
def kn_bs : Nat → xa_P
  | 0 => []
  | j + 1 => xa_add (xa_scl ((2 ^ (8 * j) : Nat) : Int) (xa_lin (xn (8 * j + 1) 8) (List.range 8))) (kn_bs j)
theorem kn_bsk : xa_dvd 0 (xa_add (xa_lin (xn 1 255) (List.range 255)) (xa_scl (-1) (xa_add (xa_scl ((2 ^ 248 : Nat) : Int) (xa_lin (xn 249 7) (List.range 7))) (kn_bs 31)))) = true := by decide +kernel
def kn_sm (P : List Int) : Nat → Int
  | 0 => 0
  | j + 1 => ((2 ^ (8 * j) : Nat) : Int) * P.getD j 0 + kn_sm P j
theorem xn_pos {A n : Nat} (hA : 0 < A) : ∀ g ∈ xn A n, 0 < g := fun g hg => by
  unfold xn at hg
  obtain ⟨i, _, rfl⟩ := List.mem_map.mp hg
  omega
theorem kb_x8 {j i : Nat} {v : Int} : kb_x (8 * j + i) v = kb_x i v := by
  unfold kb_x
  rw [show (8 * j + i) % 8 = i % 8 by omega]
theorem kn_numeq {P : List Int} (hP : kn_by P) : kn_num P = ((2 ^ 248 : Nat) : Int) * xk_sem 3 [P.getD 31 0, 127] + kn_sm P 31 := by
  generalize hρ : (fun n : Nat => kb_x (n - 1) (P.getD ((n - 1) / 8) 0)) = ρ
  have h0 : kn_num P = xa_e ρ (xa_lin (xn 1 255) (List.range 255)) := by
    rw [xa_lin_ok ρ (xn_pos (by omega))]
    unfold kn_num xn
    rw [List.map_map]
    congr 1
    refine List.map_congr_left fun i _ => ?_
    rw [← hρ]
    show _ = kb_x (1 + i - 1) (P.getD ((1 + i - 1) / 8) 0)
    rw [Nat.add_sub_cancel_left]
  have hz := xa_dvd_ok ρ kn_bsk
  rw [xa_add_ok, xa_scl_ok, xa_add_ok, xa_scl_ok] at hz
  have hz : xa_e ρ (xa_lin (xn 1 255) (List.range 255)) = ((2 ^ 248 : Nat) : Int) * xa_e ρ (xa_lin (xn 249 7) (List.range 7)) + xa_e ρ (kn_bs 31) := by
    obtain ⟨k, hk⟩ := hz
    rw [Int.zero_mul] at hk
    omega
  have hv : ∀ j, ∃ n : Nat, n < 256 ∧ P.getD j 0 = (n : Int) := fun j => by
    have := hP.get j
    exact ⟨(P.getD j 0).toNat, by omega, by omega⟩
  have h8 : ∀ j, xa_e ρ (xa_lin (xn (8 * j + 1) 8) (List.range 8)) = P.getD j 0 := fun j => by
    obtain ⟨n, hn, he⟩ := hv j
    have hl : (xn (8 * j + 1) 8).map ρ = (List.range 8).map (fun i => kb_x i (n : Int)) := by
      unfold xn
      rw [List.map_map]
      refine List.map_congr_left fun i hi => ?_
      have hi := List.mem_range.mp hi
      rw [← hρ]
      show kb_x (8 * j + 1 + i - 1) (P.getD ((8 * j + 1 + i - 1) / 8) 0) = kb_x i (n : Int)
      rw [show 8 * j + 1 + i - 1 = 8 * j + i by omega, kb_x8, show (8 * j + i) / 8 = j by omega, he]
    rw [xa_lin_ok ρ (xn_pos (by omega)), hl, kn_8 n hn, he]
  have h7 : xa_e ρ (xa_lin (xn 249 7) (List.range 7)) = xk_sem 3 [P.getD 31 0, 127] := by
    obtain ⟨n, hn, he⟩ := hv 31
    have hl : (xn 249 7).map ρ = (List.range 7).map (fun i => kb_x i (n : Int)) := by
      unfold xn
      rw [List.map_map]
      refine List.map_congr_left fun i hi => ?_
      have hi := List.mem_range.mp hi
      rw [← hρ]
      show kb_x (249 + i - 1) (P.getD ((249 + i - 1) / 8) 0) = kb_x i (n : Int)
      rw [show 249 + i - 1 = 8 * 31 + i by omega, kb_x8, show (8 * 31 + i) / 8 = 31 by omega, he]
    rw [xa_lin_ok ρ (xn_pos (by omega)), hl, kn_7 n hn, he]
  have hs : ∀ k, xa_e ρ (kn_bs k) = kn_sm P k := by
    intro k
    induction k with
    | zero => rfl
    | succ k ih =>
      unfold kn_bs kn_sm
      rw [xa_add_ok, xa_scl_ok, h8, ih]
  rw [h0, hz, h7, hs]
def ku_pin (A : Nat) : List (Nat × Int × Int) := (List.range 32).map (fun i => (A + i, 0, 255))
def ku_pout : List (Nat × Int × Int) := (List.range 16).map (fun i => (609 + ky_oU.getD i 0, 0, 65535))
def ku_pw (A : Nat) : xa_P := xa_add (xa_lin (xn A 31) (kn_es 31 0)) [(639 * 4096, 452312848583266388373324160190187140051835877600158453279131187530910662656)]
theorem kn_smeq {f : Nat → Int} : kn_sm ((xn 0 32).map f) 31 = xc_val ((xn 0 31).map f) (kn_es 31 0) := by
  have key : ∀ k, k ≤ 31 → kn_sm ((xn 0 32).map f) k = xc_val ((List.range k).map f) ((List.range k).map (fun j => 8 * j)) := by
    intro k
    induction k with
    | zero => intro _; rfl
    | succ k ih =>
      intro hk
      rw [List.range_succ, List.map_append, List.map_append]
      show _ = xc_val ((List.range k).map f ++ [f k]) ((List.range k).map (fun j => 8 * j) ++ [8 * k])
      rw [xc_val_snoc (by simp), ← ih (by omega)]
      show ((2 ^ (8 * k) : Nat) : Int) * ((xn 0 32).map f).getD k 0 + kn_sm ((xn 0 32).map f) k = _
      have : ((xn 0 32).map f).getD k 0 = f k := by
        rw [List.getD_eq_getElem?_getD]
        unfold xn
        rw [List.getElem?_map, List.getElem?_map, List.getElem?_range (by omega)]
        show f (0 + k) = f k
        rw [Nat.zero_add]
      rw [this, Int.add_comm]
  rw [key 31 (by omega)]
  rfl
section XQ
variable {Φ : Nat → Nat → List Int → Int}
theorem ku_np {T A : Nat} {tb : List xk_E} (hT : kP Φ kwr T 608 (xn A 32) tb) (hwf : xk_wf kwr 609 tb = true) (hck : xc_ck tb (ku_pin A) ku_pout xc_E16 xc_p (some (ku_pw A)) = true) (hm : (639, 3, [(A + 31, 0), (0, 127)]) ∈ tb) (hA : 0 < A) (hA' : A + 31 ≤ 608) {P : List Int} (hP : kn_by P) : xr_L (ky_oU.map (fun r => Φ T r P)) (kn_num P) := by
  obtain ⟨f, rfl⟩ := xn_fn hP.1
  obtain ⟨t1, t2⟩ := xk_tv_ok (Φ := Φ) (wd := kwr) (n := 608) (ag := xn A 32) (tb := tb) hwf ((xn 0 32).map f)
  generalize hν : xk_tv Φ kwr tb (xn A 32) ((xn 0 32).map f) = ν at t1 t2
  have hΦ : (fun r => Φ T r ((xn 0 32).map f)) = fun r => ν (609 + r) := by
    funext r
    rw [hT, ← hν]
    rfl
  have hgd : ∀ i, i < 32 → ((xn 0 32).map f).getD i 0 = f i := fun i hi => by
    rw [List.getD_eq_getElem?_getD]
    unfold xn
    rw [List.getElem?_map, List.getElem?_map, List.getElem?_range hi]
    show f (0 + i) = f i
    rw [Nat.zero_add]
  have hin : ∀ i, i < 32 → ν (A + i) = f i := fun i hi => by rw [t1 _ (by omega), xl_posA (N := 32) rfl hi, hgd i hi]
  obtain ⟨w, w1, w2, w3⟩ := xc_ck_ok hck t2 (fun q hq => by
    unfold ku_pin at hq
    obtain ⟨i, hi, rfl⟩ := List.mem_map.mp hq
    have hi := List.mem_range.mp hi
    rw [hin i hi, ← hgd i hi]
    exact hP.get i)
  have w1 := Option.some.inj w1
  subst w1
  unfold ku_pw at w2
  rw [xa_add_ok, xa_lin_ok ν (xn_pos hA)] at w2
  have e1 : xc_val ((xn A 31).map ν) (kn_es 31 0) = xc_val ((xn 0 31).map f) (kn_es 31 0) := by
    congr 1
    unfold xn
    rw [List.map_map, List.map_map]
    refine List.map_congr_left fun i hi => ?_
    have hi := List.mem_range.mp hi
    show ν (A + i) = f (0 + i)
    rw [hin i (by omega), Nat.zero_add]
  have e2 : xa_e ν [(639 * 4096, 452312848583266388373324160190187140051835877600158453279131187530910662656)] = ((2 ^ 248 : Nat) : Int) * ν 639 := by
    show 452312848583266388373324160190187140051835877600158453279131187530910662656 * xa_m ν (639 * 4096) + 0 = _
    rw [xa_m1 ν (by decide), Int.add_zero]
    rfl
  have e3 : ν 639 = xk_sem 3 [f 31, 127] := by
    have h : ν 639 = xk_sem 3 [xk_ov ν (A + 31, 0), 127] := t2 _ hm
    have o : xk_ov ν (A + 31, 0) = f 31 := by
      unfold xk_ov
      rw [if_neg (by show ¬ A + 31 = 0; omega), hin 31 (by omega)]
    rw [h, o]
  have hnum : kn_num ((xn 0 32).map f) = xc_val ((xn 0 31).map f) (kn_es 31 0) + ((2 ^ 248 : Nat) : Int) * xk_sem 3 [f 31, 127] := by
    rw [kn_numeq hP, kn_smeq, hgd 31 (by omega), Int.add_comm]
  rw [e1, e2, e3, ← hnum] at w2
  rw [hΦ]
  have ho : ky_oU.map (fun r => ν (609 + r)) = (ku_pout.map Prod.fst).map ν := rfl
  rw [ho]
  refine ⟨rfl, fun i a ha => ?_, w2⟩
  have hi : i < 16 := (List.getElem?_eq_some_iff.mp ha).1
  have hq : ku_pout[i]? = some (609 + ky_oU.getD i 0, 0, 65535) := by
    unfold ku_pout
    rw [List.getElem?_map, List.getElem?_range hi]
    rfl
  rw [List.getElem?_map, List.getElem?_map, hq] at ha
  have hb := w3 _ (List.mem_of_getElem? hq)
  have ha : ν (609 + ky_oU.getD i 0) = a := Option.some.inj ha
  dsimp only at hb
  rw [ha] at hb
  exact ⟨fun _ => by omega, fun _ => hb⟩
theorem ku_u9 (H : kR_41 Φ) {u : Nat} (hu : u < 4) {P : List Int} (hP : kn_by P) : xr_L (ky_oU.map (fun r => Φ (22 + 2 * u) r P)) (kn_num P) := by
  match u, hu with
  | 0, _ => exact ku_np (A := 257) H.1.1.1.1.1.1.1.1.1.1.1.1.1.1.1.1.1.1.1.2 (by decide +kernel) (by decide +kernel) (List.mem_of_getElem? (i := 30) rfl) (by decide) (by decide) hP
  | 1, _ => exact ku_np (A := 289) H.1.1.1.1.1.1.1.1.1.1.1.1.1.1.1.1.1.2 (by decide +kernel) (by decide +kernel) (List.mem_of_getElem? (i := 30) rfl) (by decide) (by decide) hP
  | 2, _ => exact ku_np (A := 321) H.1.1.1.1.1.1.1.1.1.1.1.1.1.1.1.2 (by decide +kernel) (by decide +kernel) (List.mem_of_getElem? (i := 30) rfl) (by decide) (by decide) hP
  | 3, _ => exact ku_np (A := 353) H.1.1.1.1.1.1.1.1.1.1.1.1.1.2 (by decide +kernel) (by decide +kernel) (List.mem_of_getElem? (i := 30) rfl) (by decide) (by decide) hP
theorem ku_u2 (H : kR_41 Φ) {u : Nat} (hu : u < 4) {P : List Int} (hP : kn_by P) : xr_L (ky_oU.map (fun r => Φ (23 + 2 * u) r P)) (kn_num P) := by
  match u, hu with
  | 0, _ => exact ku_np (A := 257) H.1.1.1.1.1.1.1.1.1.1.1.1.1.1.1.1.1.1.2 (by decide +kernel) (by decide +kernel) (List.mem_of_getElem? (i := 30) rfl) (by decide) (by decide) hP
  | 1, _ => exact ku_np (A := 289) H.1.1.1.1.1.1.1.1.1.1.1.1.1.1.1.1.2 (by decide +kernel) (by decide +kernel) (List.mem_of_getElem? (i := 30) rfl) (by decide) (by decide) hP
  | 2, _ => exact ku_np (A := 321) H.1.1.1.1.1.1.1.1.1.1.1.1.1.1.2 (by decide +kernel) (by decide +kernel) (List.mem_of_getElem? (i := 30) rfl) (by decide) (by decide) hP
  | 3, _ => exact ku_np (A := 353) H.1.1.1.1.1.1.1.1.1.1.1.1.2 (by decide +kernel) (by decide +kernel) (List.mem_of_getElem? (i := 30) rfl) (by decide) (by decide) hP
end XQ
