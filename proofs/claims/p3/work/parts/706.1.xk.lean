/-! ===== the reference: reckon, its function ===== -/
def ky_oT : List Nat := [672, 614, 618, 622, 626, 630, 634, 638, 642, 646, 650, 654, 658, 662, 666, 670]
def ky_oU : List Nat := [1, 3, 5, 7, 9, 11, 13, 15, 17, 19, 21, 23, 25, 27, 29, 32]
/-- what is done with the ladder's end -/
def ky_end (Φ : Nat → Nat → List Int → Int) (v : List Int) : List Int := (List.range 32).map (fun r => Φ 61 r (ky_oT.map (fun r => Φ 41 r (v.take 16 ++ (List.range 16).map (fun r => Φ 60 r ((v.drop 16).take 16))))))
def ky_v0 (Φ : Nat → Nat → List Int → Int) (u : Nat) (P : List Int) : List Int := (1 :: List.replicate 15 0) ++ List.replicate 16 0 ++ ky_oU.map (fun r => Φ (23 + 2 * u) r P) ++ (1 :: List.replicate 15 0) ++ ky_oU.map (fun r => Φ (22 + 2 * u) r P)
def ky_rk (Φ : Nat → Nat → List Int → Int) (u : Nat) (B P : List Int) : List Int := ky_end Φ (ky_it Φ (fun j => B.getD j 0) 255 (ky_v0 Φ u P))
def kY (Φ : Nat → Nat → List Int → Int) : Prop := kPk Φ ∧ ∀ u, u < 4 → ∀ r inp, Φ (62 + u) r inp = (ky_rk Φ u (inp.take 32) (inp.drop 32)).getD r 0
def ky_rx : Nat → xk_O := fun g => if g < 640 then (g, 0) else (1361 + (g - 640), 0)
def ky_tx : List xk_E := [(641, 1060, (xn 17 16).map (fun g => (g, 0))), (688, 1041, (xn 1 16 ++ xn 641 16).map (fun g => (g, 0))), (1361, 1061, ky_oT.map (fun r => (688 + r, 0)))]
def ky_ctx : List xk_Q := [(151, (99, 0), kr_inv), (189, (99, 0), kr_tim0_0_11), (169, (99, 0), kr_pack)]
def ky_re (u : Nat) : Nat → xk_O := fun g => if g = 1 then (0, 1) else if g < 33 then (0, 0) else if g < 49 then (673 + ky_oU.getD (g - 33) 0, 0) else if g = 49 then (0, 1) else if g < 65 then (0, 0) else if 145 ≤ g ∧ g < 161 then (640 + ky_oU.getD (g - 145) 0, 0) else if g = 640 then (0, ((32 * u : Nat) : Int)) else (g, 0)
def ky_te (u : Nat) : List xk_E := [(640, 1022 + 2 * u, (xn (288 + 32 * u) 32).map (fun g => (g, 0))), (673, 1023 + 2 * u, (xn (288 + 32 * u) 32).map (fun g => (g, 0)))]
