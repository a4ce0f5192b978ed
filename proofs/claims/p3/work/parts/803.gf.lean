/-! ===== the same numbers on both sides ===== -/
theorem gf_agr {Φc Φr : Nat → Nat → List Int → Int} (HC : kX Φc) (HR : kY Φr) {u : Nat} (hu : u < 4) {B P : List Int} (hB : B.length = 32) (hP : kn_by P) (j : Nat) : Φc 50 j (B ++ P) = Φr (62 + u) j (B ++ P) := by
  rw [HC.2, HR.2 u hu, List.take_left' hB, List.drop_left' hB, kx_rk_ok HC hP, ky_rk_ok HR hu hP]
theorem gf_mac {Φ : Nat → Nat → List Int → Int} (HC : kMc Φ) (HR : kMr Φ) {k : Nat} (hk : k < 4) {A B : List Int} (hA : A.length = 32) (hB : B.length = 32) {j : Nat} (hj : j < 32) : Φ 1000 j (A ++ B) = Φ (1001 + k) j (A ++ B) := by
  rw [HC.2, HR.2 k hk, List.take_left' hA, List.drop_left' hA, kq_cls HC.1 hA hB]
  have hr : (List.range 32).map (fun r => Φ (34 + k) (14305 + 2 * r) (A ++ B)) = kq_mac Φ A B := by
    match k, hk with
    | 0, _ => exact kq_ref0 HR.1 hA hB
    | 1, _ => exact kq_ref1 HR.1 hA hB
    | 2, _ => exact kq_ref2 HR.1 hA hB
    | 3, _ => exact kq_ref3 HR.1 hA hB
  rw [← hr, List.getD_eq_getElem?_getD, List.getElem?_map, List.getElem?_range hj]
  rfl
theorem gf_dig {Φ : Nat → Nat → List Int → Int} (HC : kG Φ) (HR : kS Φ) {n : Nat} (hn : n < 129) {v : List Int} (hv : v.length = n) (j : Nat) : Φ (400 + n) j v = Φ (800 + n) j v := by
  rw [HC.2 n hn, HR.2 n hn, ks_same HC.1.1 hn hv]
/-- one byte of eight -/
theorem gf_by (x : Int64) {i : Nat} (hi : i < 8) : xk_sem 3 [xk_sem 30 [xk_sem 28 [x.toInt, ((8 * i : Nat) : Int)]], 255] = xk_sem 3 [xk_sem 30 [xk_sem 27 [x.toInt, ((8 * i : Nat) : Int)]], 255] := by
  have h28 : ∀ (y : Int32), xk_sem 28 [x.toInt, y.toInt] = ((x.toUInt64 >>> (y.toInt64.toUInt64 &&& Int64.toUInt64 63)).toInt64).toInt := fun y => xk_semS (by decide) (by decide) x y []
  have h27 : ∀ (y : Int32), xk_sem 27 [x.toInt, y.toInt] = (x >>> (y.toInt64 &&& 63)).toInt := fun y => xk_semS (by decide) (by decide) x y []
  have h30 : ∀ z : Int64, xk_sem 30 [z.toInt] = z.toInt32.toInt := fun z => by
    show (Int64.ofInt z.toInt).toInt32.toInt = _
    rw [xk_i64]
  have h3 : ∀ z : Int32, xk_sem 3 [z.toInt, 255] = (z &&& 255).toInt := fun z => xk_sem32 (op := 3) (by decide) z 255 []
  have key : ∀ y : Int32, ((x.toUInt64 >>> (y.toInt64.toUInt64 &&& Int64.toUInt64 63)).toInt64.toInt32 &&& 255) = ((x >>> (y.toInt64 &&& 63)).toInt32 &&& 255) → xk_sem 3 [xk_sem 30 [xk_sem 28 [x.toInt, y.toInt]], 255] = xk_sem 3 [xk_sem 30 [xk_sem 27 [x.toInt, y.toInt]], 255] := fun y h => by
    rw [h28, h27, h30, h30, h3, h3, h]
  have bit : ∀ (n : Nat) (u : BitVec 64), n + 8 ≤ 64 → ((u >>> n).setWidth 32 &&& 255#32) = ((u.sshiftRight n).setWidth 32 &&& 255#32) := fun n u hn => by
    apply BitVec.eq_of_getLsbD_eq
    intro b hb
    simp only [BitVec.getLsbD_and, BitVec.getLsbD_setWidth, BitVec.getLsbD_ushiftRight, BitVec.getLsbD_sshiftRight]
    by_cases h8 : b < 8
    · simp [show n + b < 64 by omega, show ¬ 64 ≤ b by omega]
    · have : (255#32).getLsbD b = false := by
        have hb' : b ≥ 8 := by omega
        have : (255#32) = (BitVec.allOnes 8).setWidth 32 := by decide
        rw [this, BitVec.getLsbD_setWidth, BitVec.getLsbD_allOnes]
        simp [show ¬ b < 8 by omega]
      rw [this, Bool.and_false, Bool.and_false]
  have bit' : ∀ (n : Nat) (u c d : BitVec 64), c.toNat = n → d.toNat = n → n + 8 ≤ 64 → ((u >>> c).signExtend 32 &&& 255#32) = ((u.sshiftRight' d).signExtend 32 &&& 255#32) := fun n u c d hc hd hn => by
    rw [BitVec.signExtend_eq_setWidth_of_le _ (by omega), BitVec.signExtend_eq_setWidth_of_le _ (by omega), BitVec.ushiftRight_eq', BitVec.sshiftRight_eq', hc, hd]
    exact bit n u hn
  match i, hi with
  | 0, _ => exact key 0 (Int32.toBitVec_inj.mp (bit' 0 x.toBitVec (((0 : Int32).toInt64.toUInt64 &&& Int64.toUInt64 63).toBitVec % 64#64) (((0 : Int32).toInt64 &&& 63).toBitVec.smod 64#64) (by decide) (by decide) (by omega)))
  | 1, _ => exact key 8 (Int32.toBitVec_inj.mp (bit' 8 x.toBitVec (((8 : Int32).toInt64.toUInt64 &&& Int64.toUInt64 63).toBitVec % 64#64) (((8 : Int32).toInt64 &&& 63).toBitVec.smod 64#64) (by decide) (by decide) (by omega)))
  | 2, _ => exact key 16 (Int32.toBitVec_inj.mp (bit' 16 x.toBitVec (((16 : Int32).toInt64.toUInt64 &&& Int64.toUInt64 63).toBitVec % 64#64) (((16 : Int32).toInt64 &&& 63).toBitVec.smod 64#64) (by decide) (by decide) (by omega)))
  | 3, _ => exact key 24 (Int32.toBitVec_inj.mp (bit' 24 x.toBitVec (((24 : Int32).toInt64.toUInt64 &&& Int64.toUInt64 63).toBitVec % 64#64) (((24 : Int32).toInt64 &&& 63).toBitVec.smod 64#64) (by decide) (by decide) (by omega)))
  | 4, _ => exact key 32 (Int32.toBitVec_inj.mp (bit' 32 x.toBitVec (((32 : Int32).toInt64.toUInt64 &&& Int64.toUInt64 63).toBitVec % 64#64) (((32 : Int32).toInt64 &&& 63).toBitVec.smod 64#64) (by decide) (by decide) (by omega)))
  | 5, _ => exact key 40 (Int32.toBitVec_inj.mp (bit' 40 x.toBitVec (((40 : Int32).toInt64.toUInt64 &&& Int64.toUInt64 63).toBitVec % 64#64) (((40 : Int32).toInt64 &&& 63).toBitVec.smod 64#64) (by decide) (by decide) (by omega)))
  | 6, _ => exact key 48 (Int32.toBitVec_inj.mp (bit' 48 x.toBitVec (((48 : Int32).toInt64.toUInt64 &&& Int64.toUInt64 63).toBitVec % 64#64) (((48 : Int32).toInt64 &&& 63).toBitVec.smod 64#64) (by decide) (by decide) (by omega)))
  | 7, _ => exact key 56 (Int32.toBitVec_inj.mp (bit' 56 x.toBitVec (((56 : Int32).toInt64.toUInt64 &&& Int64.toUInt64 63).toBitVec % 64#64) (((56 : Int32).toInt64 &&& 63).toBitVec.smod 64#64) (by decide) (by decide) (by omega)))
theorem gf_put {Φ : Nat → Nat → List Int → Int} (H : kE Φ) (x : Int64) {i : Nat} (hi : i < 8) : Φ 1010 (2 + 3 * i) [x.toInt] = Φ 1031 (2 + 3 * i) [x.toInt] := by
  rw [H.2.1, H.2.2.2.2]
  match i, hi with
  | 0, _ => exact gf_by x (i := 0) (by omega)
  | 1, _ => exact gf_by x (i := 1) (by omega)
  | 2, _ => exact gf_by x (i := 2) (by omega)
  | 3, _ => exact gf_by x (i := 3) (by omega)
  | 4, _ => exact gf_by x (i := 4) (by omega)
  | 5, _ => exact gf_by x (i := 5) (by omega)
  | 6, _ => exact gf_by x (i := 6) (by omega)
  | 7, _ => exact gf_by x (i := 7) (by omega)
def gf_8 (b0 b1 b2 b3 b4 b5 b6 b7 : Int) : Int :=
  let up := fun (t b : Int) => xk_sem 24 [xk_sem 26 [t, 8], b]
  up (up (up (up (up (up (up (xk_sem 24 [0, b7]) b6) b5) b4) b3) b2) b1) b0
set_option maxRecDepth 100000 in
theorem gf_get {Φ : Nat → Nat → List Int → Int} (H : kE Φ) {c j : Nat} (hc : c < 4) (hj : j < 16) (b0 b1 b2 b3 b4 b5 b6 b7 : Int) : Φ (1011 + c) 14 [b0, b1, b2, b3, b4, b5, b6, b7] = Φ (1015 + j) 14 [b0, b1, b2, b3, b4, b5, b6, b7] := by
  have e1 : Φ (1011 + c) 14 [b0, b1, b2, b3, b4, b5, b6, b7] = gf_8 b0 b1 b2 b3 b4 b5 b6 b7 := by
    rw [H.2.2.1 c hc]
    match c, hc with
    | 0, _ => rfl
    | 1, _ => rfl
    | 2, _ => rfl
    | 3, _ => rfl
  have e2 : Φ (1015 + j) 14 [b0, b1, b2, b3, b4, b5, b6, b7] = gf_8 b0 b1 b2 b3 b4 b5 b6 b7 := by
    rw [H.2.2.2.1 j hj]
    match j, hj with
    | 0, _ => rfl
    | 1, _ => rfl
    | 2, _ => rfl
    | 3, _ => rfl
    | 4, _ => rfl
    | 5, _ => rfl
    | 6, _ => rfl
    | 7, _ => rfl
    | 8, _ => rfl
    | 9, _ => rfl
    | 10, _ => rfl
    | 11, _ => rfl
    | 12, _ => rfl
    | 13, _ => rfl
    | 14, _ => rfl
    | 15, _ => rfl
    | j + 16, h => exact absurd h (by omega)
  rw [e1, e2]
