/-! ===== static arrays by other places, other ghosts ===== -/
def ck_sfv : ck_V → Bool
  | .inr (.inr (3, _)) => false
  | _ => true
def ck_sfD : ck_D → Bool
  | .inl (_, _, sg) => sg.all (fun q => ck_sfv q.2)
  | .inr (_, ks) => ks.all ck_sfv
/-- without a static array, without a ghost -/
def ck_chv : ck_V → Bool
  | .inl (_, _, some _) => false
  | .inr (.inr (3, _)) => false
  | _ => true
def ck_chC (c : ck_C) : Bool := (c.1.1 == 0 || c.1.1 == 1) && c.2.all ck_chv
section CKSF
variable {D : va_G} {AC : Nat → ClassId} {S S' : Nat → Nat} {tab : List ck_D} {L : Heap} {ρ ρ' : Nat → Int} {G : Nat → Nat} {N : List Nat} {T : List ck_C} {H : Heap}
theorem ck_R.sf {k : ck_V} {v : Value} (hk : ck_sfv k = true) (h : ck_R S ρ G N k v) : ck_R S' ρ G N k v := by
  match k, h with
  | .inl q, h => exact h
  | .inr (.inl q), h => exact h
  | .inr (.inr (0, _)), h => exact h
  | .inr (.inr (1, i)), h => exact h
  | .inr (.inr (2, τ)), h => exact h
  | .inr (.inr (3, j)), h => cases hk
  | .inr (.inr (4, _)), h => exact h
  | .inr (.inr (n + 5, _)), h => exact trivial
theorem ck_R.ch {k : ck_V} {v : Value} (hk : ck_chv k = true) (h : ck_R S ρ G N k v) : ck_R S' ρ' G N k v := by
  match k, hk, h with
  | .inl (lo, hi, none), _, h =>
    obtain ⟨x, e, h1, h2, -⟩ := h
    exact ⟨x, e, h1, h2, fun g c q => by cases q⟩
  | .inr (.inl q), _, h => exact h
  | .inr (.inr (0, _)), _, h => exact h
  | .inr (.inr (1, i)), _, h => exact h
  | .inr (.inr (2, τ)), _, h => exact h
  | .inr (.inr (4, _)), _, h => exact h
  | .inr (.inr (n + 5, _)), _, h => exact trivial
theorem ck_ty.sf (hT : tab.all ck_sfD = true) {τ a : Nat} (h : ck_ty D AC S tab G τ a H) : ck_ty D AC S' tab G τ a H := by
  unfold ck_ty at h ⊢
  generalize hd : tab[τ]? = d at h
  match d, hd, h with
  | some (.inl (ac, n, sg)), hd, h =>
    have hs := List.all_eq_true.mp hT _ (List.mem_of_getElem? hd)
    obtain ⟨f, f1, f2⟩ := h
    refine ⟨f, f1, fun j hj => ?_⟩
    have key := ck_kat_all (P := fun k => ∀ v, ck_R S (fun _ => 0) G [] k v → ck_R S' (fun _ => 0) G [] k v) (sg := sg) (fun q hq v hv => hv.sf (List.all_eq_true.mp hs q hq)) (fun v _ => trivial) j
    exact key _ (f2 j hj)
  | some (.inr (ci, ks)), hd, h =>
    have hs := List.all_eq_true.mp hT _ (List.mem_of_getElem? hd)
    obtain ⟨vs, v1, v2⟩ := h
    exact ⟨vs, v1, v2.mono fun k v hk hv => hv.sf (List.all_eq_true.mp hs k hk)⟩
  | none, hd, h => exact h
theorem ck_tc.ch {c : ck_C} {a : Nat} (hc : ck_chC c = true) (h : ck_tc D AC S tab L ρ G N H c a) : ck_tc D AC S' tab L ρ' G N H c a := by
  obtain ⟨⟨k, n⟩, fs⟩ := c
  unfold ck_chC at hc
  simp only [Bool.and_eq_true, Bool.or_eq_true, beq_iff_eq] at hc
  obtain ⟨hk, hfs⟩ := hc
  rcases hk with rfl | rfl
  · obtain ⟨a1, a2, vs, a3, a4⟩ := h
    exact ⟨a1, a2, vs, a3, a4.mono fun k v hk hv => hv.ch (List.all_eq_true.mp hfs k hk)⟩
  · obtain ⟨a1, a2, f, a3, a4⟩ := h
    exact ⟨a1, a2, f, a3, fun j v hj => (a4 j v hj).ch (List.all_eq_true.mp hfs v (List.mem_of_getElem? hj))⟩
/-- the first cell otherwise said, the others of objects and arrays of one's own -/
theorem ck_H.ch (hT : tab.all ck_sfD = true) {c0 c1 : ck_C} {Tr : List ck_C} (hc : Tr.all ck_chC = true) (h : ck_H D AC S tab L ρ G N (c0 :: Tr) H) (h0 : ∀ a, N[0]? = some a → ck_tc D AC S' tab L ρ' G N H c1 a) (ho : ck_own c1 = false) : ck_H D AC S' tab L ρ' G N (c1 :: Tr) H := by
  refine ⟨⟨h.1.1, h.1.2.1, fun a ha => ⟨(h.1.2.2 a ha).1, (h.1.2.2 a ha).2.sf hT⟩⟩, h.2.1, fun i c a hi ha => ?_, fun i j c d a hi hj o1 o2 n1 n2 => ?_⟩
  · cases i with
    | zero =>
      cases hi
      exact h0 a ha
    | succ i =>
      have hi : Tr[i]? = some c := by simpa using hi
      exact (h.2.2.1 (i + 1) c a (by simpa using hi) ha).ch (List.all_eq_true.mp hc c (List.mem_of_getElem? hi))
  · cases i with
    | zero => cases hi; rw [ho] at o1; cases o1
    | succ i =>
      cases j with
      | zero => cases hj; rw [ho] at o2; cases o2
      | succ j => exact h.2.2.2 (i + 1) (j + 1) c d a (by simpa using hi) (by simpa using hj) o1 o2 n1 n2
end CKSF
section CKAR
variable {p : Program} {l : Launch} {e : Env} {R : Room} {s : State} {m : MethodId} {args : Array Value} {below : List Frame} {meth : Method} {c : Code} {Q : State → Prop}
variable {nL : Nat} {D : va_G} {AC : Nat → ClassId} {S : Nat → Nat} {tab : List ck_D} {L : Heap} {ρ0 : Nat → Int} {wr : List Nat} {G0 : Nat → Nat} {N0 : List Nat} {H0 : Heap}
/-- where a marked place is come to, it is gone on from as it is marked -/
theorem ck_W.arr {a : ck_An} {y : ck_N} {pc : Nat} (h : ck_arr none a y = true) (k : ck_W p l e R s m args below meth c Q D AC S tab L nL ρ0 wr G0 N0 H0 pc a.1 a.2.2.1 a.2.2.2) : ck_W p l e R s m args below meth c Q D AC S tab L nL ρ0 wr G0 N0 H0 pc y.2.1 y.2.2.1 y.2.2.2 := by
  unfold ck_arr at h
  simp only [Bool.and_eq_true, decide_eq_true_eq] at h
  obtain ⟨⟨⟨⟨e1, e2⟩, e3⟩, -⟩, -⟩ := h
  intro H ls st locs hs
  exact W.widen e1 e2 (k H ls st locs (hs.le e3))
theorem ck_F.refl {G : Nat → Nat} {N : List Nat} {T : List ck_C} {H : Heap} (hl : N.length = T.length) : ck_F wr G N H G N T H := by
  refine ⟨Nat.le_refl _, fun _ _ => rfl, fun _ _ _ => rfl, Nat.le_refl _, fun _ _ => rfl, fun i d a hd ha ho hi => ?_⟩
  have := (List.getElem?_eq_some_iff.mp ha).1
  omega
end CKAR
