/-! ===== contracts that don't speak of static arrays hold with any script ===== -/
def ck_sfv : ck_V → Bool
  | .inr (.inr (3, _)) => false
  | _ => true
def ck_sfC (c : ck_C) : Bool := !(c.1.1 == 5) && c.2.all ck_sfv
def ck_sfD : ck_D → Bool
  | .inl (_, _, sg) => sg.all (fun q => ck_sfv q.2)
  | .inr (_, ks) => ks.all ck_sfv
def ck_sfK (K : ck_Ct) : Bool := K.1.all ck_sfv && (ck_etag K.2.1).all ck_sfC && K.2.2.1.all ck_sfC && (match K.2.2.2.1 with
  | .inl (some k) => ck_sfv k
  | _ => true)
section CKSF
variable {D : va_G} {AC : Nat → ClassId} {S S' : Nat → Nat} {tab : List ck_D} {L : Heap} {ρ : Nat → Int} {G : Nat → Nat} {N : List Nat} {T : List ck_C} {H : Heap}
theorem ck_R.sf {k : ck_V} {v : Value} (hk : ck_sfv k = true) (h : ck_R S ρ G N k v) : ck_R S' ρ G N k v := by
  match k, h with
  | .inl q, h => exact h
  | .inr (.inl q), h => exact h
  | .inr (.inr (0, _)), h => exact h
  | .inr (.inr (1, i)), h => exact h
  | .inr (.inr (2, τ)), h => exact h
  | .inr (.inr (3, j)), h => cases hk
  | .inr (.inr (4, _)), h => exact h
  | .inr (.inr (n + 5, _)), h => exact trivial
theorem ck_ty.sf (hT : tab.all ck_sfD = true) {τ a : Nat} (h : ck_ty D AC S tab G τ a H) : ck_ty D AC S' tab G τ a H := by
  unfold ck_ty at h ⊢
  generalize hd : tab[τ]? = d at h
  match d, hd, h with
  | some (.inl (ac, n, sg)), hd, h =>
    have hs := List.all_eq_true.mp hT _ (List.mem_of_getElem? hd)
    obtain ⟨f, f1, f2⟩ := h
    refine ⟨f, f1, fun j hj => ?_⟩
    have key := ck_kat_all (P := fun k => ∀ v, ck_R S (fun _ => 0) G [] k v → ck_R S' (fun _ => 0) G [] k v) (sg := sg) (fun q hq v hv => hv.sf (List.all_eq_true.mp hs q hq)) (fun v _ => trivial) j
    exact key _ (f2 j hj)
  | some (.inr (ci, ks)), hd, h =>
    have hs := List.all_eq_true.mp hT _ (List.mem_of_getElem? hd)
    obtain ⟨vs, v1, v2⟩ := h
    exact ⟨vs, v1, v2.mono fun k v hk hv => hv.sf (List.all_eq_true.mp hs k hk)⟩
  | none, hd, h => exact h
theorem ck_tc.sf {c : ck_C} {a : Nat} (hc : ck_sfC c = true) (h : ck_tc D AC S tab L ρ G N H c a) : ck_tc D AC S' tab L ρ G N H c a := by
  obtain ⟨⟨k, n⟩, fs⟩ := c
  unfold ck_sfC at hc
  simp only [Bool.and_eq_true] at hc
  obtain ⟨h5, hfs⟩ := hc
  unfold ck_tc at h ⊢
  match k, h, h5 with
  | 0, h, _ => obtain ⟨a1, a2, vs, a3, a4⟩ := h; exact ⟨a1, a2, vs, a3, a4.mono fun k v hk hv => hv.sf (List.all_eq_true.mp hfs k hk)⟩
  | 1, h, _ => obtain ⟨a1, a2, f, a3, a4⟩ := h; exact ⟨a1, a2, f, a3, fun j v hj => (a4 j v hj).sf (List.all_eq_true.mp hfs v (List.mem_of_getElem? hj))⟩
  | 2, h, _ => exact trivial
  | 3, h, _ => obtain ⟨a1, a2, ci, ks, vs, a3, a4, a5⟩ := h; exact ⟨a1, a2, ci, ks, vs, a3, a4, a5.mono fun k v hk hv => hv.sf (List.all_eq_true.mp hfs k hk)⟩
  | 4, h, _ => exact trivial
  | 5, h, h5 => simp at h5
  | n + 6, h, _ => exact trivial
theorem ck_H.sf (hT : tab.all ck_sfD = true) (hc : T.all ck_sfC = true) (h : ck_H D AC S tab L ρ G N T H) : ck_H D AC S' tab L ρ G N T H :=
  ⟨⟨h.1.1, h.1.2.1, fun a ha => ⟨(h.1.2.2 a ha).1, (h.1.2.2 a ha).2.sf hT⟩⟩, h.2.1, fun i c a hi ha => (h.2.2.1 i c a hi ha).sf (List.all_eq_true.mp hc c (List.mem_of_getElem? hi)), h.2.2.2⟩
theorem ck_Ok.nS {l : Launch} {M : ck_M} {K : ck_Ct} (hT : tab.all ck_sfD = true) (hK : ck_sfK K = true) (h : ck_Ok l tab 64 M K) (n : Nat) : ck_Ok l tab n M K := by
  intro p e R s m args below meth c D AC S L ρ0 G0 N0 vs hB htr r1 r2 r3 r4 hKf hargs hv hH
  unfold ck_sfK at hK
  simp only [Bool.and_eq_true] at hK
  obtain ⟨⟨⟨k1, k2⟩, k3⟩, k4⟩ := hK
  have hKf' : ck_Kf D AC (fun j => if j = 2 then S 1 else S j) L s 64 := by
    obtain ⟨z1, z2, z3, z4, z5, z6, z7, z8, z9, z10, z11⟩ := hKf
    exact ⟨z1, z2, z3, z4, z5, z6, z6, z8, z9, z10, z11⟩
  have w := h p e R s m args below meth c D AC (fun j => if j = 2 then S 1 else S j) L ρ0 G0 N0 vs hB htr r1 r2 r3 r4 hKf' hargs (hv.mono fun k v hk hv => hv.sf (List.all_eq_true.mp k1 k hk)) (hH.sf hT k2)
  refine ck_mono (fun t ht => ?_) w
  obtain ⟨o, a1, a2, a3, a4, ρ, G, N, b1, b2, b3, b4⟩ := ht
  refine ⟨o, a1, a2, a3, a4, ρ, G, N, b1.sf hT k3, b2, b3, ?_⟩
  generalize hr : K.2.2.2.1 = r at b4 k4
  match r, b4, k4 with
  | .inl none, b4, k4 => exact b4
  | .inl (some k), b4, k4 =>
    obtain ⟨w, w1, w2⟩ := b4
    exact ⟨w, w1, w2.sf k4⟩
  | .inr x, b4, k4 => exact b4
end CKSF
