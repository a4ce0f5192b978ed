/-! the second checker: 08 -/
section CKB
variable {p : Program} {l : Launch} {e : Env} {R : Room} {s : State} {m : MethodId} {args : Array Value} {below : List Frame} {meth : Method} {c : Code} {cells slots : Nat} {Q : State → Prop}
variable {cc : ByteArray} {pc pc2 nL : Nat} {D : va_G} {AC : Nat → ClassId} {S : Nat → Nat} {tab : List ck_D} {L : Heap} {ρ0 : Nat → Int} {wr : List Nat} {G0 : Nat → Nat} {N0 : List Nat} {H0 : Heap}
variable {A : List (Nat × ck_V)} {st : List ck_V} {T : List ck_C}
/-- an abstract state, with its ghosts, types and names shown -/
def gck_sx (D : va_G) (AC : Nat → ClassId) (S : Nat → Nat) (tab : List ck_D) (L : Heap) (nL : Nat) (ρ0 : Nat → Int) (wr : List Nat) (G0 : Nat → Nat) (N0 : List Nat) (H0 : Heap) (A : ck_A) (H : Heap) (ls : Array Slot) (st : List Value) (locs : List Loc) (ρ : Nat → Int) (G : Nat → Nat) (N : List Nat) : Prop :=
  ∃ lv : List (Nat × Value), lv_has ls nL lv ∧ ck_all (ck_RL S ρ G N) A.1 lv ∧ ck_all (ck_R S ρ G N) A.2.1 st ∧ ck_H D AC S tab L ρ G N A.2.2 H ∧ gck_F wr G0 N0 H0 G N A.2.2 H ∧ (∀ q ∈ locs, L.size ≤ q.base) ∧ ∀ g, 100 ≤ g → g < 200 → ρ g = ρ0 g
theorem gck_sx.out {A : ck_A} {H : Heap} {ls : Array Slot} {st : List Value} {locs : List Loc} {ρ : Nat → Int} {G : Nat → Nat} {N : List Nat} (h : gck_sx D AC S tab L nL ρ0 wr G0 N0 H0 A H ls st locs ρ G N) : gck_st D AC S tab L nL ρ0 wr G0 N0 H0 A H ls st locs := ⟨ρ, G, N, h⟩
theorem gck_sx.tg {A : ck_A} {H : Heap} {ls : Array Slot} {st : List Value} {locs : List Loc} {ρ : Nat → Int} {G : Nat → Nat} {N : List Nat} (h : gck_sx D AC S tab L nL ρ0 wr G0 N0 H0 A H ls st locs ρ G N) {g : Nat} {lo hi : Int} (h1 : lo ≤ ρ g) (h2 : ρ g ≤ hi) : gck_sx D AC S tab L nL ρ0 wr G0 N0 H0 (ck_tgA g lo hi A) H ls st locs ρ G N := by
  obtain ⟨lv, a1, a2, a3, a4, a5, a6, a7⟩ := h
  exact ⟨lv, a1, a2.map _ (fun q w hq => ⟨hq.1, ck_tg_ok h1 h2 hq.2⟩), a3.map _ (fun q w hq => ck_tg_ok h1 h2 hq), a4.mapV _ (fun k v hk => ck_tg_ok h1 h2 hk), a5.mapV _, a6, a7⟩
theorem gck_sx.tgO {A : ck_A} {H : Heap} {ls : Array Slot} {st : List Value} {locs : List Loc} {ρ : Nat → Int} {G : Nat → Nat} {N : List Nat} (h : gck_sx D AC S tab L nL ρ0 wr G0 N0 H0 A H ls st locs ρ G N) {q : ck_Q} {x : Int32} (hq : ck_in ρ q x) {lo hi : Int} (h1 : lo ≤ x.toInt) (h2 : x.toInt ≤ hi) : gck_sx D AC S tab L nL ρ0 wr G0 N0 H0 (ck_tgO q.2.2 lo hi A) H ls st locs ρ G N := by
  unfold ck_tgO
  split
  · rename_i g c hg
    have := hq.2.2 g c hg
    exact h.tg (by omega) (by omega)
  · exact h
/-- two ints are compared -/
theorem gcw_cmp (k : ClassFile.Cond) {a b : ck_Q} {tgt : Nat}
    (row : ∀ {H : Heap} {ls : Array Slot} {rest : List Value} {locs : List Loc} {x y : Int32}, (ck_hold k x.toInt y.toInt → W p l e R s m args below meth c H locs cells slots Q (F0 m tgt ls rest)) → (¬ ck_hold k x.toInt y.toInt → W p l e R s m args below meth c H locs cells slots Q (F0 m pc2 ls rest)) → W p l e R s m args below meth c H locs cells slots Q (F0 m pc ls (.int y :: .int x :: rest)))
    (kt : ∀ r, ck_ref k (a.1, a.2.1) (b.1, b.2.1) = some r → gck_W p l e R s m args below meth c Q D AC S tab L nL ρ0 wr G0 N0 H0 tgt (ck_tgO b.2.2 r.2.1 r.2.2 (ck_tgO a.2.2 r.1.1 r.1.2 (A, st, T))) cells slots)
    (kf : ∀ r, ck_ref (ck_neg k) (a.1, a.2.1) (b.1, b.2.1) = some r → gck_W p l e R s m args below meth c Q D AC S tab L nL ρ0 wr G0 N0 H0 pc2 (ck_tgO b.2.2 r.2.1 r.2.2 (ck_tgO a.2.2 r.1.1 r.1.2 (A, st, T))) cells slots) :
    gck_W p l e R s m args below meth c Q D AC S tab L nL ρ0 wr G0 N0 H0 pc (A, .inl b :: .inl a :: st, T) cells slots := by
  intro H ls vs locs h
  obtain ⟨ρ, G, N, lv, h1, h2, h3, h4, h5, h6, h7⟩ := h
  obtain ⟨_, vs', rfl, ⟨y, rfl, gy⟩, g2⟩ := h3.uncons
  obtain ⟨_, vs'', rfl, ⟨x, rfl, gx⟩, g3⟩ := g2.uncons
  have hsx : gck_sx D AC S tab L nL ρ0 wr G0 N0 H0 (A, st, T) H ls vs'' locs ρ G N := ⟨lv, h1, h2, g3, h4, h5, h6, h7⟩
  refine row (fun hk => ?_) (fun hk => ?_)
  · obtain ⟨r, hr, r1, r2, r3, r4⟩ := ck_ref_ok (x := (a.1, a.2.1)) (y := (b.1, b.2.1)) hk gx.1 gx.2.1 gy.1 gy.2.1
    exact kt r hr H ls vs'' locs ((hsx.tgO gx r1 r2).tgO gy r3 r4).out
  · obtain ⟨r, hr, r1, r2, r3, r4⟩ := ck_ref_ok (x := (a.1, a.2.1)) (y := (b.1, b.2.1)) (ck_neg_ok hk) gx.1 gx.2.1 gy.1 gy.2.1
    exact kf r hr H ls vs'' locs ((hsx.tgO gx r1 r2).tgO gy r3 r4).out
/-- an int is compared with 0 -/
theorem gcw_if (k : ClassFile.Cond) {a : ck_Q} {tgt : Nat}
    (row : ∀ {H : Heap} {ls : Array Slot} {rest : List Value} {locs : List Loc} {x : Int32}, (ck_hold k x.toInt 0 → W p l e R s m args below meth c H locs cells slots Q (F0 m tgt ls rest)) → (¬ ck_hold k x.toInt 0 → W p l e R s m args below meth c H locs cells slots Q (F0 m pc2 ls rest)) → W p l e R s m args below meth c H locs cells slots Q (F0 m pc ls (.int x :: rest)))
    (kt : ∀ r, ck_ref k (a.1, a.2.1) (0, 0) = some r → gck_W p l e R s m args below meth c Q D AC S tab L nL ρ0 wr G0 N0 H0 tgt (ck_tgO a.2.2 r.1.1 r.1.2 (A, st, T)) cells slots)
    (kf : ∀ r, ck_ref (ck_neg k) (a.1, a.2.1) (0, 0) = some r → gck_W p l e R s m args below meth c Q D AC S tab L nL ρ0 wr G0 N0 H0 pc2 (ck_tgO a.2.2 r.1.1 r.1.2 (A, st, T)) cells slots) :
    gck_W p l e R s m args below meth c Q D AC S tab L nL ρ0 wr G0 N0 H0 pc (A, .inl a :: st, T) cells slots := by
  intro H ls vs locs h
  obtain ⟨ρ, G, N, lv, h1, h2, h3, h4, h5, h6, h7⟩ := h
  obtain ⟨_, vs'', rfl, ⟨x, rfl, gx⟩, g3⟩ := h3.uncons
  have hsx : gck_sx D AC S tab L nL ρ0 wr G0 N0 H0 (A, st, T) H ls vs'' locs ρ G N := ⟨lv, h1, h2, g3, h4, h5, h6, h7⟩
  refine row (fun hk => ?_) (fun hk => ?_)
  · obtain ⟨r, hr, r1, r2, -⟩ := ck_ref_ok (x := (a.1, a.2.1)) (y := (0, 0)) hk gx.1 gx.2.1 (Int.le_refl _) (Int.le_refl _)
    exact kt r hr H ls vs'' locs (hsx.tgO gx r1 r2).out
  · obtain ⟨r, hr, r1, r2, -⟩ := ck_ref_ok (x := (a.1, a.2.1)) (y := (0, 0)) (ck_neg_ok hk) gx.1 gx.2.1 (Int.le_refl _) (Int.le_refl _)
    exact kf r hr H ls vs'' locs (hsx.tgO gx r1 r2).out
theorem gcw_icmp (hexec : p.tables.exec = Jvm.exec) (hb : c.code = cc) {k : ClassFile.Cond} {a b : ck_Q} {tgt : Nat} {off : Int} (hd : decode cc pc = .ok (.if_icmp k off, 3)) (ht : (pc : Int) + off = (tgt : Int))
    (kt : ∀ r, ck_ref k (a.1, a.2.1) (b.1, b.2.1) = some r → gck_W p l e R s m args below meth c Q D AC S tab L nL ρ0 wr G0 N0 H0 tgt (ck_tgO b.2.2 r.2.1 r.2.2 (ck_tgO a.2.2 r.1.1 r.1.2 (A, st, T))) cells slots)
    (kf : ∀ r, ck_ref (ck_neg k) (a.1, a.2.1) (b.1, b.2.1) = some r → gck_W p l e R s m args below meth c Q D AC S tab L nL ρ0 wr G0 N0 H0 (pc + 3) (ck_tgO b.2.2 r.2.1 r.2.2 (ck_tgO a.2.2 r.1.1 r.1.2 (A, st, T))) cells slots) :
    gck_W p l e R s m args below meth c Q D AC S tab L nL ρ0 wr G0 N0 H0 pc (A, .inl b :: .inl a :: st, T) cells slots := by
  refine gcw_cmp k (fun w1 w2 => ?_) kt kf
  cases k with
  | eq => exact lv_icmp_eq hexec hb hd ht (fun h => w1 (by rw [h]; rfl)) (fun h => w2 (fun q => h (Int32.toInt_inj.mp q)))
  | ne => exact lv_icmp_ne hexec hb hd ht (fun h => w1 (fun q => h (Int32.toInt_inj.mp q))) (fun h => w2 (fun q => q (by rw [h])))
  | lt => exact lv_icmp_lt hexec hb hd ht (fun h => w1 (Int32.lt_iff_toInt_lt.mp h)) (fun h => w2 (fun q => h (Int32.lt_iff_toInt_lt.mpr q)))
  | ge => exact lv_icmp_ge hexec hb hd ht (fun h => w1 (Int32.le_iff_toInt_le.mp h)) (fun h => w2 (fun q => h (Int32.le_iff_toInt_le.mpr q)))
  | gt => exact lv_icmp_gt hexec hb hd ht (fun h => w1 (Int32.lt_iff_toInt_lt.mp h)) (fun h => w2 (fun q => h (Int32.lt_iff_toInt_lt.mpr q)))
  | le => exact lv_icmp_le hexec hb hd ht (fun h => w1 (Int32.le_iff_toInt_le.mp h)) (fun h => w2 (fun q => h (Int32.le_iff_toInt_le.mpr q)))
theorem gcw_ifc (hexec : p.tables.exec = Jvm.exec) (hb : c.code = cc) {k : ClassFile.Cond} {a : ck_Q} {tgt : Nat} {off : Int} (hd : decode cc pc = .ok (.ifCond k off, 3)) (ht : (pc : Int) + off = (tgt : Int))
    (kt : ∀ r, ck_ref k (a.1, a.2.1) (0, 0) = some r → gck_W p l e R s m args below meth c Q D AC S tab L nL ρ0 wr G0 N0 H0 tgt (ck_tgO a.2.2 r.1.1 r.1.2 (A, st, T)) cells slots)
    (kf : ∀ r, ck_ref (ck_neg k) (a.1, a.2.1) (0, 0) = some r → gck_W p l e R s m args below meth c Q D AC S tab L nL ρ0 wr G0 N0 H0 (pc + 3) (ck_tgO a.2.2 r.1.1 r.1.2 (A, st, T)) cells slots) :
    gck_W p l e R s m args below meth c Q D AC S tab L nL ρ0 wr G0 N0 H0 pc (A, .inl a :: st, T) cells slots := by
  refine gcw_if k (fun w1 w2 => ?_) kt kf
  have z : (0 : Int32).toInt = 0 := rfl
  cases k with
  | eq => exact lv_if_eq hexec hb hd ht (fun h => w1 (by rw [h]; rfl)) (fun h => w2 (fun q => h (Int32.toInt_inj.mp q)))
  | ne => exact lv_if_ne hexec hb hd ht (fun h => w1 (fun q => h (Int32.toInt_inj.mp q))) (fun h => w2 (fun q => q (by rw [h]; rfl)))
  | lt => exact lv_if_lt hexec hb hd ht (fun h => w1 (Int32.lt_iff_toInt_lt.mp h)) (fun h => w2 (fun q => h (Int32.lt_iff_toInt_lt.mpr q)))
  | ge => exact lv_if_ge hexec hb hd ht (fun h => w1 (Int32.le_iff_toInt_le.mp h)) (fun h => w2 (fun q => h (Int32.le_iff_toInt_le.mpr q)))
  | gt => exact lv_if_gt hexec hb hd ht (fun h => w1 (Int32.lt_iff_toInt_lt.mp h)) (fun h => w2 (fun q => h (Int32.lt_iff_toInt_lt.mpr q)))
  | le => exact lv_if_le hexec hb hd ht (fun h => w1 (Int32.le_iff_toInt_le.mp h)) (fun h => w2 (fun q => h (Int32.le_iff_toInt_le.mpr q)))
theorem gcw_goto (hexec : p.tables.exec = Jvm.exec) (hb : c.code = cc) {tgt : Nat} {off : Int} (hd : decode cc pc = .ok (.goto off, 3)) (ht : (pc : Int) + off = (tgt : Int))
    (k : gck_W p l e R s m args below meth c Q D AC S tab L nL ρ0 wr G0 N0 H0 tgt (A, st, T) cells slots) : gck_W p l e R s m args below meth c Q D AC S tab L nL ρ0 wr G0 N0 H0 pc (A, st, T) cells slots :=
  fun H ls vs locs h => lv_goto hexec hb hd ht (k H ls vs locs h)
theorem gcw_iinc (hexec : p.tables.exec = Jvm.exec) (hb : c.code = cc) {i : Nat} {n : Int} {q : ck_Q} (hd : decode cc pc = .ok (.iinc i n, 3)) (hq : ck_loc A i = some (.inl q)) (hn : i < nL) (hkn : A.all (fun q => ck_kn q.2) = true) (hr : (Int32.ofInt n).toInt = n)
    (kk : gck_W p l e R s m args below meth c Q D AC S tab L nL ρ0 wr G0 N0 H0 (pc + 3) (ck_s1 A i (ck_add q (n, n, none)), st, T) cells slots) : gck_W p l e R s m args below meth c Q D AC S tab L nL ρ0 wr G0 N0 H0 pc (A, st, T) cells slots := by
  intro H ls vs locs h
  obtain ⟨ρ, G, N, lv, h1, h2, h3, h4, h5, h6, h7⟩ := h
  obtain ⟨j, v, g1, ⟨x, rfl, gx⟩⟩ := ck_loc_ok h2 hq
  have hc : ck_in ρ (n, n, none) (Int32.ofInt n) := ⟨by dsimp only; omega, by dsimp only; omega, fun g c q => by cases q⟩
  obtain ⟨q', e', hq'⟩ := ck_add_ok gx hc
  refine lv_iinc hexec hb hd h1 g1 rfl hn rfl fun ls' hl' => kk H ls' vs locs ⟨ρ, G, N, _, hl', ck_all.cons ⟨rfl, by dsimp only; rw [e']; exact ⟨_, rfl, hq'⟩⟩ (ck_filter _ _ (fun q w hq hkq => ?_) h2 hkn), h3, h4, h5, h6, h7⟩
  rw [← ck_cat hq.2 hkq, hq.1]
/-- a switch: the targets of every number that can come, and the last one where another can -/
theorem gcw_table (hexec : p.tables.exec = Jvm.exec) (hb : c.code = cc) {a : ck_Q} {dflt lo hi : Int} {offs : Array Int} {len : Nat} (hd : decode cc pc = .ok (.tableswitch dflt lo hi offs, len)) {td : Nat} (htd : (pc : Int) + dflt = (td : Int)) (tg : Nat → Nat)
    (htg : ∀ i : Nat, i < (hi - lo + 1).toNat → ∃ off, offs[i]? = some off ∧ (pc : Int) + off = (tg i : Int))
    (kin : ∀ i : Nat, i < (hi - lo + 1).toNat → a.1 ≤ lo + i → lo + i ≤ a.2.1 → gck_W p l e R s m args below meth c Q D AC S tab L nL ρ0 wr G0 N0 H0 (tg i) (A, st, T) cells slots)
    (kout : (a.1 < lo ∨ hi < a.2.1) → gck_W p l e R s m args below meth c Q D AC S tab L nL ρ0 wr G0 N0 H0 td (A, st, T) cells slots) :
    gck_W p l e R s m args below meth c Q D AC S tab L nL ρ0 wr G0 N0 H0 pc (A, .inl a :: st, T) cells slots := by
  intro H ls vs locs h
  obtain ⟨ρ, G, N, lv, h1, h2, h3, h4, h5, h6, h7⟩ := h
  obtain ⟨_, vs', rfl, ⟨x, rfl, gx⟩, g2⟩ := h3.uncons
  have hst : gck_st D AC S tab L nL ρ0 wr G0 N0 H0 (A, st, T) H ls vs' locs := ⟨ρ, G, N, lv, h1, h2, g2, h4, h5, h6, h7⟩
  obtain ⟨x1, x2, -⟩ := gx
  by_cases hlo : x.toInt < lo
  · exact lv_tableOut hexec hb hd (Or.inl hlo) htd (kout (Or.inl (by omega)) H ls vs' locs hst)
  · by_cases hhi : hi < x.toInt
    · exact lv_tableOut hexec hb hd (Or.inr hhi) htd (kout (Or.inr (by omega)) H ls vs' locs hst)
    · obtain ⟨off, o1, o2⟩ := htg (x.toInt - lo).toNat (by omega)
      exact lv_tableIn hexec hb hd hlo hhi o1 o2 (kin (x.toInt - lo).toNat (by omega) (by omega) (by omega) H ls vs' locs hst)
end CKB
