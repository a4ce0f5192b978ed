/-! the second checker: 22 -/
section CKHI
variable {p : Program} {l : Launch} {e : Env} {R : Room} {s : State} {m : MethodId} {args : Array Value} {below : List Frame} {meth : Method} {c : Code} {cells slots : Nat} {Q : State → Prop}
variable {cc : ByteArray} {pc pc2 nL nS : Nat} {D : va_G} {AC : Nat → ClassId} {S : Nat → Nat} {tab : List ck_D} {L : Heap} {ρ0 : Nat → Int} {wr : List Nat} {G0 : Nat → Nat} {N0 : List Nat} {H0 : Heap}
variable {A : List (Nat × ck_V)} {st : List ck_V} {T : List ck_C} {own : String}
theorem gcw_tgS {B : ck_A} (kk : gck_W p l e R s m args below meth c Q D AC S tab L nL ρ0 wr G0 N0 H0 pc (ck_tgS B) cells slots) : gck_W p l e R s m args below meth c Q D AC S tab L nL ρ0 wr G0 N0 H0 pc B cells slots := by
  unfold ck_tgS at kk
  split at kk
  · split at kk
    · rename_i h
      exact gcw_tag1 h.2 (Or.inr (by omega)) kk
    · exact kk
  · exact kk
theorem gcw_sto (hexec : p.tables.exec = Jvm.exec) (hb : c.code = cc) {i : Instr} {n : Nat} {v : ck_V} {A' : List (Nat × ck_V)} (hd : decode cc pc = .ok (i, n)) (h : ck_sto nL i n A v = some A')
    (k : gck_W p l e R s m args below meth c Q D AC S tab L nL ρ0 wr G0 N0 H0 (pc + n) (A', st, T) cells slots) : gck_W p l e R s m args below meth c Q D AC S tab L nL ρ0 wr G0 N0 H0 pc (A, v :: st, T) cells slots := by
  unfold ck_sto at h
  split at h
  · rename_i hkn
    split at h
    · split at h
      · rename_i hc
        obtain ⟨rfl, c1⟩ := hc
        cases h
        refine gcw_store1 rfl hkn c1 (fun hv hl w => ?_) k
        obtain ⟨x, rfl, -⟩ := hv
        exact lv_istore hexec hb hd hl c1 rfl w
      · cases h
    · split at h
      · rename_i hc
        obtain ⟨rfl, c1⟩ := hc
        cases h
        refine gcw_store1 rfl hkn c1 (fun hv hl w => ?_) k
        obtain ⟨x, rfl, -⟩ := hv
        exact lv_istore_n hexec hb hd rfl hl c1 rfl w
      · cases h
    · split at h
      · rename_i q hc
        obtain ⟨rfl, c1, c2⟩ := hc
        cases h
        refine gcw_store1 rfl hkn c1 (fun hv hl w => ?_) k
        obtain ⟨q1, q2⟩ := q
        rcases ck_isRef hv c2 with rfl | ⟨a, rfl⟩
        · exact lv_astoreN hexec hb hd hl c1 rfl w
        · exact lv_astore hexec hb hd hl c1 rfl w
      · cases h
    · split at h
      · rename_i q hc
        obtain ⟨rfl, c1, c2⟩ := hc
        cases h
        refine gcw_store1 rfl hkn c1 (fun hv hl w => ?_) k
        obtain ⟨q1, q2⟩ := q
        rcases ck_isRef hv c2 with rfl | ⟨a, rfl⟩
        · exact lv_astore_nN hexec hb hd rfl hl c1 rfl w
        · exact lv_astore_n hexec hb hd rfl hl c1 rfl w
      · cases h
    · split at h
      · rename_i hc
        obtain ⟨rfl, c1⟩ := hc
        cases h
        refine gcw_store2 hkn c1 (fun hv hl w => ?_) k
        obtain ⟨x, rfl, -⟩ := hv
        exact lv_lstore hexec hb hd hl c1 rfl w
      · cases h
    · split at h
      · rename_i hc
        obtain ⟨rfl, c1⟩ := hc
        cases h
        refine gcw_store2 hkn c1 (fun hv hl w => ?_) k
        obtain ⟨x, rfl, -⟩ := hv
        exact lv_lstore_n hexec hb hd rfl hl c1 rfl w
      · cases h
    · cases h
  · cases h
theorem gcw_gf (hexec : p.tables.exec = Jvm.exec) (hb : c.code = cc) (hown : s.vm.findClass own = some m.cls) (hK : va_K D ck_cl (ck_tys AC) s) (hts : ∀ w ∈ ck_tb, w.before args s = true) {fl : List (Nat × Nat × Nat)} (hfl : ∀ q ∈ fl, ck_lnk own q.1 q.2.1 q.2.2) {idx : Nat} {v r : ck_V} (hd : decode cc pc = .ok (.getfield idx, 3)) (h : ck_gf tab fl T idx r = some v)
    (kk : gck_W p l e R s m args below meth c Q D AC S tab L nL ρ0 wr G0 N0 H0 (pc + 3) (A, v :: st, T) cells slots) : gck_W p l e R s m args below meth c Q D AC S tab L nL ρ0 wr G0 N0 H0 pc (A, r :: st, T) cells slots := by
  unfold ck_gf at h
  split at h
  · rename_i ci k i hl
    have hlk := hfl _ (ck_lk_mem hl)
    split at h
    · rename_i cj fs hi
      split at h
      · rename_i e
        subst e
        exact gcw_getNm hexec hb hown hK hts (Or.inl rfl) hlk hi h hd kk
      · cases h
    · rename_i τ fs hi
      split at h
      · rename_i cj ks hτ
        split at h
        · rename_i e
          subst e
          exact gcw_getNm hexec hb hown hK hts (Or.inr ⟨τ, ks, rfl, hτ⟩) hlk hi h hd kk
        · cases h
      · cases h
    · cases h
  · rename_i ci k τ hl
    have hlk := hfl _ (ck_lk_mem hl)
    split at h
    · rename_i cj ks hτ
      split at h
      · rename_i e
        subst e
        split at h
        · rename_i w hw
          split at h
          · rename_i hp
            cases h
            exact gcw_getTy hexec hb hown hK hts hτ hlk hw hp hd kk
          · cases h
        · cases h
      · cases h
    · cases h
  · cases h
theorem gcw_pf (hexec : p.tables.exec = Jvm.exec) (hb : c.code = cc) (hown : s.vm.findClass own = some m.cls) (hK : va_K D ck_cl (ck_tys AC) s) (hts : ∀ w ∈ ck_tb, w.before args s = true) {nm : String} (hnm : meth.name = nm) {fl : List (Nat × Nat × Nat)} (hfl : ∀ q ∈ fl, ck_lnk own q.1 q.2.1 q.2.2) {idx : Nat} {v r : ck_V} {T' : List ck_C} (hd : decode cc pc = .ok (.putfield idx, 3)) (h : ck_pf tab wr fl own nm T idx v r = some T')
    (kk : gck_W p l e R s m args below meth c Q D AC S tab L nL ρ0 wr G0 N0 H0 (pc + 3) (A, st, T') cells slots) : gck_W p l e R s m args below meth c Q D AC S tab L nL ρ0 wr G0 N0 H0 pc (A, v :: r :: st, T) cells slots := by
  unfold ck_pf at h
  split at h
  · rename_i ci k i hl
    have hlk := hfl _ (ck_lk_mem hl)
    split at h
    · rename_i hff
      simp only [Bool.and_eq_true] at hff
      obtain ⟨hfin, hfit⟩ := hff
      split at h
      · rename_i cj fs hi
        split at h
        · rename_i e
          subst e
          cases h
          exact gcw_putOwn hexec hb hown hK hts hlk hi (ck_fin_ok hfin hnm) hfit hd kk
        · cases h
      · rename_i τ fs hi
        split at h
        · rename_i cj ks hτ
          split at h
          · rename_i kd hkd
            split at h
            · rename_i hc
              obtain ⟨rfl, c1, c2, c3, c4⟩ := hc
              cases h
              exact gcw_putFoc hexec hb hown hK hts hτ hlk hi hkd c1 c2 (ck_fin_ok hfin hnm) hfit (by simpa using c4) (ck_nofX_ok c3) hd kk
            · cases h
          · cases h
        · cases h
      · cases h
    · cases h
  · rename_i ci k τ hl
    have hlk := hfl _ (ck_lk_mem hl)
    split at h
    · rename_i hff
      simp only [Bool.and_eq_true] at hff
      obtain ⟨hfin, hfit⟩ := hff
      split at h
      · rename_i cj ks hτ
        split at h
        · rename_i kd hkd
          split at h
          · rename_i hc
            obtain ⟨rfl, c1, c2, c3, c4⟩ := hc
            cases h
            exact gcw_putTy hexec hb hown hK hts hτ hlk hkd c1 c2 (ck_fin_ok hfin hnm) hfit (by simpa using c4) (ck_nof_ok c3) hd kk
          · cases h
        · cases h
      · cases h
    · cases h
  · cases h
end CKHI
