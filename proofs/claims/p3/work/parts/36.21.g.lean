/-! the second checker: 21 -/
section CKPU
variable {p : Program} {l : Launch} {e : Env} {R : Room} {s : State} {m : MethodId} {args : Array Value} {below : List Frame} {meth : Method} {c : Code} {cells slots : Nat} {Q : State → Prop}
variable {cc : ByteArray} {pc pc2 nL nS : Nat} {D : va_G} {AC : Nat → ClassId} {S : Nat → Nat} {tab : List ck_D} {L : Heap} {ρ0 : Nat → Int} {wr : List Nat} {G0 : Nat → Nat} {N0 : List Nat} {H0 : Heap}
variable {A : List (Nat × ck_V)} {st : List ck_V} {T : List ck_C} {own : String}
theorem gcw_psh (hexec : p.tables.exec = Jvm.exec) (hb : c.code = cc) (hown : s.vm.findClass own = some m.cls) {kl jl : List (Nat × Int)} (hkl : ∀ q ∈ kl, ∃ v : Int32, v.toInt = q.2 ∧ (Cond.constant own q.1 v).before args s = true) (hjl : ∀ q ∈ jl, ∃ v : Int64, v.toInt = q.2 ∧ (Cond.constantLong own q.1 v).before args s = true)
    {i : Instr} {n : Nat} {v : ck_V} (hd : decode cc pc = .ok (i, n)) (h : ck_psh kl jl A i n = some v)
    (k : gck_W p l e R s m args below meth c Q D AC S tab L nL ρ0 wr G0 N0 H0 (pc + n) (A, v :: st, T) cells slots) : gck_W p l e R s m args below meth c Q D AC S tab L nL ρ0 wr G0 N0 H0 pc (A, st, T) cells slots := by
  unfold ck_psh at h
  split at h
  · split at h
    · rename_i v' hc
      obtain ⟨rfl, c1, c2⟩ := hc
      cases h
      exact gcw_pushI _ _ (ck_ofInt (by omega) (by omega)) (fun w => lv_iconst hexec hb hd rfl w) k
    · cases h
  · split at h
    · rename_i v' hc
      obtain ⟨rfl, c1, c2⟩ := hc
      cases h
      exact gcw_pushI _ _ (ck_ofInt8 (by omega) (by omega)) (fun w => lv_bipush hexec hb hd rfl w) k
    · cases h
  · split at h
    · rename_i v' hc
      obtain ⟨rfl, c1, c2⟩ := hc
      cases h
      exact gcw_pushI _ _ (ck_ofInt16 (by omega) (by omega)) (fun w => lv_sipush hexec hb hd rfl w) k
    · cases h
  · split at h
    · rename_i k' hn
      subst hn
      split at h
      · rename_i x hx
        split at h
        · cases h
          obtain ⟨u, u1, u2⟩ := hkl _ (ck_lk_mem hx)
          exact gcw_pushI _ u u1 (fun w => lv_ldc hexec hb hown u2 hd w) k
        · cases h
      · cases h
    · cases h
  · split at h
    · rename_i k' hn
      subst hn
      split at h
      · rename_i x hx
        split at h
        · cases h
          obtain ⟨u, u1, u2⟩ := hjl _ (ck_lk_mem hx)
          exact gcw_pushJ _ u u1 (fun w => lv_ldc2 hexec hb hown u2 hd w) k
        · cases h
      · cases h
    · cases h
  · split at h
    · rename_i k' hn
      subst hn
      cases h
      refine gcw_pushJ _ _ ?_ (fun w => lv_lconst hexec hb hd rfl w) k
      have := k'.isLt
      match k' with
      | 0 => rfl
      | 1 => rfl
    · cases h
  · split at h
    · rename_i k' hn
      subst hn
      split at h
      · rename_i q hq
        cases h
        refine gcw_load hq (fun {H} {ls} {rest} {locs} {ρ} {G} {N} {v} hl hv w => ?_) k
        obtain ⟨x, rfl, -⟩ := hv
        exact lv_iload hexec hb hd hl w
      · cases h
    · cases h
  · split at h
    · rename_i k' hn
      subst hn
      split at h
      · rename_i q hq
        cases h
        refine gcw_load hq (fun {H} {ls} {rest} {locs} {ρ} {G} {N} {v} hl hv w => ?_) k
        obtain ⟨x, rfl, -⟩ := hv
        exact lv_iload_n hexec hb hd rfl hl w
      · cases h
    · cases h
  · split at h
    · rename_i k' hn
      subst hn
      split at h
      · rename_i q hq
        cases h
        refine gcw_load hq (fun {H} {ls} {rest} {locs} {ρ} {G} {N} {v} hl hv w => ?_) k
        obtain ⟨x, rfl, -⟩ := hv
        exact lv_lload hexec hb hd hl w
      · cases h
    · cases h
  · split at h
    · rename_i k' hn
      subst hn
      split at h
      · rename_i q hq
        cases h
        refine gcw_load hq (fun {H} {ls} {rest} {locs} {ρ} {G} {N} {v} hl hv w => ?_) k
        obtain ⟨x, rfl, -⟩ := hv
        exact lv_lload_n hexec hb hd rfl hl w
      · cases h
    · cases h
  · split at h
    · rename_i k' hn
      subst hn
      split at h
      · rename_i q hq
        split at h
        · rename_i h5
          cases h
          refine gcw_load hq (fun {H} {ls} {rest} {locs} {ρ} {G} {N} {v} hl hv w => ?_) k
          obtain ⟨q1, q2⟩ := q
          rcases ck_isRef hv h5 with rfl | ⟨a, rfl⟩
          · exact lv_aloadN hexec hb hd hl w
          · exact lv_aload hexec hb hd hl w
        · cases h
      · cases h
    · cases h
  · split at h
    · rename_i k' hn
      subst hn
      split at h
      · rename_i q hq
        split at h
        · rename_i h5
          cases h
          refine gcw_load hq (fun {H} {ls} {rest} {locs} {ρ} {G} {N} {v} hl hv w => ?_) k
          obtain ⟨q1, q2⟩ := q
          rcases ck_isRef hv h5 with rfl | ⟨a, rfl⟩
          · exact lv_aload_nN hexec hb hd rfl hl w
          · exact lv_aload_n hexec hb hd rfl hl w
        · cases h
      · cases h
    · cases h
  · cases h
theorem gcw_bin (hexec : p.tables.exec = Jvm.exec) (hb : c.code = cc) {i : Instr} {a b : ck_Q} {r : ck_V} (hd : decode cc pc = .ok (i, 1)) (h : ck_bin i a b = some r)
    (k : gck_W p l e R s m args below meth c Q D AC S tab L nL ρ0 wr G0 N0 H0 (pc + 1) (A, r :: st, T) cells slots) : gck_W p l e R s m args below meth c Q D AC S tab L nL ρ0 wr G0 N0 H0 pc (A, .inl b :: .inl a :: st, T) cells slots := by
  unfold ck_bin at h
  split at h
  · cases h; exact gcw_op2 (fun ρ x y hx hy => ck_add_ok hx hy) (fun _ _ w => lv_iadd hexec hb hd w) k
  · cases h; exact gcw_op2 (fun ρ x y hx hy => ck_sub_ok hx hy) (fun _ _ w => lv_isub hexec hb hd w) k
  · cases h; exact gcw_op2 (fun ρ x y hx hy => ck_mul_ok hx hy) (fun _ _ w => lv_imul hexec hb hd w) k
  · cases h; exact gcw_op2 (fun ρ x y hx hy => ck_and_ok hx hy) (fun _ _ w => lv_iand hexec hb hd w) k
  · cases h; exact gcw_op2 (fun ρ x y hx hy => ck_or_ok hx hy) (fun _ _ w => lv_ior hexec hb hd w) k
  · cases h; exact gcw_op2 (fun ρ x y hx hy => ck_xor_ok hx hy) (fun _ _ w => lv_ixor hexec hb hd w) k
  · cases h; exact gcw_op2 (fun ρ x y hx hy => ck_shl_ok hx hy) (fun _ _ w => lv_ishl hexec hb hd w) k
  · cases h; exact gcw_op2 (fun ρ x y hx hy => ck_shr_ok hx hy) (fun _ _ w => lv_ishr hexec hb hd w) k
  · cases h; exact gcw_op2 (fun ρ x y hx hy => ck_ushr_ok hx hy) (fun _ _ w => lv_iushr hexec hb hd rfl w) k
  · exact gcw_op2 (f := fun x y => x / y) (fun ρ x y hx hy => (ck_div_ok hx hy h).2) (fun hx hy w => lv_idiv hexec hb hd (ck_div_ok hx hy h).1 w) k
  · exact gcw_op2 (f := fun x y => x - x / y * y) (fun ρ x y hx hy => (ck_rem_ok hx hy h).2) (fun hx hy w => lv_irem hexec hb hd (ck_rem_ok hx hy h).1 w) k
  · cases h
/-- two longs -/
theorem gcw_J2 {i : Instr} {a b : Int × Int} {r : Int × Int} {f : Int64 → Int64 → Int64} (hf : ∀ x y : Int64, a.1 ≤ x.toInt → x.toInt ≤ a.2 → b.1 ≤ y.toInt → y.toInt ≤ b.2 → r.1 ≤ (f x y).toInt ∧ (f x y).toInt ≤ r.2)
    (row : ∀ {H : Heap} {ls : Array Slot} {rest : List Value} {locs : List Loc} {x y : Int64}, W p l e R s m args below meth c H locs cells slots Q (F0 m pc2 ls (.long (f x y) :: rest)) → W p l e R s m args below meth c H locs cells slots Q (F0 m pc ls (.long y :: .long x :: rest)))
    (k : gck_W p l e R s m args below meth c Q D AC S tab L nL ρ0 wr G0 N0 H0 pc2 (A, .inr (.inl r) :: st, T) cells slots) : gck_W p l e R s m args below meth c Q D AC S tab L nL ρ0 wr G0 N0 H0 pc (A, .inr (.inl b) :: .inr (.inl a) :: st, T) cells slots := by
  intro H ls vs locs h
  obtain ⟨ρ, G, N, lv, h1, h2, h3, h4, h5, h6, h7⟩ := h
  obtain ⟨_, vs', rfl, ⟨y, rfl, y1, y2⟩, h3'⟩ := h3.uncons
  obtain ⟨_, vs'', rfl, ⟨x, rfl, x1, x2⟩, h3''⟩ := h3'.uncons
  exact row (k H ls _ locs ⟨ρ, G, N, lv, h1, h2, ck_all.cons ⟨_, rfl, (hf x y x1 x2 y1 y2).1, (hf x y x1 x2 y1 y2).2⟩ h3'', h4, h5, h6, h7⟩)
/-- a long and how far it is shifted -/
theorem gcw_JI {a : Int × Int} {b : ck_Q} {r : Int × Int} {f : Int64 → Int32 → Int64} (hf : ∀ (x : Int64) (y : Int32), a.1 ≤ x.toInt → x.toInt ≤ a.2 → r.1 ≤ (f x y).toInt ∧ (f x y).toInt ≤ r.2)
    (row : ∀ {H : Heap} {ls : Array Slot} {rest : List Value} {locs : List Loc} {x : Int64} {y : Int32}, W p l e R s m args below meth c H locs cells slots Q (F0 m pc2 ls (.long (f x y) :: rest)) → W p l e R s m args below meth c H locs cells slots Q (F0 m pc ls (.int y :: .long x :: rest)))
    (k : gck_W p l e R s m args below meth c Q D AC S tab L nL ρ0 wr G0 N0 H0 pc2 (A, .inr (.inl r) :: st, T) cells slots) : gck_W p l e R s m args below meth c Q D AC S tab L nL ρ0 wr G0 N0 H0 pc (A, .inl b :: .inr (.inl a) :: st, T) cells slots := by
  intro H ls vs locs h
  obtain ⟨ρ, G, N, lv, h1, h2, h3, h4, h5, h6, h7⟩ := h
  obtain ⟨_, vs', rfl, ⟨y, rfl, -⟩, h3'⟩ := h3.uncons
  obtain ⟨_, vs'', rfl, ⟨x, rfl, x1, x2⟩, h3''⟩ := h3'.uncons
  exact row (k H ls _ locs ⟨ρ, G, N, lv, h1, h2, ck_all.cons ⟨_, rfl, (hf x y x1 x2).1, (hf x y x1 x2).2⟩ h3'', h4, h5, h6, h7⟩)
theorem gcw_jb (hexec : p.tables.exec = Jvm.exec) (hb : c.code = cc) {i : Instr} {a b r : Int × Int} (hd : decode cc pc = .ok (i, 1)) (h : ck_jb i a b = some r)
    (k : gck_W p l e R s m args below meth c Q D AC S tab L nL ρ0 wr G0 N0 H0 (pc + 1) (A, .inr (.inl r) :: st, T) cells slots) : gck_W p l e R s m args below meth c Q D AC S tab L nL ρ0 wr G0 N0 H0 pc (A, .inr (.inl b) :: .inr (.inl a) :: st, T) cells slots := by
  unfold ck_jb at h
  split at h
  · cases h; exact gcw_J2 (i := .ladd) (fun x y _ _ _ _ => ck_lf_ok _) (fun w => lv_ladd hexec hb hd w) k
  · cases h; exact gcw_J2 (i := .ladd) (fun x y _ _ _ _ => ck_lf_ok _) (fun w => lv_lsub hexec hb hd w) k
  · cases h; exact gcw_J2 (i := .ladd) (fun x y _ _ _ _ => ck_lf_ok _) (fun w => lv_lmul hexec hb hd w) k
  · cases h; exact gcw_J2 (i := .ladd) (fun x y _ _ _ _ => ck_lf_ok _) (fun w => lv_land hexec hb hd w) k
  · cases h; exact gcw_J2 (i := .ladd) (fun x y _ _ _ _ => ck_lf_ok _) (fun w => lv_lxor hexec hb hd w) k
  · split at h
    · rename_i hz
      cases h
      simp only [ck_lng0, Bool.and_eq_true, beq_iff_eq] at hz
      obtain ⟨⟨a1, a2⟩, b1, b2⟩ := hz
      refine gcw_J2 (i := .ladd) (fun x y x1 x2 y1 y2 => ?_) (fun w => lv_lor hexec hb hd w) k
      rw [a1] at x1
      rw [a2] at x2
      rw [b1] at y1
      rw [b2] at y2
      rw [ck_z64 x1 x2, ck_z64 y1 y2]
      decide
    · cases h; exact gcw_J2 (i := .ladd) (fun x y _ _ _ _ => ck_lf_ok _) (fun w => lv_lor hexec hb hd w) k
  · cases h
theorem gcw_js (hexec : p.tables.exec = Jvm.exec) (hb : c.code = cc) {i : Instr} {a r : Int × Int} {b : ck_Q} (hd : decode cc pc = .ok (i, 1)) (h : ck_js i a = some r)
    (k : gck_W p l e R s m args below meth c Q D AC S tab L nL ρ0 wr G0 N0 H0 (pc + 1) (A, .inr (.inl r) :: st, T) cells slots) : gck_W p l e R s m args below meth c Q D AC S tab L nL ρ0 wr G0 N0 H0 pc (A, .inl b :: .inr (.inl a) :: st, T) cells slots := by
  unfold ck_js at h
  split at h
  · split at h
    · rename_i hz
      cases h
      simp only [ck_lng0, Bool.and_eq_true, beq_iff_eq] at hz
      obtain ⟨a1, a2⟩ := hz
      refine gcw_JI (f := fun x y => x <<< (y.toInt64 &&& 63)) (fun x y x1 x2 => ?_) (fun w => lv_lshl hexec hb hd rfl w) k
      rw [a1] at x1
      rw [a2] at x2
      rw [ck_z64 x1 x2]
      dsimp only
      rw [ck_shl0]
      decide
    · cases h; exact gcw_JI (f := fun x y => x <<< (y.toInt64 &&& 63)) (fun x y _ _ => ck_lf_ok _) (fun w => lv_lshl hexec hb hd rfl w) k
  · cases h; exact gcw_JI (f := fun x y => x >>> (y.toInt64 &&& 63)) (fun x y _ _ => ck_lf_ok _) (fun w => lv_lshr hexec hb hd rfl w) k
  · cases h; exact gcw_JI (f := fun x y => (x.toUInt64 >>> (y.toInt64.toUInt64 &&& Int64.toUInt64 63)).toInt64) (fun x y _ _ => ck_lf_ok _) (fun w => lv_lushr hexec hb hd rfl w) k
  · cases h
theorem gcw_lcmp (hexec : p.tables.exec = Jvm.exec) (hb : c.code = cc) {a b : Int × Int} (hd : decode cc pc = .ok (.lcmp, 1))
    (k : gck_W p l e R s m args below meth c Q D AC S tab L nL ρ0 wr G0 N0 H0 (pc + 1) (A, ck_lcmp a b :: st, T) cells slots) : gck_W p l e R s m args below meth c Q D AC S tab L nL ρ0 wr G0 N0 H0 pc (A, .inr (.inl b) :: .inr (.inl a) :: st, T) cells slots := by
  intro H ls vs locs h
  obtain ⟨ρ, G, N, lv, h1, h2, h3, h4, h5, h6, h7⟩ := h
  obtain ⟨_, vs', rfl, ⟨y, rfl, y1, y2⟩, h3'⟩ := h3.uncons
  obtain ⟨_, vs'', rfl, ⟨x, rfl, x1, x2⟩, h3''⟩ := h3'.uncons
  refine W.lcmp hexec hb hd (k H ls _ locs ⟨ρ, G, N, lv, h1, h2, ck_all.cons ?_ h3'', h4, h5, h6, h7⟩)
  unfold ck_lcmp
  split
  · rename_i hz
    simp only [Bool.and_eq_true, beq_iff_eq] at hz
    obtain ⟨⟨e1, e2⟩, e3⟩ := hz
    have exy : x = y := Int64.toInt_inj.mp (by omega)
    subst exy
    refine ⟨_, rfl, ?_, ?_, fun g c q => by cases q⟩ <;> simp [lg_cmp]
  · refine ⟨_, rfl, ?_, ?_, fun g c q => by cases q⟩
    · unfold lg_cmp; split <;> (try split) <;> decide
    · unfold lg_cmp; split <;> (try split) <;> decide
theorem gcw_stks (hexec : p.tables.exec = Jvm.exec) (hb : c.code = cc) {i : Instr} {st' : List ck_V} (hd : decode cc pc = .ok (i, 1)) (h : ck_stk i st = some st')
    (k : gck_W p l e R s m args below meth c Q D AC S tab L nL ρ0 wr G0 N0 H0 (pc + 1) (A, st', T) cells slots) : gck_W p l e R s m args below meth c Q D AC S tab L nL ρ0 wr G0 N0 H0 pc (A, st, T) cells slots := by
  intro H ls vs locs hh
  obtain ⟨ρ, G, N, lv, h1, h2, h3, h4, h5, h6, h7⟩ := hh
  unfold ck_stk at h
  split at h
  · split at h
    · rename_i hc
      cases h
      obtain ⟨v, vs', rfl, g1, g2⟩ := h3.uncons
      exact lv_dup hexec hb hd (ck_cat1_ok g1 hc) (k H ls _ locs ⟨ρ, G, N, lv, h1, h2, ck_all.cons g1 (ck_all.cons g1 g2), h4, h5, h6, h7⟩)
    · cases h
  · split at h
    · rename_i hc
      cases h
      obtain ⟨v, vs', rfl, g1, g2⟩ := h3.uncons
      exact lv_pop hexec hb hd (ck_cat1_ok g1 hc) (k H ls _ locs ⟨ρ, G, N, lv, h1, h2, g2, h4, h5, h6, h7⟩)
    · cases h
  · obtain ⟨v, vs', rfl, g1, g2⟩ := h3.uncons
    split at h
    · rename_i hc
      cases h
      exact lv_dup2_2 hexec hb hd (ck_cat2_ok g1 hc) (k H ls _ locs ⟨ρ, G, N, lv, h1, h2, ck_all.cons g1 (ck_all.cons g1 g2), h4, h5, h6, h7⟩)
    · split at h
      · split at h
        · rename_i hc
          cases h
          simp only [Bool.and_eq_true] at hc
          obtain ⟨w, vs'', rfl, f1, f2⟩ := g2.uncons
          exact lv_dup2_11 hexec hb hd (ck_cat1_ok g1 hc.1) (ck_cat1_ok f1 hc.2) (k H ls _ locs ⟨ρ, G, N, lv, h1, h2, ck_all.cons g1 (ck_all.cons f1 (ck_all.cons g1 (ck_all.cons f1 f2))), h4, h5, h6, h7⟩)
        · cases h
      · cases h
  · cases h
    obtain ⟨v, vs', rfl, ⟨x, rfl, x1, x2, -⟩, g2⟩ := h3.uncons
    refine lv_i2l hexec hb hd rfl (k H ls _ locs ⟨ρ, G, N, lv, h1, h2, ck_all.cons ⟨_, rfl, ?_, ?_⟩ g2, h4, h5, h6, h7⟩)
    · rw [Int32.toInt_toInt64]; exact x1
    · rw [Int32.toInt_toInt64]; exact x2
  · cases h
    obtain ⟨v, vs', rfl, ⟨x, rfl, x1, x2⟩, g2⟩ := h3.uncons
    refine lv_l2i hexec hb hd rfl (k H ls _ locs ⟨ρ, G, N, lv, h1, h2, ck_all.cons ⟨_, rfl, ?_⟩ g2, h4, h5, h6, h7⟩)
    exact ⟨(ck_i32 _).1, (ck_i32 _).2, fun g c h => by cases h⟩
  · cases h
end CKPU
