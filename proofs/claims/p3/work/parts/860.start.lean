/-! ===== from the entry ===== -/
def R_law : String := "RatchetDeskLaw"
def lw_P (b : Addr) (xs : List Int32) (args : Array Value) (s : State) : Prop := args = #[.ref b] ∧ s.IntsAt b xs ∧ xs.length ≤ 2561 ∧ (Jvm.Cond.and given_1 narrow_1).before args s = true
def lw_Q (_ : Array Value) (s : State) (o : Outcome) (t : State) : Prop := o = .returned (some (.int 1)) ∧ Framed s o t [] 601024 7293000
def lw_Z (below : List Frame) (a : Array Value) (s : State) : State → Prop := fun t => ∃ o, t.status = .running ∧ Ended t below o ∧ lw_Q a s o t
/-- the law's own end, with 1 on the stack, nothing written that was there before, its room as the claim has it -/
theorem lw_ret {p : Program} {l : Launch} {e : Env} {s : State} {m : MethodId} {below : List Frame} {meth : Method} {c : Code} {b : Nat} (hx : p.tables.exec = Jvm.exec) (hb : c.code = code) (hr : meth.sig.returnType = ret) (hlocks : meth.locks = false) {pc : Nat} {H : Heap} {ls : Array Slot} (hdg : decode code pc = .ok (.ireturn, 1)) : W p l e room_1 s m #[Value.ref b] below meth c H [] 601024 7293000 (lw_Z below #[Value.ref b] s) (F0 m pc ls [.int 1]) := by
  intro T hT X
  obtain ⟨fs, hret, hrun, hended, hW, hframe⟩ := X.leave (v := some (.int 1)) (hlocks := hlocks) (fun h => by rw [hr] at h; cases h)
  have hmeth' : T.vm.method? m = some meth := X.method'
  refine ⟨T.setFrames fs, ?_, .returned (some (.int 1)), hrun, hended, rfl, ⟨_, rfl⟩, hW, hframe⟩
  jvm_step X.here [X.here.top, hx, hb, hdg, hmeth', hr, ret, narrow_b1]
  (try refine ⟨rfl, ?_⟩); (try refine ⟨rfl, ?_⟩)
  first | (intro acts; rw [hret _ acts rfl rfl rfl]) | rw [hret _ _ rfl rfl rfl]
  exact Steps.refl _
/-- what holds at the law's entry: the machine, the code, the tables' words (any of lw_tbl by 'hts w (by decide +kernel)'), the script of L ints xs at the cell b, what the Statement gives of the start (any of its parts by flat_of_before) -/
def lw_At (p : Program) (s : State) (m : MethodId) (meth : Method) (c : Code) (b L : Nat) (xs : Nat → Int32) : Prop :=
  p.tables.exec = Jvm.exec ∧ c.code = code ∧ meth.sig.returnType = ret ∧ c.maxLocals = 8 ∧ s.vm.findClass R_law = some m.cls ∧ (∀ w ∈ lw_tbl, w.before #[Value.ref b] s = true) ∧ va_X b L xs s s.heap ∧ b < s.heap.size ∧ meth.locks = false ∧ (Jvm.Cond.and given_1 narrow_1).before #[Value.ref b] s = true
theorem lk_arr {s : State} {cA : ClassId} {k : Class} {comp : ClassId} {ty : FieldType} (hk : s.vm.classes[cA]? = some k) (hkind : k.kind = .array comp ty) : ArrOfT s cA ty := fun n z => ⟨(fun k h => by cases h), k, hk, comp, hkind⟩
theorem lk_cls {s : State} (hts : ∀ w ∈ ck_tb, w.before #[] s = true) : ∃ D : va_G, ∀ (c : Nat) (q : vw_C), ck_cl[c]? = some q → u_Kn s q.1 q.2.1 q.2.2 (D.1 c) (D.2 c) := by
  have h : ∀ c : Nat, ∃ d : ClassId × (Nat → Nat), ∀ q : vw_C, ck_cl[c]? = some q → u_Kn s q.1 q.2.1 q.2.2 d.1 d.2 := by
    intro c
    cases hc : ck_cl[c]? with
    | none => exact ⟨(0, fun _ => 0), fun q hq => by cases hq⟩
    | some q =>
      obtain ⟨C, T, n⟩ := q
      obtain ⟨w1, -, -, -, w5, -⟩ := ck_cls hc
      obtain ⟨cC, iS, hk⟩ := u_known hts w1 (hts _ w5)
      exact ⟨(cC, iS), fun q hq => by cases hq; exact hk⟩
  obtain ⟨f, hf⟩ := Classical.axiomOfChoice h
  exact ⟨(fun c => (f c).1, fun c => (f c).2), fun c q hq => hf c q hq⟩
theorem lk_prim {s : State} {ty : FieldType} (hty : ty = .int ∨ ty = .long ∨ ty = .boolean) (h : (Cond.arrayClass ty).before #[] s = true) : ∃ cA : ClassId, ArrOfT s cA ty ∧ va_RA s cA ty := by
  obtain ⟨c, k, comp, h1, h2, h3⟩ := Cond.arrayClass_spec h
  refine ⟨c, lk_arr h2 h3, ?_⟩
  rcases hty with rfl | rfl | rfl <;> exact h1
theorem lk_obj {s : State} {n : String} (h : (Cond.arrayOver (.object n)).before #[] s = true) : ∃ cA : ClassId, ArrOfT s cA (.object n) ∧ va_RA s cA (.object n) := by
  obtain ⟨comp, c, k, h1, -, h2, h3, h4⟩ := Cond.arrayOver_spec h
  exact ⟨c, lk_arr h2 h3, k, comp, h2, h3, h1, h4⟩
theorem lk_arrA {s : State} (h : (Cond.arrayOver (.array .int)).before #[] s = true) : ∃ cA : ClassId, ArrOfT s cA (.array .int) ∧ va_RA s cA (.array .int) := by
  obtain ⟨comp, c, k, h1, h2, h3, h4⟩ := Cond.arrayOver_specA h
  exact ⟨c, lk_arr h2 h3, h4⟩
theorem lk_know {s : State} (hts : ∀ w ∈ ck_tb, w.before #[] s = true) : ∃ (D : va_G) (AC : Nat → ClassId), va_K D ck_cl (ck_tys AC) s := by
  obtain ⟨D, hD⟩ := lk_cls hts
  obtain ⟨a0, p0⟩ := lk_prim (Or.inl rfl) (hts _ (ce_glob.2.1 0 .int rfl))
  obtain ⟨a1, p1⟩ := lk_prim (Or.inr (Or.inl rfl)) (hts _ (ce_glob.2.1 1 .long rfl))
  obtain ⟨a2, p2⟩ := lk_prim (Or.inr (Or.inr rfl)) (hts _ (ce_glob.2.1 2 .boolean rfl))
  obtain ⟨a3, p3⟩ := lk_obj (n := "RatchetDesk$Secret") (hts _ (ck_tabi 303 (by decide +kernel) rfl))
  obtain ⟨a4, p4⟩ := lk_obj (n := "RatchetDesk$Person") (hts _ (ck_tabi 31 (by decide +kernel) rfl))
  obtain ⟨a5, p5⟩ := lk_obj (n := "RatchetDesk$End") (hts _ (ck_tabi 33 (by decide +kernel) rfl))
  obtain ⟨a6, p6⟩ := lk_obj (n := "RatchetDesk$Letter") (hts _ (ck_tabi 35 (by decide +kernel) rfl))
  obtain ⟨a7, p7⟩ := lk_arrA (hts _ ce_glob.2.2.1)
  refine ⟨D, fun k => match k with | 0 => a0 | 1 => a1 | 2 => a2 | 3 => a3 | 4 => a4 | 5 => a5 | 6 => a6 | _ => a7, hD, fun k q hq => ?_⟩
  match k, hq with
  | 0, hq => cases hq; exact p0
  | 1, hq => cases hq; exact p1
  | 2, hq => cases hq; exact p2
  | 3, hq => cases hq; exact p3
  | 4, hq => cases hq; exact p4
  | 5, hq => cases hq; exact p5
  | 6, hq => cases hq; exact p6
  | 7, hq => cases hq; exact p7
  | n + 8, hq => simp [ck_tys] at hq
theorem lk_sta {args : Array Value} {s : State} {tm : Term} {N : Nat} {zs : List Int32} (hN : N < 2 ^ 31) (harr : (Cond.arrayOf tm .int).before args s = true) (hlen : (Cond.eq (.length tm) (.int (Int32.ofNat N))).before args s = true) (hel : ∀ j : Nat, j < N → (Cond.eq (.elem tm (.int (Int32.ofNat j))) (.int (zs.getD j 0))).before args s = true) :
    ∃ (t : Nat) (cell : Cell), tm.eval args s none [] s = some (.ref t) ∧ s.heap[t]? = some cell ∧ t < s.heap.size ∧ s.isArrayOf cell .int ∧ cell.vm ≠ .unknown ∧ cell.slots.size = N ∧ ∀ k, k < N → cell.slots[k]? = some (.int (zs.getD k 0)) := by
  have hl := va_eqt hlen
  obtain ⟨t, ht, cell, h1, h2, h3, h4, h5, h6, -⟩ := va_Tof (f := fun j => .int (zs.getD j 0)) (A := fun _ => False) hN harr hl (fun j hj => va_eqt (hel j hj)) (fun _ _ => id)
  refine ⟨t, cell, ht, h1, (Array.getElem?_eq_some_iff.mp h1).1, h2, h3, ?_, fun k hk => h6 k hk⟩
  obtain ⟨t2, cell2, g1, g2, g3⟩ := Term.length_spec hl
  cases ht.symm.trans g1
  have hc2 : cell2 = cell := by
    have := (State.arrayAt?_spec g2).1
    rw [h1] at this
    exact (Option.some.inj this).symm
  subst hc2
  have hsz : cell2.slots.size < 2 ^ 31 := by
    have hv := hl
    simp only [Term.eval, ht, g2, Option.bind_eq_bind, Option.bind_some] at hv
    by_cases hlt : cell2.slots.size < 2147483648
    · exact hlt
    · simp [hlt] at hv
  exact (nI_eq hsz hN).mp h5
def lk_sq : List Int32 := [1779033703, -1150833019, 1013904242, -1521486534, 1359893119, -1694144372, 528734635, 1541459225]
def lk_cu : List Int32 := [1116352408, 1899447441, -1245643825, -373957723, 961987163, 1508970993, -1841331548, -1424204075, -670586216, 310598401, 607225278, 1426881987, 1925078388, -2132889090, -1680079193, -1046744716, -459576895, -272742522, 264347078, 604807628, 770255983, 1249150122, 1555081692, 1996064986, -1740746414, -1473132947, -1341970488, -1084653625, -958395405, -710438585, 113926993, 338241895, 666307205, 773529912, 1294757372, 1396182291, 1695183700, 1986661051, -2117940946, -1838011259, -1564481375, -1474664885, -1035236496, -949202525, -778901479, -694614492, -200395387, 275423344, 430227734, 506948616, 659060556, 883997877, 958139571, 1322822218, 1537002063, 1747873779, 1955562222, 2024104815, -2067236844, -1933114872, -1866530822, -1538233109, -1090935817, -965641998]
set_option maxRecDepth 100000 in
theorem lk_in0 : ∀ j : Nat, j < 8 → (Cond.eq (.elem (.static "RatchetDesk$Hash" "SQUARE_ROOTS" "[I") (.int (Int32.ofNat j))) (.int (lk_sq.getD j 0))) ∈ flatC (Jvm.Cond.and given_1 narrow_1) := by decide +kernel
set_option maxRecDepth 100000 in
theorem lk_in1 : ∀ j : Nat, j < 64 → (Cond.eq (.elem (.static "RatchetDesk$Hash" "CUBE_ROOTS" "[I") (.int (Int32.ofNat j))) (.int (lk_cu.getD j 0))) ∈ flatC (Jvm.Cond.and given_1 narrow_1) := by decide +kernel
theorem lk_r0 : ∀ (k : Nat) (v : Int), (xk_rt 0)[k]? = some v → (lk_sq.getD k 0).toInt = v := fun k v hv => by
  have e : xk_rt 0 = lk_sq.map (fun x => x.toInt) := by decide +kernel
  rw [e, List.getElem?_map] at hv
  obtain ⟨x, hx, rfl⟩ := Option.map_eq_some_iff.mp hv
  rw [List.getD_eq_getElem?_getD, hx]
  rfl
theorem lk_r1 : ∀ (k : Nat) (v : Int), (xk_rt 1)[k]? = some v → (lk_cu.getD k 0).toInt = v := fun k v hv => by
  have e : xk_rt 1 = lk_cu.map (fun x => x.toInt) := by decide +kernel
  rw [e, List.getElem?_map] at hv
  obtain ⟨x, hx, rfl⟩ := Option.map_eq_some_iff.mp hv
  rw [List.getD_eq_getElem?_getD, hx]
  rfl
theorem lk_H {D : va_G} {AC : Nat → ClassId} {S : Nat → Nat} {s : State} {b L K : Nat} {xs : Nat → Int32} (hKL : K ≤ L) (hS : b = S 2) (hX : va_X b L xs s s.heap) (hbl : b < s.heap.size) {fs : List ck_V} (hfs : fs = List.replicate K gv_F) :
    ck_H D AC S gv_tab s.heap (fun g => (xs (g - 100)).toInt) (fun _ => 0) [b] (ck_etag [((5, 2), fs)]) s.heap := by
  refine ⟨⟨Nat.le_refl _, fun _ _ => rfl, fun a ha => absurd rfl ha⟩, rfl, fun i c a hi ha => ?_, fun i j c d a hi hj ho _ _ _ => ?_⟩
  · match i, hi, ha with
    | 0, hi, ha =>
      cases hi
      cases ha
      obtain ⟨scr, h1, h2, h3, h4, h5⟩ := hX
      refine ⟨hS, scr, h1, hbl, fun k v hk => ?_⟩
      dsimp only at hk
      rw [ck_tagF_get, hfs] at hk
      obtain ⟨v0, hv0, rfl⟩ := Option.map_eq_some_iff.mp hk
      rw [List.getElem?_replicate] at hv0
      split at hv0
      · rename_i hkl
        cases hv0
        refine ⟨.int (xs k), h5 k (by omega), xs k, rfl, (ck_i32 _).1, (ck_i32 _).2, fun g c hg => ?_⟩
        dsimp only at hg
        split at hg
        · cases hg
          show (xs k).toInt = (xs (100 + (0 + k) - 100)).toInt + 0
          rw [show 100 + (0 + k) - 100 = k by omega]
          omega
        · cases hg
      · cases hv0
    | i + 1, hi, ha => simp [ck_etag, ck_etX] at hi
  · match i, hi with
    | 0, hi => cases hi; simp [ck_own] at ho
    | i + 1, hi => simp [ck_etag, ck_etX] at hi
theorem lk_endZ {below : List Frame} {s t : State} {A : Array Value} {ce sl : Nat} (hc : ce ≤ 601024) (hs : sl ≤ 7293000) (h : gk_Z below s.heap ce sl s t) : lw_Z below A s t := by
  obtain ⟨o, a1, a2, rfl, a3, Ls, a4, a5⟩ := h
  refine ⟨_, a1, a2, rfl, ⟨_, rfl⟩, a3, a4.weaken (fun q hq hb => ?_) hc hs⟩
  exact absurd hb (Nat.not_lt.mpr (a5 q hq))
/-- from the entry, for every script of at most 2561 ints, the law comes to its end with true -/
theorem whole_start {p : Program} {e : Env} {s : State} {m : MethodId} {below : List Frame} {meth : Method} {c : Code} (l : Launch) {b L : Nat} {xs : Nat → Int32} (hL : L ≤ 2561) (htr : e.platform.stackTraces = false) (hexc : c.exceptionTable.toList = []) (hnm : meth.name = "law") (C0 : lw_At p s m meth c b L xs) : W p l e room_1 s m #[Value.ref b] below meth c s.heap [] 0 0 (lw_Z below #[Value.ref b] s) (entryFrame m ([Value.ref b] : List Value).toArray 8) := by
  obtain ⟨hexec, hb, hret, hml, hown, hts, hX, hbl, hlocks, hgv⟩ := C0
  have hs := flat_of_before _ hgv
  have htb : ∀ w ∈ ck_tb, w.before #[] s = true := fun w hw => by
    obtain ⟨w1, w2⟩ := List.mem_filter.mp hw
    exact ck_move w2 (State.WarmedH.refl s) (hts w w1)
  have htt : ∀ (i : Nat) (w : Cond), tables_1[i]? = some w → w.before #[Value.ref b] s = true := fun i w hi => hts w (List.mem_append_right _ (List.mem_of_getElem? hi))
  obtain ⟨D, AC, hK⟩ := lk_know htb
  obtain ⟨t0, c0, e0, m0, n0, o0, k0, z0, f0⟩ := lk_sta (N := 8) (zs := lk_sq) (tm := .static "RatchetDesk$Hash" "SQUARE_ROOTS" "[I") (by decide) (hs _ (by decide +kernel)) (hs _ (by decide +kernel)) (fun j hj => hs _ (lk_in0 j hj))
  obtain ⟨t1, c1, e1, m1, n1, o1, k1, z1, f1⟩ := lk_sta (N := 64) (zs := lk_cu) (tm := .static "RatchetDesk$Hash" "CUBE_ROOTS" "[I") (by decide) (hs _ (by decide +kernel)) (hs _ (by decide +kernel)) (fun j hj => hs _ (lk_in1 j hj))
  have hA : ∀ a : Nat, a < s.heap.size → ¬ s.heap.size ≤ a := fun a h => Nat.not_le.mpr h
  have Z0 : va_Z "RatchetDesk$Hash" "SQUARE_ROOTS" "[I" (.ref t0) (fun q => s.heap.size ≤ q) s s.heap := va_Zof (htt 370 _ (by decide +kernel)) (htt 4 _ (by decide +kernel)) e0 hA
  have Z1 : va_Z "RatchetDesk$Hash" "CUBE_ROOTS" "[I" (.ref t1) (fun q => s.heap.size ≤ q) s s.heap := va_Zof (htt 383 _ (by decide +kernel)) (htt 4 _ (by decide +kernel)) e1 hA
  have hstr : ∀ q ∈ ck_strs, ∃ a, vk_R q.1 q.2.1 q.2.2 a s := by
    intro q hq
    have key : ∀ (k : Nat) (tx : String), (Cond.stringRef "RatchetDesk" k tx).before #[Value.ref b] s = true → (Cond.exactly (.string "RatchetDesk" k) "java/lang/String").before #[Value.ref b] s = true → ∃ a, vk_R "RatchetDesk" k tx a s := by
      intro k tx h1 h2
      obtain ⟨a, _, _, _, h3, -⟩ := Cond.exactly_spec h2
      exact ⟨a, vk_R.of h1 h3⟩
    simp only [ck_strs, List.mem_cons, List.mem_nil_iff, or_false] at hq
    rcases hq with rfl | rfl | rfl | rfl
    · exact key _ _ (htt 481 _ (by decide +kernel)) (hs _ (by decide +kernel))
    · exact key _ _ (htt 632 _ (by decide +kernel)) (hs _ (by decide +kernel))
    · exact key _ _ (htt 671 _ (by decide +kernel)) (hs _ (by decide +kernel))
    · exact key _ _ (htt 790 _ (by decide +kernel)) (hs _ (by decide +kernel))
  have hnc : ∀ x y : Nat, x < 3 → y < 3 → x ≠ y → va_Nc (ck_xn x) (ck_xn y) s := by
    intro x y hx hy hxy
    match x, y, hx, hy, hxy with
    | 0, 0, _, _, h => exact absurd rfl h
    | 1, 1, _, _, h => exact absurd rfl h
    | 2, 2, _, _, h => exact absurd rfl h
    | 0, 1, _, _, _ => exact va_Nc.of (hs _ (by decide +kernel))
    | 0, 2, _, _, _ => exact va_Nc.of (hs _ (by decide +kernel))
    | 1, 0, _, _, _ => exact va_Nc.of (hs _ (by decide +kernel))
    | 1, 2, _, _, _ => exact va_Nc.of (hs _ (by decide +kernel))
    | 2, 0, _, _, _ => exact va_Nc.of (hs _ (by decide +kernel))
    | 2, 1, _, _, _ => exact va_Nc.of (hs _ (by decide +kernel))
  have hl1 : ck_ls "java/lang/Throwable" "UNASSIGNED_STACK" "[Ljava/lang/StackTraceElement;" s.heap s := ck_ls.of (htt 467 _ (by decide +kernel)) (hs _ (by decide +kernel))
  have hl2 : ck_ls "java/lang/Throwable" "SUPPRESSED_SENTINEL" "Ljava/util/List;" s.heap s := ck_ls.of (htt 469 _ (by decide +kernel)) (hs _ (by decide +kernel))
  have hKf : ck_Kf D AC (fun j => if j = 0 then t0 else if j = 1 then t1 else b) s.heap s L := by
    refine ⟨hK, htb, Z0, ⟨c0, m0, n0, o0, k0, z0, fun k hk => ⟨_, f0 k hk⟩⟩, Z1, ⟨c1, m1, n1, o1, k1, z1, fun k hk => ⟨_, f1 k hk⟩⟩, ?_, hl1, hl2, hstr, hnc⟩
    obtain ⟨scr, h1, h2, h3, h4, h5⟩ := hX
    exact ⟨scr, h1, hbl, h2, h3, h4, fun k hk => ⟨_, h5 k hk⟩⟩
  have hB : ck_B p s m meth c glw_M := ⟨hexec, hb, hml, hret, hlocks, hown, by rw [hexc]; rfl, hnm⟩
  have hv : ck_all (ck_R (fun j => if j = 0 then t0 else if j = 1 then t1 else b) (fun g => (xs (g - 100)).toInt) (fun _ => 0) [b]) [gv_r 1 0] [Value.ref b] := ck_all.cons ⟨b, rfl, rfl⟩ ck_all.nil
  have hSt : xk_St (fun j => if j = 0 then t0 else if j = 1 then t1 else b) s.heap s := by
    intro j hj
    match j, hj with
    | 0, _ =>
      refine ⟨c0, m0, n0, o0, k0, z0, fun k v hv => ⟨_, f0 k ?_, lk_r0 k v hv⟩⟩
      have := (List.getElem?_eq_some_iff.mp hv).1
      simpa [xk_rt] using this
    | 1, _ =>
      refine ⟨c1, m1, n1, o1, k1, z1, fun k v hv => ⟨_, f1 k ?_, lk_r1 k v hv⟩⟩
      have := (List.getElem?_eq_some_iff.mp hv).1
      simpa [xk_rt] using this
  by_cases h0 : L = 0
  · subst h0
    exact ck_mono (fun t ht => lk_endZ (Nat.le_of_ble_eq_true rfl) (Nat.le_of_ble_eq_true rfl) ht) (gl_start0 (n := 0) (vs := [Value.ref b]) (N0 := [b]) (ρ0 := fun g => (xs (g - 100)).toInt) htr (Nat.le_refl _) (Nat.le_refl _) (Nat.le_of_ble_eq_true rfl) (Nat.le_of_ble_eq_true rfl) (Nat.le_of_ble_eq_true rfl) (Nat.le_of_ble_eq_true rfl) hB hKf rfl hv (lk_H (K := 0) (Nat.le_refl _) rfl hX hbl rfl))
  · have hn1 : 1 ≤ L := by omega
    obtain ⟨g1, g2, g3, g4, g5⟩ := gf_hash
    exact ck_mono (fun t ht => lk_endZ (Nat.le_of_ble_eq_true rfl) (Nat.le_of_ble_eq_true rfl) ht) (gl_start1 (n := L) (vs := [Value.ref b]) (N0 := [b]) (ρ0 := fun g => (xs (g - 100)).toInt) htr hn1 hL (gn_0 htr hn1 hL g5) (gn_1 htr hn1 hL g5 g5.1.1.1.1.1.1.1.1.1.1.1.1.1.1.1.1.1.1.1.1.1.1.1.1.1.1.1.1.1.1.1.1.1.1.1.1.1.1) (gn_2 htr hn1 hL gf_curve gf_curver) (gn_3 htr hn1 hL g1 g2) (gn_4 htr hn1 hL g3 g4) (Nat.le_of_ble_eq_true rfl) (Nat.le_of_ble_eq_true rfl) (Nat.le_of_ble_eq_true rfl) (Nat.le_of_ble_eq_true rfl) hB hKf hSt rfl hv (lk_H (K := 1) (by omega) rfl hX hbl rfl))
