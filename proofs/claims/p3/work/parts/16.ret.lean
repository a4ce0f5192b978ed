/-! ===== returns; calls that come back; calls that throw ===== -/
def ck_leC (c c' : ck_C) : Bool := c'.1.1 == 2 || (decide (c.1 = c'.1) && c.2.length == c'.2.length && (c.2.zip c'.2).all (fun q => ck_le q.1 q.2))
def ck_leT (T T' : List ck_C) : Bool := T.length == T'.length && (T.zip T').all (fun q => ck_leC q.1 q.2)
section CKT
variable {D : va_G} {AC : Nat → ClassId} {S : Nat → Nat} {tab : List ck_D} {L : Heap} {ρ : Nat → Int} {G : Nat → Nat} {N : List Nat} {T T' : List ck_C} {H : Heap}
theorem ck_leT_get (h : ck_leT T T' = true) {i : Nat} {c' : ck_C} (hi : T'[i]? = some c') : ∃ c, T[i]? = some c ∧ ck_leC c c' = true := by
  unfold ck_leT at h
  simp only [Bool.and_eq_true, beq_iff_eq] at h
  have hil : i < T.length := by rw [h.1]; exact (List.getElem?_eq_some_iff.mp hi).1
  exact ⟨T[i], List.getElem?_eq_getElem hil, List.all_eq_true.mp h.2 (T[i], c') (List.mem_of_getElem? (i := i) (by rw [List.getElem?_zip_eq_some]; exact ⟨List.getElem?_eq_getElem hil, hi⟩))⟩
theorem ck_leC_own {c c' : ck_C} (h : ck_leC c c' = true) (ho : ck_own c' = true) : ck_own c = true := by
  unfold ck_leC at h
  simp only [Bool.or_eq_true, Bool.and_eq_true, decide_eq_true_eq, beq_iff_eq] at h
  unfold ck_own at ho ⊢
  rcases h with k | ⟨⟨k, -⟩, -⟩
  · rw [k] at ho; simp at ho
  · rw [k]; exact ho
theorem ck_tc.leC {c c' : ck_C} {a : Nat} (h : ck_leC c c' = true) (ht : ck_tc D AC S tab L ρ G N H c a) : ck_tc D AC S tab L ρ G N H c' a := by
  unfold ck_leC at h
  simp only [Bool.or_eq_true, Bool.and_eq_true, decide_eq_true_eq, beq_iff_eq] at h
  rcases h with k | ⟨⟨k, e2⟩, e3⟩
  · obtain ⟨⟨k', n'⟩, fs'⟩ := c'
    dsimp only at k
    subst k
    exact trivial
  · have hfld : ∀ (q : Nat) (v' : ck_V), c'.2[q]? = some v' → ∃ v, c.2[q]? = some v ∧ ck_le v v' = true := by
      intro q v' hq
      have hql : q < c.2.length := by rw [e2]; exact (List.getElem?_eq_some_iff.mp hq).1
      exact ⟨c.2[q], List.getElem?_eq_getElem hql, List.all_eq_true.mp e3 (c.2[q], v') (List.mem_of_getElem? (i := q) (by rw [List.getElem?_zip_eq_some]; exact ⟨List.getElem?_eq_getElem hql, hq⟩))⟩
    have hall : ∀ {vs : List Value}, ck_all (ck_R S ρ G N) c.2 vs → ck_all (ck_R S ρ G N) c'.2 vs := by
      intro vs hv
      refine ⟨by rw [← e2]; exact hv.1, fun q x y hx hy => ?_⟩
      obtain ⟨v, h1, h2⟩ := hfld q x hx
      exact (hv.2 q v y h1 hy).le h2
    obtain ⟨⟨k1, n1⟩, fs⟩ := c
    obtain ⟨⟨k2, n2⟩, fs'⟩ := c'
    cases k
    unfold ck_tc at ht ⊢
    match k1, ht with
    | 0, ht => obtain ⟨h1, h2, vs, h3, h4⟩ := ht; exact ⟨h1, h2, vs, h3, hall h4⟩
    | 1, ht =>
      obtain ⟨h1, h2, f, h3, h4⟩ := ht
      refine ⟨h1, h2, f, by dsimp only at e2 h3 ⊢; rw [← e2]; exact h3, fun j v hj => ?_⟩
      obtain ⟨v0, y1, y2⟩ := hfld j v hj
      exact (h4 j v0 y1).le y2
    | 2, ht => exact trivial
    | 3, ht => obtain ⟨h1, h2, ci, ks, vs, h3, h4, h5⟩ := ht; exact ⟨h1, h2, ci, ks, vs, h3, h4, hall h5⟩
    | 4, ht => exact trivial
    | 5, ht =>
      obtain ⟨h1, cell, h2, h3, h4⟩ := ht
      refine ⟨h1, cell, h2, h3, fun j v hj => ?_⟩
      obtain ⟨v0, y1, y2⟩ := hfld j v hj
      obtain ⟨w, w1, w2⟩ := h4 j v0 y1
      exact ⟨w, w1, w2.le y2⟩
    | 6, ht =>
      obtain ⟨h1, cell, h2, h3, h4⟩ := ht
      refine ⟨h1, cell, h2, h3, fun j v hj => ?_⟩
      obtain ⟨v0, y1, y2⟩ := hfld j v hj
      obtain ⟨w, w1, w2⟩ := h4 j v0 y1
      exact ⟨w, w1, w2.le y2⟩
    | k7 + 7, ht =>
      obtain ⟨h1, h2, ac, n0, sg, f, h3, h4, h5, h6⟩ := ht
      refine ⟨h1, h2, ac, n0, sg, f, h3, h4, by dsimp only at e2 h5 ⊢; omega, fun j v hj => ?_⟩
      obtain ⟨v0, y1, y2⟩ := hfld j v hj
      exact (h6 j v0 y1).le y2
theorem ck_H.leT (h : ck_H D AC S tab L ρ G N T H) (hl : ck_leT T T' = true) : ck_H D AC S tab L ρ G N T' H := by
  obtain ⟨h1, h2, h3, h4⟩ := h
  refine ⟨h1, ?_, fun i c' a hi ha => ?_, fun i j c d a hi hj o1 o2 n1 n2 => ?_⟩
  · unfold ck_leT at hl
    simp only [Bool.and_eq_true, beq_iff_eq] at hl
    rw [h2, hl.1]
  · obtain ⟨c, e1, e2⟩ := ck_leT_get hl hi
    exact (h3 i c a e1 ha).leC e2
  · obtain ⟨c0, e1, e2⟩ := ck_leT_get hl hi
    obtain ⟨d0, e3, e4⟩ := ck_leT_get hl hj
    exact h4 i j c0 d0 a e1 e3 (ck_leC_own e2 o1) (ck_leC_own e4 o2) n1 n2
/-- names behind the first n are given up -/
def ck_unn (n : Nat) (T : List ck_C) : ck_V → ck_V
  | .inr (.inr (1, i)) => if i < n then .inr (.inr (1, i)) else ck_unf T (.inr (.inr (1, i)))
  | x => x
def ck_nrf (n : Nat) : ck_V → Bool
  | .inr (.inr (1, i)) => decide (i < n)
  | _ => true
def ck_dr (n : Nat) (T : List ck_C) : List ck_C := (T.map (fun c => (c.1, c.2.map (ck_unn n T)))).take n
def ck_leD (np : Nat) (T T' : List ck_C) : Bool := decide (np ≤ T'.length) && decide (T'.length ≤ T.length) && (ck_dr T'.length T).all (fun c => c.2.all (ck_nrf T'.length)) && ck_leT (ck_dr T'.length T) T'
theorem ck_R.take {n : Nat} {k : ck_V} {v : Value} (hk : ck_nrf n k = true) (h : ck_R S ρ G N k v) : ck_R S ρ G (N.take n) k v := by
  match k, h with
  | .inl q, h => exact h
  | .inr (.inl q), h => exact h
  | .inr (.inr (0, _)), h => exact h
  | .inr (.inr (1, i)), h =>
    obtain ⟨a, h1, h2⟩ := h
    have hi : i < n := of_decide_eq_true hk
    exact ⟨a, by rw [List.getElem?_take, if_pos hi]; exact h1, h2⟩
  | .inr (.inr (2, τ)), h => exact h
  | .inr (.inr (3, j)), h => exact h
  | .inr (.inr (4, _)), h => exact h
  | .inr (.inr (n + 5, _)), h => exact trivial
theorem ck_unn_ok {n : Nat} (h4 : ck_H D AC S tab L ρ G N T H) {k : ck_V} {v : Value} (h : ck_R S ρ G N k v) : ck_R S ρ G N (ck_unn n T k) v := by
  match k, h with
  | .inl q, h => exact h
  | .inr (.inl q), h => exact h
  | .inr (.inr (0, _)), h => exact h
  | .inr (.inr (1, i)), h =>
    show ck_R S ρ G N (if i < n then .inr (.inr (1, i)) else ck_unf T (.inr (.inr (1, i)))) v
    split
    · exact h
    · exact ck_unf_ok h4 h
  | .inr (.inr (2, τ)), h => exact h
  | .inr (.inr (3, j)), h => exact h
  | .inr (.inr (4, _)), h => exact h
  | .inr (.inr (n + 5, _)), h => exact h
theorem ck_H.dr {n : Nat} (h4 : ck_H D AC S tab L ρ G N T H) (hr : (ck_dr n T).all (fun c => c.2.all (ck_nrf n)) = true) : ck_H D AC S tab L ρ G (N.take n) (ck_dr n T) H := by
  have g4 := h4.mapV (ρ' := ρ) (ck_unn n T) (fun k v hv => ck_unn_ok h4 hv)
  have hget : ∀ (i : Nat) (d : ck_C), (ck_dr n T)[i]? = some d → (T.map (fun c => (c.1, c.2.map (ck_unn n T))))[i]? = some d := by
    intro i d hi
    unfold ck_dr at hi
    rw [List.getElem?_take] at hi
    split at hi
    · exact hi
    · cases hi
  have hN : ∀ (i a : Nat), (N.take n)[i]? = some a → N[i]? = some a := by
    intro i a hi
    rw [List.getElem?_take] at hi
    split at hi
    · exact hi
    · cases hi
  refine ⟨g4.1, by simp [ck_dr, h4.2.1], fun i d a hi ha => ?_, fun i j c1 c2 a e1 e2 o1 o2 n1 n2 => ?_⟩
  · have htc := g4.2.2.1 i d a (hget i d hi) (hN i a ha)
    have := htc.mapV (ρ' := ρ) (G' := G) (N' := N.take n) id (fun _ => rfl) (fun _ => rfl) (fun k v hk hv => hv.take (List.all_eq_true.mp (List.all_eq_true.mp hr d (List.mem_of_getElem? hi)) k hk))
    simpa using this
  · exact g4.2.2.2 i j c1 c2 a (hget i c1 e1) (hget j c2 e2) o1 o2 (hN i a n1) (hN j a n2)
theorem ck_F.dr {n : Nat} {wr : List Nat} {G0 : Nat → Nat} {N0 : List Nat} {H0 : Heap} (h : ck_F wr G0 N0 H0 G N T H) (hn : N0.length ≤ n) : ck_F wr G0 N0 H0 G (N.take n) (ck_dr n T) H := by
  obtain ⟨f1, f2, f3, f4, f5, f6⟩ := h
  refine ⟨f1, f2, f3, by simp; omega, fun i hi => by rw [List.getElem?_take, if_pos (by omega)]; exact f5 i hi, fun i d b hd hb ho hn' => ?_⟩
  unfold ck_dr at hd
  rw [List.getElem?_take] at hd hb
  split at hd
  · rename_i hlt
    rw [if_pos hlt] at hb
    rw [List.getElem?_map] at hd
    obtain ⟨d0, hd0, rfl⟩ := Option.map_eq_some_iff.mp hd
    exact f6 i d0 b hd0 hb ho hn'
  · cases hd
theorem ck_F.leT {wr : List Nat} {G0 : Nat → Nat} {N0 : List Nat} {H0 : Heap} (h : ck_F wr G0 N0 H0 G N T H) (hl : ck_leT T T' = true) : ck_F wr G0 N0 H0 G N T' H := by
  obtain ⟨h1, h2, h3, h4, h5, h6⟩ := h
  refine ⟨h1, h2, h3, h4, h5, fun i c' a hi ha ho hn => ?_⟩
  obtain ⟨c, e1, e2⟩ := ck_leT_get hl hi
  exact h6 i c a e1 ha (ck_leC_own e2 ho) hn
end CKT
theorem ck_all.split {α β : Type} {P : α → β → Prop} {l1 l2 : List α} {m : List β} (h : ck_all P (l1 ++ l2) m) : ∃ m1 m2, m = m1 ++ m2 ∧ ck_all P l1 m1 ∧ ck_all P l2 m2 := by
  induction l1 generalizing m with
  | nil => exact ⟨[], m, rfl, ck_all.nil, h⟩
  | cons a t ih =>
    obtain ⟨b, m', rfl, h1, h2⟩ := ck_all.uncons h
    obtain ⟨m1, m2, rfl, h3, h4⟩ := ih h2
    exact ⟨b :: m1, m2, rfl, ck_all.cons h1 h3, h4⟩
theorem ck_all.rev {α β : Type} {P : α → β → Prop} {l : List α} {m : List β} (h : ck_all P l.reverse m) : ck_all P l m.reverse := by
  refine ⟨by simpa using h.1, fun i a b ha hb => ?_⟩
  have hil : i < l.length := (List.getElem?_eq_some_iff.mp ha).1
  have hml : m.length = l.length := by simpa using h.1.symm
  refine h.2 (l.length - 1 - i) a b ?_ ?_
  · rw [List.getElem?_reverse (by omega), show l.length - 1 - (l.length - 1 - i) = i by omega]
    exact ha
  · rw [List.getElem?_reverse (by omega)] at hb
    rw [← hml]
    exact hb
section CKL
variable {p : Program} {l : Launch} {e : Env} {R : Room} {s : State} {m : MethodId} {args : Array Value} {below : List Frame} {meth : Method} {c : Code} {cells slots : Nat}
variable {cc : ByteArray} {pc pc2 nL : Nat} {D : va_G} {AC : Nat → ClassId} {S : Nat → Nat} {tab : List ck_D} {L : Heap} {ρ0 : Nat → Int} {wr : List Nat} {G0 : Nat → Nat} {N0 : List Nat}
variable {A : List (Nat × ck_V)} {st : List ck_V} {T : List ck_C} {K : ck_Ct}
theorem ck_mono {Q Q' : State → Prop} {H : Heap} {locs : List Loc} {g : JFrame} (h : ∀ t, Q t → Q' t) (w : W p l e R s m args below meth c H locs cells slots Q g) : W p l e R s m args below meth c H locs cells slots Q' g := fun U hU X => by
  obtain ⟨t, a, b⟩ := w U hU X
  exact ⟨t, a, h t b⟩
theorem ck_MQ {t : State} (h : MQ below (fun _ s o t => ck_Ps D AC S tab L ρ0 wr G0 N0 s.heap s K o t.heap) args s K.2.2.2.2.2.2.1 K.2.2.2.2.2.2.2 (fun q => L.size ≤ q) t) : ck_Fin D AC S tab L ρ0 wr G0 N0 K below s t := by
  obtain ⟨o, h1, h2, h3, Ls, ⟨h4, h5, h6⟩, h7⟩ := h
  exact ⟨o, h1, h2, h5, ⟨Ls, h6, h7⟩, h3⟩
/-- the method returns nothing -/
theorem cw_vret (hexec : p.tables.exec = Jvm.exec) (hb : c.code = cc) (hlk : meth.locks = false) (hr : meth.sig.returnType = none) (hK : K.2.2.2.1 = .inl none) (hnp : N0.length = K.2.1.length) (hT : ck_leD K.2.1.length T K.2.2.1 = true) (hc : cells ≤ K.2.2.2.2.2.2.1) (hs : slots ≤ K.2.2.2.2.2.2.2) (hd : decode cc pc = .ok (.return_, 1)) : ck_W p l e R s m args below meth c (ck_Fin D AC S tab L ρ0 wr G0 N0 K below s) D AC S tab L nL ρ0 wr G0 N0 s.heap pc (A, [], T) cells slots := by
  unfold ck_leD at hT
  simp only [Bool.and_eq_true, decide_eq_true_eq] at hT
  obtain ⟨⟨⟨hT1, hT2⟩, hT3⟩, hT⟩ := hT
  intro H ls vs locs h
  obtain ⟨ρ, G, N, lv, h1, h2, h3, h4, h5, h6, h7⟩ := h
  have : vs = [] := by
    have := h3.1
    cases vs with
    | nil => rfl
    | cons a b => simp at this
  subst this
  refine W.widen hc hs (ck_mono (fun t => ck_MQ (args := args)) (W.vret hexec hb hr (fun t ht hW => ?_) h6 hd hlk))
  refine ⟨ρ, G, N.take K.2.2.1.length, by rw [ht]; exact (h4.dr hT3).leT hT, by rw [ht]; exact (h5.dr (by omega)).leT hT, h7, ?_⟩
  rw [hK]
/-- the method returns an int -/
theorem cw_iret (hexec : p.tables.exec = Jvm.exec) (hb : c.code = cc) (hlk : meth.locks = false) {q : ck_Q} {r : ck_V} {ty : FieldType} (hr : meth.sig.returnType = some ty) (hty : ck_fit ty (.inl q) = true) (hK : K.2.2.2.1 = .inl (some r)) (hle : ck_le (.inl q) r = true) (hnr : ck_nrf K.2.2.1.length r = true) (hnp : N0.length = K.2.1.length) (hT : ck_leD K.2.1.length T K.2.2.1 = true) (hc : cells ≤ K.2.2.2.2.2.2.1) (hs : slots ≤ K.2.2.2.2.2.2.2) (hd : decode cc pc = .ok (.ireturn, 1)) : ck_W p l e R s m args below meth c (ck_Fin D AC S tab L ρ0 wr G0 N0 K below s) D AC S tab L nL ρ0 wr G0 N0 s.heap pc (A, [.inl q], T) cells slots := by
  unfold ck_leD at hT
  simp only [Bool.and_eq_true, decide_eq_true_eq] at hT
  obtain ⟨⟨⟨hT1, hT2⟩, hT3⟩, hT⟩ := hT
  intro H ls vs locs h
  obtain ⟨ρ, G, N, lv, h1, h2, h3, h4, h5, h6, h7⟩ := h
  obtain ⟨_, vs', rfl, hx, g2⟩ := h3.uncons
  have hn := (ck_fit_ok hty hx).1
  obtain ⟨x, rfl, gx⟩ := id hx
  have : vs' = [] := by
    have := g2.1
    cases vs' with
    | nil => rfl
    | cons a b => simp at this
  subst this
  refine W.widen hc hs (ck_mono (fun t => ck_MQ (args := args)) (W.zret hexec hb hr hn (fun t ht hW => ?_) h6 hd hlk))
  refine ⟨ρ, G, N.take K.2.2.1.length, by rw [ht]; exact (h4.dr hT3).leT hT, by rw [ht]; exact (h5.dr (by omega)).leT hT, h7, ?_⟩
  rw [hK]
  exact ⟨_, rfl, (hx.le hle).take hnr⟩
/-- the method returns a long -/
theorem cw_lret (hexec : p.tables.exec = Jvm.exec) (hb : c.code = cc) (hlk : meth.locks = false) {q : Int × Int} {r : ck_V} (hr : meth.sig.returnType = some .long) (hK : K.2.2.2.1 = .inl (some r)) (hle : ck_le (.inr (.inl q)) r = true) (hnr : ck_nrf K.2.2.1.length r = true) (hnp : N0.length = K.2.1.length) (hT : ck_leD K.2.1.length T K.2.2.1 = true) (hc : cells ≤ K.2.2.2.2.2.2.1) (hs : slots ≤ K.2.2.2.2.2.2.2) (hd : decode cc pc = .ok (.lreturn, 1)) : ck_W p l e R s m args below meth c (ck_Fin D AC S tab L ρ0 wr G0 N0 K below s) D AC S tab L nL ρ0 wr G0 N0 s.heap pc (A, [.inr (.inl q)], T) cells slots := by
  unfold ck_leD at hT
  simp only [Bool.and_eq_true, decide_eq_true_eq] at hT
  obtain ⟨⟨⟨hT1, hT2⟩, hT3⟩, hT⟩ := hT
  intro H ls vs locs h
  obtain ⟨ρ, G, N, lv, h1, h2, h3, h4, h5, h6, h7⟩ := h
  obtain ⟨_, vs', rfl, hx, g2⟩ := h3.uncons
  obtain ⟨x, rfl, gx⟩ := id hx
  have : vs' = [] := by
    have := g2.1
    cases vs' with
    | nil => rfl
    | cons a b => simp at this
  subst this
  refine W.widen hc hs (ck_mono (fun t => ck_MQ (args := args)) (W.lret hexec hb hr (fun t ht hW => ?_) h6 hd hlk))
  refine ⟨ρ, G, N.take K.2.2.1.length, by rw [ht]; exact (h4.dr hT3).leT hT, by rw [ht]; exact (h5.dr (by omega)).leT hT, h7, ?_⟩
  rw [hK]
  exact ⟨_, rfl, (hx.le hle).take hnr⟩
/-- the method returns a reference -/
theorem cw_aret (hexec : p.tables.exec = Jvm.exec) (hb : c.code = cc) (hlk : meth.locks = false) {v r : ck_V} {ty : FieldType} (hr : meth.sig.returnType = some ty) (hrt : (∃ n, ty = .object n) ∨ ∃ t, ty = .array t) (hv : ck_fit (.object "") v = true) (hK : K.2.2.2.1 = .inl (some r)) (hle : ck_le (ck_unf T v) r = true) (hnr : ck_nrf K.2.2.1.length r = true) (hnp : N0.length = K.2.1.length) (hT : ck_leD K.2.1.length T K.2.2.1 = true) (hc : cells ≤ K.2.2.2.2.2.2.1) (hs : slots ≤ K.2.2.2.2.2.2.2) (hd : decode cc pc = .ok (.areturn, 1)) : ck_W p l e R s m args below meth c (ck_Fin D AC S tab L ρ0 wr G0 N0 K below s) D AC S tab L nL ρ0 wr G0 N0 s.heap pc (A, [v], T) cells slots := by
  unfold ck_leD at hT
  simp only [Bool.and_eq_true, decide_eq_true_eq] at hT
  obtain ⟨⟨⟨hT1, hT2⟩, hT3⟩, hT⟩ := hT
  intro H ls vs locs h
  obtain ⟨ρ, G, N, lv, h1, h2, h3, h4, h5, h6, h7⟩ := h
  obtain ⟨w, vs', rfl, hx, g2⟩ := h3.uncons
  have : vs' = [] := by
    have := g2.1
    cases vs' with
    | nil => rfl
    | cons a b => simp at this
  subst this
  have hQ : ∀ t : State, t.heap = H → s.WarmedH t.vm → ck_Ps D AC S tab L ρ0 wr G0 N0 s.heap s K (.returned (some w)) t.heap := fun t ht hW => by
    refine ⟨ρ, G, N.take K.2.2.1.length, by rw [ht]; exact (h4.dr hT3).leT hT, by rw [ht]; exact (h5.dr (by omega)).leT hT, h7, ?_⟩
    rw [hK]
    exact ⟨_, rfl, ((ck_unf_ok h4 hx).le hle).take hnr⟩
  have hw : w = .null ∨ ∃ a, w = .ref a := by
    match v, hv, hx with
    | .inl _, hv, _ => cases hv
    | .inr (.inl _), hv, _ => cases hv
    | .inr (.inr (n, k)), hv, hx =>
      simp only [ck_fit, decide_eq_true_eq] at hv
      exact ck_isRef hx hv
  exact W.widen hc hs (ck_mono (fun t => ck_MQ (args := args)) (W.aret hexec hb hr hrt hw hQ h6 hd hlk))
end CKL
