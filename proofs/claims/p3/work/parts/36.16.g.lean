/-! the second checker: 16 -/
section CKT
variable {D : va_G} {AC : Nat → ClassId} {S : Nat → Nat} {tab : List ck_D} {L : Heap} {ρ : Nat → Int} {G : Nat → Nat} {N : List Nat} {T T' : List ck_C} {H : Heap}
end CKT
section CKL
variable {p : Program} {l : Launch} {e : Env} {R : Room} {s : State} {m : MethodId} {args : Array Value} {below : List Frame} {meth : Method} {c : Code} {cells slots : Nat}
variable {cc : ByteArray} {pc pc2 nL : Nat} {D : va_G} {AC : Nat → ClassId} {S : Nat → Nat} {tab : List ck_D} {L : Heap} {ρ0 : Nat → Int} {wr : List Nat} {G0 : Nat → Nat} {N0 : List Nat}
variable {A : List (Nat × ck_V)} {st : List ck_V} {T : List ck_C} {K : ck_Ct}
theorem gck_MQ {t : State} (h : MQ below (fun _ s o t => gck_Ps D AC S tab L ρ0 wr G0 N0 s.heap s K o t.heap) args s K.2.2.2.2.2.2.1 K.2.2.2.2.2.2.2 (fun q => L.size ≤ q) t) : gck_Fin D AC S tab L ρ0 wr G0 N0 K below s t := by
  obtain ⟨o, h1, h2, h3, Ls, ⟨h4, h5, h6⟩, h7⟩ := h
  exact ⟨o, h1, h2, h5, ⟨Ls, h6, h7⟩, h3⟩
/-- the method returns nothing -/
theorem gcw_vret (hexec : p.tables.exec = Jvm.exec) (hb : c.code = cc) (hlk : meth.locks = false) (hr : meth.sig.returnType = none) (hK : K.2.2.2.1 = .inl none) (hnp : N0.length = K.2.1.length) (hT : ck_leD K.2.1.length T K.2.2.1 = true) (hc : cells ≤ K.2.2.2.2.2.2.1) (hs : slots ≤ K.2.2.2.2.2.2.2) (hd : decode cc pc = .ok (.return_, 1)) : gck_W p l e R s m args below meth c (gck_Fin D AC S tab L ρ0 wr G0 N0 K below s) D AC S tab L nL ρ0 wr G0 N0 s.heap pc (A, [], T) cells slots := by
  unfold ck_leD at hT
  simp only [Bool.and_eq_true, decide_eq_true_eq] at hT
  obtain ⟨⟨⟨hT1, hT2⟩, hT3⟩, hT⟩ := hT
  intro H ls vs locs h
  obtain ⟨ρ, G, N, lv, h1, h2, h3, h4, h5, h6, h7⟩ := h
  have : vs = [] := by
    have := h3.1
    cases vs with
    | nil => rfl
    | cons a b => simp at this
  subst this
  refine W.widen hc hs (ck_mono (fun t => gck_MQ (args := args)) (W.vret hexec hb hr (fun t ht hW => ?_) h6 hd hlk))
  refine ⟨ρ, G, N.take K.2.2.1.length, by rw [ht]; exact (h4.dr hT3).leT hT, by rw [ht]; exact (h5.dr (by omega)).leT hT, h7, ?_⟩
  rw [hK]
/-- the method returns an int -/
theorem gcw_iret (hexec : p.tables.exec = Jvm.exec) (hb : c.code = cc) (hlk : meth.locks = false) {q : ck_Q} {r : ck_V} {ty : FieldType} (hr : meth.sig.returnType = some ty) (hty : ck_fit ty (.inl q) = true) (hK : K.2.2.2.1 = .inl (some r)) (hle : ck_le (.inl q) r = true) (hnr : ck_nrf K.2.2.1.length r = true) (hnp : N0.length = K.2.1.length) (hT : ck_leD K.2.1.length T K.2.2.1 = true) (hc : cells ≤ K.2.2.2.2.2.2.1) (hs : slots ≤ K.2.2.2.2.2.2.2) (hd : decode cc pc = .ok (.ireturn, 1)) : gck_W p l e R s m args below meth c (gck_Fin D AC S tab L ρ0 wr G0 N0 K below s) D AC S tab L nL ρ0 wr G0 N0 s.heap pc (A, [.inl q], T) cells slots := by
  unfold ck_leD at hT
  simp only [Bool.and_eq_true, decide_eq_true_eq] at hT
  obtain ⟨⟨⟨hT1, hT2⟩, hT3⟩, hT⟩ := hT
  intro H ls vs locs h
  obtain ⟨ρ, G, N, lv, h1, h2, h3, h4, h5, h6, h7⟩ := h
  obtain ⟨_, vs', rfl, hx, g2⟩ := h3.uncons
  have hn := (ck_fit_ok hty hx).1
  obtain ⟨x, rfl, gx⟩ := id hx
  have : vs' = [] := by
    have := g2.1
    cases vs' with
    | nil => rfl
    | cons a b => simp at this
  subst this
  refine W.widen hc hs (ck_mono (fun t => gck_MQ (args := args)) (W.zret hexec hb hr hn (fun t ht hW => ?_) h6 hd hlk))
  refine ⟨ρ, G, N.take K.2.2.1.length, by rw [ht]; exact (h4.dr hT3).leT hT, by rw [ht]; exact (h5.dr (by omega)).leT hT, h7, ?_⟩
  rw [hK]
  exact ⟨_, rfl, (hx.le hle).take hnr⟩
/-- the method returns a long -/
theorem gcw_lret (hexec : p.tables.exec = Jvm.exec) (hb : c.code = cc) (hlk : meth.locks = false) {q : Int × Int} {r : ck_V} (hr : meth.sig.returnType = some .long) (hK : K.2.2.2.1 = .inl (some r)) (hle : ck_le (.inr (.inl q)) r = true) (hnr : ck_nrf K.2.2.1.length r = true) (hnp : N0.length = K.2.1.length) (hT : ck_leD K.2.1.length T K.2.2.1 = true) (hc : cells ≤ K.2.2.2.2.2.2.1) (hs : slots ≤ K.2.2.2.2.2.2.2) (hd : decode cc pc = .ok (.lreturn, 1)) : gck_W p l e R s m args below meth c (gck_Fin D AC S tab L ρ0 wr G0 N0 K below s) D AC S tab L nL ρ0 wr G0 N0 s.heap pc (A, [.inr (.inl q)], T) cells slots := by
  unfold ck_leD at hT
  simp only [Bool.and_eq_true, decide_eq_true_eq] at hT
  obtain ⟨⟨⟨hT1, hT2⟩, hT3⟩, hT⟩ := hT
  intro H ls vs locs h
  obtain ⟨ρ, G, N, lv, h1, h2, h3, h4, h5, h6, h7⟩ := h
  obtain ⟨_, vs', rfl, hx, g2⟩ := h3.uncons
  obtain ⟨x, rfl, gx⟩ := id hx
  have : vs' = [] := by
    have := g2.1
    cases vs' with
    | nil => rfl
    | cons a b => simp at this
  subst this
  refine W.widen hc hs (ck_mono (fun t => gck_MQ (args := args)) (W.lret hexec hb hr (fun t ht hW => ?_) h6 hd hlk))
  refine ⟨ρ, G, N.take K.2.2.1.length, by rw [ht]; exact (h4.dr hT3).leT hT, by rw [ht]; exact (h5.dr (by omega)).leT hT, h7, ?_⟩
  rw [hK]
  exact ⟨_, rfl, (hx.le hle).take hnr⟩
/-- the method returns a reference -/
theorem gcw_aret (hexec : p.tables.exec = Jvm.exec) (hb : c.code = cc) (hlk : meth.locks = false) {v r : ck_V} {ty : FieldType} (hr : meth.sig.returnType = some ty) (hrt : (∃ n, ty = .object n) ∨ ∃ t, ty = .array t) (hv : ck_fit (.object "") v = true) (hK : K.2.2.2.1 = .inl (some r)) (hle : ck_le (ck_unf T v) r = true) (hnr : ck_nrf K.2.2.1.length r = true) (hnp : N0.length = K.2.1.length) (hT : ck_leD K.2.1.length T K.2.2.1 = true) (hc : cells ≤ K.2.2.2.2.2.2.1) (hs : slots ≤ K.2.2.2.2.2.2.2) (hd : decode cc pc = .ok (.areturn, 1)) : gck_W p l e R s m args below meth c (gck_Fin D AC S tab L ρ0 wr G0 N0 K below s) D AC S tab L nL ρ0 wr G0 N0 s.heap pc (A, [v], T) cells slots := by
  unfold ck_leD at hT
  simp only [Bool.and_eq_true, decide_eq_true_eq] at hT
  obtain ⟨⟨⟨hT1, hT2⟩, hT3⟩, hT⟩ := hT
  intro H ls vs locs h
  obtain ⟨ρ, G, N, lv, h1, h2, h3, h4, h5, h6, h7⟩ := h
  obtain ⟨w, vs', rfl, hx, g2⟩ := h3.uncons
  have : vs' = [] := by
    have := g2.1
    cases vs' with
    | nil => rfl
    | cons a b => simp at this
  subst this
  have hQ : ∀ t : State, t.heap = H → s.WarmedH t.vm → gck_Ps D AC S tab L ρ0 wr G0 N0 s.heap s K (.returned (some w)) t.heap := fun t ht hW => by
    refine ⟨ρ, G, N.take K.2.2.1.length, by rw [ht]; exact (h4.dr hT3).leT hT, by rw [ht]; exact (h5.dr (by omega)).leT hT, h7, ?_⟩
    rw [hK]
    exact ⟨_, rfl, ((ck_unf_ok h4 hx).le hle).take hnr⟩
  have hw : w = .null ∨ ∃ a, w = .ref a := by
    match v, hv, hx with
    | .inl _, hv, _ => cases hv
    | .inr (.inl _), hv, _ => cases hv
    | .inr (.inr (n, k)), hv, hx =>
      simp only [ck_fit, decide_eq_true_eq] at hv
      exact ck_isRef hx hv
  exact W.widen hc hs (ck_mono (fun t => gck_MQ (args := args)) (W.aret hexec hb hr hrt hw hQ h6 hd hlk))
end CKL
