/-! ===== the checker: branches, returns, copying ===== -/
def ck_tgt (pc : Nat) (off : Int) : Option Nat := if 0 ≤ (pc : Int) + off then some ((pc : Int) + off).toNat else none
theorem ck_tgt_ok {pc t : Nat} {off : Int} (h : ck_tgt pc off = some t) : (pc : Int) + off = (t : Int) := by
  unfold ck_tgt at h
  split at h
  · cases h; omega
  · cases h
def ck_swT (pc : Nat) (offs : Array Int) (i : Nat) : Nat := match offs[i]? with
  | some off => ((pc : Int) + off).toNat
  | none => 0
def ck_sw (pc : Nat) (offs : Array Int) (i : Nat) : Bool := match offs[i]? with
  | some off => decide (0 ≤ (pc : Int) + off)
  | none => false
def ck_opt {α β : Type} (o : Option α) (f : α → β) : List β := match o with
  | some a => [f a]
  | none => []
def ck_br (nL : Nat) (i : Instr) (n pc : Nat) (B : ck_A) (ce sl : Nat) : Option (List ck_N) := match i, B with
  | .goto off, B => if n = 3 then (match ck_tgt pc off with
    | some t => some [(t, B, ce, sl)]
    | none => none) else none
  | .ifCond k off, (A, .inl a :: st, T) => if n = 3 then (match ck_tgt pc off with
    | some t => some (ck_opt (ck_ref k (a.1, a.2.1) (0, 0)) (fun r => (t, ck_tgO a.2.2 r.1.1 r.1.2 (A, st, T), ce, sl)) ++ ck_opt (ck_ref (ck_neg k) (a.1, a.2.1) (0, 0)) (fun r => (pc + 3, ck_tgO a.2.2 r.1.1 r.1.2 (A, st, T), ce, sl)))
    | none => none) else none
  | .if_icmp k off, (A, .inl b :: .inl a :: st, T) => if n = 3 then (match ck_tgt pc off with
    | some t => some (ck_opt (ck_ref k (a.1, a.2.1) (b.1, b.2.1)) (fun r => (t, ck_tgO b.2.2 r.2.1 r.2.2 (ck_tgO a.2.2 r.1.1 r.1.2 (A, st, T)), ce, sl)) ++ ck_opt (ck_ref (ck_neg k) (a.1, a.2.1) (b.1, b.2.1)) (fun r => (pc + 3, ck_tgO b.2.2 r.2.1 r.2.2 (ck_tgO a.2.2 r.1.1 r.1.2 (A, st, T)), ce, sl)))
    | none => none) else none
  | .iinc j v, (A, st, T) => (match ck_loc A j with
    | some (.inl q) => if n = 3 ∧ j < nL ∧ A.all (fun q => ck_kn q.2) = true ∧ -2147483648 ≤ v ∧ v ≤ 2147483647 then some [(pc + 3, (ck_s1 A j (ck_add q (v, v, none)), st, T), ce, sl)] else none
    | _ => none)
  | .tableswitch d lo hi offs, (A, .inl a :: st, T) => (match ck_tgt pc d with
    | some td => if (List.range (hi - lo + 1).toNat).all (ck_sw pc offs) = true then some (((List.range (hi - lo + 1).toNat).filter (fun (i : Nat) => decide (a.1 ≤ lo + (i : Int)) && decide (lo + (i : Int) ≤ a.2.1))).map (fun (i : Nat) => (ck_swT pc offs i, (A, st, T), ce, sl)) ++ (if a.1 < lo ∨ hi < a.2.1 then [(td, (A, st, T), ce, sl)] else [])) else none
    | none => none)
  | _, _ => none
def ck_rt1 (M : ck_M) (K : ck_Ct) (i : Instr) (n : Nat) (B : ck_A) (ce sl : Nat) : Bool := decide (n = 1) && ck_leD K.2.1.length B.2.2 K.2.2.1 && decide (ce ≤ K.2.2.2.2.2.2.1) && decide (sl ≤ K.2.2.2.2.2.2.2) && (match i, B.2.1, K.2.2.2.1, M.2.2.2.1 with
  | .return_, [], .inl none, none => true
  | .ireturn, [.inl q], .inl (some r), some ty => ck_fit ty (.inl q) && ck_le (.inl q) r && ck_nrf K.2.2.1.length r
  | .lreturn, [.inr (.inl q)], .inl (some r), some .long => ck_le (.inr (.inl q)) r && ck_nrf K.2.2.1.length r
  | .areturn, [v], .inl (some r), some (.object _) => ck_fit (.object "") v && ck_le (ck_unf B.2.2 v) r && ck_nrf K.2.2.1.length r
  | .areturn, [v], .inl (some r), some (.array _) => ck_fit (.object "") v && ck_le (ck_unf B.2.2 v) r && ck_nrf K.2.2.1.length r
  | _, _, _, _ => false)
def ck_rt (M : ck_M) (K : ck_Ct) (al : List (List ck_C × (Option ck_V ⊕ Nat))) (i : Instr) (n : Nat) (B : ck_A) (ce sl : Nat) : Bool := al.any (fun a => ck_rt1 M (ck_alt K a) i n B ce sl)
def ck_csrc (tab : List ck_D) (ac : Nat) (v : ck_V) : Option (Nat × List (Nat × ck_V)) := match v with
  | .inr (.inr (2, σ)) => (match tab[σ]? with
    | some (.inl (ac', n0, sg0)) => if ac' = ac then some (n0, sg0) else none
    | _ => none)
  | .inr (.inr (3, j)) => if ac = 0 ∧ j < 2 then some (ck_sl2 j, [(ck_sl2 j, ck_full)]) else none
  | _ => none
def ck_cpj (ac sp dp : Nat) (sg0 sg : List (Nat × ck_V)) (j : Nat) : Bool := ck_plain (ck_kat sg0 (sp + j)) && ck_prim ac (ck_kat sg0 (sp + j)) && ck_le (ck_kat sg0 (sp + j)) (ck_kat sg (dp + j))
def ck_cpy (E : ck_E) (tab : List ck_D) (wr : List Nat) (K : ck_Ct) (i : Instr) (n pc : Nat) (B : ck_A) (ce sl : Nat) : Option (List ck_N) := match i, B with
  | .invokestatic idx, (A, .inl qn :: .inl qd :: .inr (.inr (2, τ)) :: .inl qs :: v :: st, T) => (match tab[τ]?, ck_one qn, ck_one qd, ck_one qs with
    | some (.inl (ac, n1, sg)), some k, some dp, some sp => (match ck_csrc tab ac (ck_unf T v) with
      | some (n0, sg0) => if n = 3 ∧ (ck_cy E).contains idx = true ∧ (ac = 0 ∨ ac = 1) ∧ (List.range k).all (ck_cpj ac sp dp sg0 sg) = true ∧ wr.contains τ = true ∧ ck_nof T τ = true ∧ sp + k ≤ n0 ∧ dp + k ≤ n1 ∧ st.all ck_kn = true ∧ 1 ≤ K.2.2.2.2.1 ∧ ck_words st + 18 ≤ K.2.2.2.2.2.1 then some [(pc + 3, (A, st, T), ce, sl)] else none
      | none => none)
    | _, _, _, _ => none)
  | _, _ => none
/-- Object's constructor -/
def ck_obi (E : ck_E) (K : ck_Ct) (i : Instr) (n pc : Nat) (B : ck_A) (ce sl : Nat) : Option (List ck_N) := match i, B with
  | .invokespecial idx, (A, .inr (.inr (z, y)) :: st, T) => if n = 3 ∧ (ck_ob0 E).contains idx = true ∧ (z = 1 ∨ z = 2) ∧ st.all ck_kn = true ∧ 1 ≤ K.2.2.2.2.1 ∧ ck_words st + 12 ≤ K.2.2.2.2.2.1 then some [(pc + 3, (A, st, T), ce, sl)] else none
  | _, _ => none
section CKFL
variable {p : Program} {l : Launch} {e : Env} {R : Room} {s : State} {m : MethodId} {args : Array Value} {below : List Frame} {meth : Method} {c : Code} {ce sl : Nat} {Q : State → Prop}
variable {pc nL : Nat} {nb : Nat × Nat} {al : List (List ck_C × (Option ck_V ⊕ Nat))} {D : va_G} {AC : Nat → ClassId} {S : Nat → Nat} {tab : List ck_D} {L : Heap} {ρ0 : Nat → Int} {wr : List Nat} {G0 : Nat → Nat} {N0 : List Nat} {H0 : Heap}
variable {B : ck_A} {M : ck_M} {K : ck_Ct} {E : ck_E} {ms : List ck_MM} {cts : List (Nat × ck_Kt)} {cod : List (List (Nat × Instr × Nat))}
theorem cw_br (hy : ck_Hy p l e R s m meth c M K E ms cts tab nb D AC S L cod) {i : Instr} {n : Nat} {X : List ck_N} (hd : decode M.2.1 pc = .ok (i, n)) (h : ck_br nL i n pc B ce sl = some X)
    (k : ∀ x ∈ X, ck_W p l e R s m args below meth c Q D AC S tab L nL ρ0 wr G0 N0 H0 x.1 x.2.1 x.2.2.1 x.2.2.2) : ck_W p l e R s m args below meth c Q D AC S tab L nL ρ0 wr G0 N0 H0 pc B ce sl := by
  obtain ⟨⟨hexec, hb, hml, hret, hlk, hown, hhd, hnm⟩, -⟩ := hy
  have oin : ∀ {α β : Type} {o : Option α} {f : α → β} {a : α}, o = some a → f a ∈ ck_opt o f := by
    intro α β o f a ho
    rw [ho]
    exact List.mem_singleton.mpr rfl
  unfold ck_br at h
  split at h
  · split at h
    · rename_i hn
      subst hn
      split at h
      · rename_i t ht
        cases h
        exact cw_goto hexec hb hd (ck_tgt_ok ht) (k _ (List.mem_singleton.mpr rfl))
      · cases h
    · cases h
  · split at h
    · rename_i hn
      subst hn
      split at h
      · rename_i t ht
        cases h
        exact cw_ifc hexec hb hd (ck_tgt_ok ht) (fun r hr => k _ (List.mem_append_left _ (oin hr))) (fun r hr => k _ (List.mem_append_right _ (oin hr)))
      · cases h
    · cases h
  · split at h
    · rename_i hn
      subst hn
      split at h
      · rename_i t ht
        cases h
        exact cw_icmp hexec hb hd (ck_tgt_ok ht) (fun r hr => k _ (List.mem_append_left _ (oin hr))) (fun r hr => k _ (List.mem_append_right _ (oin hr)))
      · cases h
    · cases h
  · split at h
    · rename_i q hq
      split at h
      · rename_i hc
        obtain ⟨rfl, c1, c2, c3, c4⟩ := hc
        cases h
        exact cw_iinc hexec hb hd hq c1 c2 (ck_ofInt c3 c4) (k _ (List.mem_singleton.mpr rfl))
      · cases h
    · cases h
  · rename_i d lo hi offs A a st T
    split at h
    · rename_i td htd
      split at h
      · rename_i hall
        cases h
        refine cw_table hexec hb hd (ck_tgt_ok htd) (ck_swT pc offs) (fun i hi' => ?_) (fun i hi' h1 h2 => k _ (List.mem_append_left _ (List.mem_map.mpr ⟨i, List.mem_filter.mpr ⟨List.mem_range.mpr hi', by simp [h1, h2]⟩, rfl⟩))) (fun ho => k _ (List.mem_append_right _ (by rw [if_pos ho]; exact List.mem_singleton.mpr rfl)))
        have := List.all_eq_true.mp hall i (List.mem_range.mpr hi')
        unfold ck_sw at this
        unfold ck_swT
        split at this
        · rename_i off ho
          have := of_decide_eq_true this
          exact ⟨off, ho, by omega⟩
        · cases this
      · cases h
    · cases h
  · cases h
theorem ck_W.mono {Q' : State → Prop} (hQ : ∀ t, Q t → Q' t) (h : ck_W p l e R s m args below meth c Q D AC S tab L nL ρ0 wr G0 N0 H0 pc B ce sl) : ck_W p l e R s m args below meth c Q' D AC S tab L nL ρ0 wr G0 N0 H0 pc B ce sl :=
  fun H ls st locs hs => ck_mono hQ (h H ls st locs hs)
theorem cw_rt1 (hy : ck_Hy p l e R s m meth c M K E ms cts tab nb D AC S L cod) {K' : ck_Ct} (hnp : N0.length = K'.2.1.length) {i : Instr} {n : Nat} (hd : decode M.2.1 pc = .ok (i, n)) (h : ck_rt1 M K' i n B ce sl = true) (hQ : ∀ t, ck_Fin D AC S tab L ρ0 wr G0 N0 K' below s t → Q t) : ck_W p l e R s m args below meth c Q D AC S tab L nL ρ0 wr G0 N0 s.heap pc B ce sl := by
  obtain ⟨⟨hexec, hb, hml, hret, hlk, hown, hhd, hnm⟩, -⟩ := hy
  unfold ck_rt1 at h
  simp only [Bool.and_eq_true, decide_eq_true_eq] at h
  obtain ⟨⟨⟨⟨rfl, hT⟩, hc⟩, hs⟩, hm⟩ := h
  obtain ⟨A, st, T⟩ := B
  refine ck_W.mono hQ ?_
  dsimp only at hm hT
  split at hm
  · rename_i hr ht
    exact cw_vret hexec hb hlk (hret.trans ht) hr hnp hT hc hs hd
  · rename_i q r ty hr ht
    simp only [Bool.and_eq_true] at hm
    exact cw_iret hexec hb hlk (hret.trans ht) hm.1.1 hr hm.1.2 hm.2 hnp hT hc hs hd
  · rename_i q r hr ht
    simp only [Bool.and_eq_true] at hm
    exact cw_lret hexec hb hlk (hret.trans ht) hr hm.1 hm.2 hnp hT hc hs hd
  · rename_i v r o hr ht
    simp only [Bool.and_eq_true] at hm
    exact cw_aret hexec hb hlk (hret.trans ht) (Or.inl ⟨_, rfl⟩) hm.1.1 hr hm.1.2 hm.2 hnp hT hc hs hd
  · rename_i v r o hr ht
    simp only [Bool.and_eq_true] at hm
    exact cw_aret hexec hb hlk (hret.trans ht) (Or.inr ⟨_, rfl⟩) hm.1.1 hr hm.1.2 hm.2 hnp hT hc hs hd
  · cases hm
theorem cw_rt (hy : ck_Hy p l e R s m meth c M K E ms cts tab nb D AC S L cod) (hnp : N0.length = K.2.1.length) {i : Instr} {n : Nat} (hd : decode M.2.1 pc = .ok (i, n)) (h : ck_rt M K al i n B ce sl = true) (hQ : ∀ a ∈ al, ∀ t, ck_Fin D AC S tab L ρ0 wr G0 N0 (ck_alt K a) below s t → Q t) : ck_W p l e R s m args below meth c Q D AC S tab L nL ρ0 wr G0 N0 s.heap pc B ce sl := by
  unfold ck_rt at h
  obtain ⟨a, ha, h⟩ := List.any_eq_true.mp h
  exact cw_rt1 hy (K' := ck_alt K a) hnp hd h (hQ a ha)
theorem cw_cpy (hy : ck_Hy p l e R s m meth c M K E ms cts tab nb D AC S L cod) (hnl : nL = M.2.2.1) {i : Instr} {n : Nat} {X : List ck_N} (hd : decode M.2.1 pc = .ok (i, n)) (h : ck_cpy E tab wr K i n pc B ce sl = some X)
    (k : ∀ x ∈ X, ck_W p l e R s m args below meth c Q D AC S tab L nL ρ0 wr G0 N0 H0 x.1 x.2.1 x.2.2.1 x.2.2.2) : ck_W p l e R s m args below meth c Q D AC S tab L nL ρ0 wr G0 N0 H0 pc B ce sl := by
  obtain ⟨⟨hexec, hb, hml, hret, hlk, hown, hhd, hnm⟩, htr, ⟨r1, r2, r3, r4⟩, ⟨nS, hn1, hn2, hKf⟩, hE, hEM, hms, hcts, hgl, hcod⟩ := hy
  have hts : ∀ w ∈ ck_tb, w.before args s = true := hKf.ts
  obtain ⟨e1, e2, e3, e4, e5, e6, e7, e8, e9, e10, e11, e12⟩ := hE
  rw [← hEM] at hown
  unfold ck_cpy at h
  split at h
  · rename_i idx A qn qd τ qs v st T
    split at h
    · rename_i ac n1 sg kk dp sp hτ h1 h2 h3
      split at h
      · rename_i n0 sg0 hsrc
        split at h
        · rename_i hc
          obtain ⟨rfl, c1, c2, c3, c4, c5, c8, c9, c10, c11, c12⟩ := hc
          cases h
          have hty : ∃ ty, ck_tyK ac = some ty := by
            rcases c2 with rfl | rfl
            · exact ⟨_, rfl⟩
            · exact ⟨_, rfl⟩
          obtain ⟨ty, hty⟩ := hty
          have hw : nativeFrameWords "java/lang/System" "arraycopy" 5 = 7 := by decide +kernel
          have hcp : ∀ j, j < kk → ck_plain (ck_kat sg0 (sp + j)) = true ∧ ck_prim ac (ck_kat sg0 (sp + j)) = true ∧ ck_le (ck_kat sg0 (sp + j)) (ck_kat sg (dp + j)) = true := fun j hj => by
            have := List.all_eq_true.mp c3 j (List.mem_range.mpr hj)
            unfold ck_cpj at this
            simp only [Bool.and_eq_true] at this
            exact ⟨this.1.1, this.1.2, this.2⟩
          have main : ck_W p l e R s m args below meth c Q D AC S tab L nL ρ0 wr G0 N0 H0 pc (A, .inl qn :: .inl qd :: .inr (.inr (2, τ)) :: .inl qs :: ck_unf T v :: st, T) ce sl := by
            refine cw_copy hexec hb hown hKf.1 (hts _ (e10 _ (by simpa using c1))) (hts _ hgl.2.2.2.1) (hts _ hgl.2.2.2.2.1) (hts _ hgl.2.2.2.2.2.1) (hml.trans hnl.symm) hty c2 hτ hcp (by simpa using c4) (ck_nof_ok c5) ?_ c8 c9 (ck_one_ok h3) (ck_one_ok h2) (ck_one_ok h1) c10 (by omega) (by rw [hw]; omega) hd (k _ (List.mem_singleton.mpr rfl))
            unfold ck_csrc at hsrc
            split at hsrc
            · rename_i σ hv
              split at hsrc
              · rename_i ac' n0' sg0' hσ
                split at hsrc
                · rename_i e
                  subst e
                  cases hsrc
                  exact Or.inl ⟨_, hv, hσ⟩
                · cases hsrc
              · cases hsrc
            · rename_i j hv
              split at hsrc
              · rename_i hj
                cases hsrc
                have hs := hKf.sta (show j < 3 by omega)
                have e : ck_slen nS j = ck_sl2 j := by
                  unfold ck_slen ck_sl2
                  split
                  · rfl
                  · rw [if_pos (by omega)]
                rw [e] at hs
                exact Or.inr ⟨j, hv, hj.1, hs, rfl⟩
              · cases hsrc
            · cases hsrc
          intro H ls vs locs hh
          obtain ⟨ρ, G, N, lv, h1, h2, h3, h4, h5, h6, h7⟩ := hh
          obtain ⟨v1, _, rfl, w1, g1⟩ := h3.uncons
          obtain ⟨v2, _, rfl, w2, g2⟩ := g1.uncons
          obtain ⟨v3, _, rfl, w3, g3⟩ := g2.uncons
          obtain ⟨v4, _, rfl, w4, g4⟩ := g3.uncons
          obtain ⟨v5, _, rfl, w5, g5⟩ := g4.uncons
          exact main H ls _ locs ⟨ρ, G, N, lv, h1, h2, ck_all.cons w1 (ck_all.cons w2 (ck_all.cons w3 (ck_all.cons w4 (ck_all.cons (ck_unf_ok h4 w5) g5)))), h4, h5, h6, h7⟩
        · cases h
      · cases h
    · cases h
  · cases h
theorem cw_obi (hy : ck_Hy p l e R s m meth c M K E ms cts tab nb D AC S L cod) (hnl : nL = M.2.2.1) {i : Instr} {n : Nat} {X : List ck_N} (hd : decode M.2.1 pc = .ok (i, n)) (h : ck_obi E K i n pc B ce sl = some X)
    (k : ∀ x ∈ X, ck_W p l e R s m args below meth c Q D AC S tab L nL ρ0 wr G0 N0 H0 x.1 x.2.1 x.2.2.1 x.2.2.2) : ck_W p l e R s m args below meth c Q D AC S tab L nL ρ0 wr G0 N0 H0 pc B ce sl := by
  obtain ⟨⟨hexec, hb, hml, hret, hlk, hown, hhd, hnm⟩, htr, ⟨r1, r2, r3, r4⟩, ⟨nS, hn1, hn2, hKf⟩, hE, hEM, hms, hcts, hgl, hcod⟩ := hy
  have hts : ∀ w ∈ ck_tb, w.before args s = true := hKf.ts
  obtain ⟨e1, e2, e3, e4, e5, e6, e7, e8, e9, e10, e11, e12⟩ := hE
  rw [← hEM] at hown
  unfold ck_obi at h
  split at h
  · rename_i idx A z y st T
    split at h
    · rename_i hc
      obtain ⟨rfl, c1, c2, c3, c4, c5⟩ := hc
      cases h
      intro H ls vs locs hh
      obtain ⟨ρ, G, N, lv, h1, h2, h3, h4, h5, h6, h7⟩ := hh
      obtain ⟨v0, vs', rfl, w1, w2⟩ := h3.uncons
      have hor : ∃ b, v0 = .ref b := by
        rcases c2 with rfl | rfl
        · obtain ⟨a, -, rfl⟩ := w1
          exact ⟨a, rfl⟩
        · obtain ⟨a, rfl, -⟩ := w1
          exact ⟨a, rfl⟩
      obtain ⟨b, rfl⟩ := hor
      refine W.objInit hexec hb hown (hts _ (e12 _ (by simpa using c1))) (hts _ hgl.2.2.2.2.2.2.1) (hts _ hgl.2.2.2.2.2.2.2) rfl ?_ rfl hd (by omega) ?_ (k _ (List.mem_singleton.mpr rfl) H ls vs' locs ⟨ρ, G, N, lv, h1, h2, w2, h4, h5, h6, h7⟩)
      · show ls.size = c.maxLocals
        rw [h1.1, hml]
        exact hnl
      · have hw := ck_words_ok w2 c3
        have hmr : (F0 m pc ls (Value.ref b :: vs')).monitorRoom = 0 := rfl
        rw [hmr, hw]
        omega
    · cases h
  · cases h
end CKFL
