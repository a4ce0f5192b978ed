/-! ===== pieces of a method: a state told anew, a run between two places ===== -/
def xk_im (ρ ρ' : Nat → Int) (v v' : xk_V) : Prop := v.1 = v'.1 ∧ (v.1 < 2 → xk_ov ρ v.2 = xk_ov ρ' v'.2) ∧ (2 ≤ v.1 → v.2.1 = v'.2.1)
section XV
variable {p : Program} {l : Launch} {e : Env} {R : Room} {s : State} {m : MethodId} {args : Array Value} {below : List Frame} {meth : Method} {c : Code} {Q : State → Prop}
variable {nb : Nat × Nat} {D : va_G} {AC : Nat → ClassId} {S : Nat → Nat} {θ : Nat → Value} {L : Heap} {ρ ρ' : Nat → Int} {N : List Nat} {H0 : Heap} {Φ : Nat → Nat → List Int → Int} {wd : Nat → Nat}
variable {M : ck_M} {fr lo nL : Nat} {E : ck_E} {ms : List ck_MM} {cts : List xk_Q} {cod : List (List (Nat × Instr × Nat))}
theorem xk_im_R {v v' : xk_V} {w : Value} (h : xk_im ρ ρ' v v') (hw : xk_R S θ ρ N v w) : xk_R S θ ρ' N v' w := by
  obtain ⟨k, o⟩ := v
  obtain ⟨k', o'⟩ := v'
  obtain ⟨h1, h2, h3⟩ := h
  dsimp only at h1 h2 h3
  subst h1
  match k, hw, h2, h3 with
  | 0, hw, h2, _ => obtain ⟨x, rfl, hx⟩ := hw; exact ⟨x, rfl, by rw [hx]; exact h2 (by omega)⟩
  | 1, hw, h2, _ => obtain ⟨x, rfl, hx⟩ := hw; exact ⟨x, rfl, by rw [hx]; exact h2 (by omega)⟩
  | 2, hw, _, h3 =>
    have e := h3 (by omega)
    obtain ⟨a, ha, rfl⟩ := hw
    exact ⟨a, by rw [← ha]; show N[o'.1]? = N[o.1]?; rw [e], rfl⟩
  | 3, hw, _, h3 =>
    have e := h3 (by omega)
    have hw : w = .ref (S o.1) := hw
    show w = .ref (S o'.1)
    rw [← e]
    exact hw
  | 4, _, _, _ => exact trivial
  | 5, hw, _, h3 =>
    have e := h3 (by omega)
    have hw : w = θ o.1 := hw
    show w = θ o'.1
    rw [← e]
    exact hw
  | k + 6, _, _, _ => exact trivial
theorem ck_exl {α β : Type} {P : α → β → Prop} : ∀ {l : List α}, (∀ q ∈ l, ∃ w, P q w) → ∃ m, ck_all P l m
  | [], _ => ⟨[], ck_all.nil⟩
  | q :: t, h => by
    obtain ⟨w, hw⟩ := h q List.mem_cons_self
    obtain ⟨m, hm⟩ := ck_exl fun q hq => h q (List.mem_cons_of_mem _ hq)
    exact ⟨w :: m, ck_all.cons hw hm⟩
theorem xk_H.im {T T' : List xk_C} {H : Heap} (hT : ck_all (fun c d => d.1 = c.1 ∧ ck_all (xk_im ρ ρ') c.2 d.2) T T') (h : xk_H D AC S θ L ρ N T H) : xk_H D AC S θ L ρ' N T' H := by
  obtain ⟨h1, h2, h3⟩ := h
  refine ⟨by rw [h1, hT.1], h2, fun i d a hd ha => ?_⟩
  have hi : i < T.length := by rw [hT.1]; exact (List.getElem?_eq_some_iff.mp hd).1
  have hc := List.getElem?_eq_getElem hi
  obtain ⟨e1, e2⟩ := hT.2 i _ d hc hd
  obtain ⟨l1, l2⟩ := h3 i _ a hc ha
  obtain ⟨g, g1, g2, g3⟩ := xk_vals l2
  refine ⟨l1, g3 θ ρ' N i d e1 e2.1.symm (fun j v hj => ?_) g2⟩
  have hj' : j < T[i].2.length := by rw [e2.1]; exact (List.getElem?_eq_some_iff.mp hj).1
  have hv := List.getElem?_eq_getElem hj'
  exact xk_im_R (e2.2 j _ v hv hj) (g1 j _ hv)
/-- the same state, told otherwise -/
theorem xk_W.im {pc : Nat} {A B : xk_A} (hl : ∀ q ∈ B.1, ∃ v, xk_loc A.1 q.1 = some v ∧ xk_im ρ ρ' v q.2) (hs : ck_all (xk_im ρ ρ') A.2.1 B.2.1) (hT : ck_all (fun c d => d.1 = c.1 ∧ ck_all (xk_im ρ ρ') c.2 d.2) A.2.2 B.2.2)
    (k : xk_W p l e R s m args below meth c Q D AC S θ L nL ρ' N H0 pc B) : xk_W p l e R s m args below meth c Q D AC S θ L nL ρ N H0 pc A := by
  intro H ls st locs ⟨lv, ⟨a1, a2, a3⟩, h2, h3, h4, h5, h6⟩
  have hex : ∀ q ∈ B.1, ∃ w : Nat × Value, xk_RL S θ ρ' N q w ∧ ls[w.1]? = some (.val w.2) := fun q hq => by
    obtain ⟨v, hv, him⟩ := hl q hq
    obtain ⟨j, w, hj, hw⟩ := xk_loc_ok h2 hv
    exact ⟨(q.1, w), ⟨rfl, xk_im_R him hw⟩, a3 _ (List.mem_of_getElem? hj)⟩
  obtain ⟨lv', hlv⟩ := ck_exl hex
  refine k H ls st locs ⟨lv', ⟨a1, a2, fun q hq => ?_⟩, hlv.mono fun a b _ h => h.1, ?_, h4.im hT, h5, h6⟩
  · obtain ⟨i, hi⟩ := List.getElem?_of_mem hq
    have hi' : i < B.1.length := by rw [hlv.1]; exact (List.getElem?_eq_some_iff.mp hi).1
    exact (hlv.2 i _ q (List.getElem?_eq_getElem hi') hi).2
  · refine ⟨by rw [← hs.1]; exact h3.1, fun i v w hv hw => ?_⟩
    have hi : i < A.2.1.length := by rw [hs.1]; exact (List.getElem?_eq_some_iff.mp hv).1
    have ha := List.getElem?_eq_getElem hi
    exact xk_im_R (hs.2 i _ v ha hv) (h3.2 i _ w ha hw)
def xk_lowx (n : Nat) (x : xk_X) : Bool := x.2.1.all (fun q => xk_lw n q.2) && x.2.2.1.all (xk_lw n) && x.2.2.2.1.all (fun c => c.2.all (xk_lw n))
theorem xk_W.low {n : Nat} {pc : Nat} {x : xk_X} (hρ : ∀ g, g ≤ n → ρ' g = ρ g) (hx : xk_lowx n x = true) (k : xk_W p l e R s m args below meth c Q D AC S θ L nL ρ' N H0 pc (x.2.1, x.2.2.1, x.2.2.2.1)) : xk_W p l e R s m args below meth c Q D AC S θ L nL ρ N H0 pc (x.2.1, x.2.2.1, x.2.2.2.1) := by
  unfold xk_lowx at hx
  simp only [Bool.and_eq_true] at hx
  obtain ⟨⟨x1, x2⟩, x3⟩ := hx
  intro H ls st locs ⟨lv, h1, h2, h3, h4, h5, h6⟩
  exact k H ls st locs ⟨lv, h1, h2.mono fun a b ha h => ⟨h.1, h.2.congr hρ (of_decide_eq_true (List.all_eq_true.mp x1 a ha))⟩, h3.mono fun a b ha h => h.congr hρ (of_decide_eq_true (List.all_eq_true.mp x2 a ha)), h4.congr hρ x3, h5, h6⟩
/-- a run from one place to another, its nodes over those that came -/
theorem xw_seg (hy : xk_Hy p l e R s m meth c M fr lo E ms cts Φ wd nb D AC S L H0 cod) {stops : List Nat} {x y : xk_X} {n : Nat} (hr : xk_to E ms cts cod M.2.2.1 fr lo M.1.name wd stops x y) (hx : x.2.2.2.2.2 = n + 1) (hwf : xk_wf wd (n + 1) y.2.2.2.2.1.reverse = true) (hlo : xk_lowx n x = true)
    (k : ∀ ρ' : Nat → Int, (∀ g, g ≤ n → ρ' g = ρ g) → xk_tok Φ wd ρ' y.2.2.2.2.1.reverse → xk_W p l e R s m args below meth c Q D AC S θ L M.2.2.1 ρ' N H0 y.1 (y.2.1, y.2.2.1, y.2.2.2.1)) : xk_W p l e R s m args below meth c Q D AC S θ L M.2.2.1 ρ N H0 x.1 (x.2.1, x.2.2.1, x.2.2.2.1) := by
  obtain ⟨f, hf⟩ := hr
  obtain ⟨i1, i2⟩ := xk_val_ok (Φ := Φ) (ρ := ρ) hwf
  have hlow : ∀ g, g ≤ n → xk_val Φ wd y.2.2.2.2.1.reverse ρ g = ρ g := fun g hg => i1 g (by omega)
  exact xk_W.low hlow hlo (xw_run hy hf (by rw [hx]; exact Nat.succ_pos _) (fun en hen => i2 en (List.mem_reverse.mpr hen)) (k _ hlow i2))
end XV
