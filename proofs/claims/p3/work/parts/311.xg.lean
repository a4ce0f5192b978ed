/-! ===== exact runs: a called function's own table put in its place ===== -/
/-- a function: how many numbers came in, of which it is one, its table -/
abbrev xk_G : Type := Nat × List Nat × List xk_E
def xk_ps : List Nat → List xk_O → Nat → xk_O
  | g' :: t, v :: u, g => if g' = g then v else xk_ps t u g
  | _, _, _ => (0, 0)
def xk_rn (q : xk_G) (b : Nat) (args : List xk_O) (o : xk_O) : xk_O := if o.1 = 0 then o else if o.1 ≤ q.1 then xk_ps q.2.1 args o.1 else (b + (o.1 - q.1 - 1), 0)
def xk_fl1 (fs : List (Nat × xk_G)) (e : xk_E) : List xk_E := if e.2.1 < 1000 then [e] else (match ck_lk fs (e.2.1 - 1000) with
  | some q => q.2.2.map (fun x => (e.1 + (x.1 - q.1 - 1), x.2.1, x.2.2.map (xk_rn q e.1 e.2.2)))
  | none => [e])
def xk_flat (fs : List (Nat × xk_G)) (tb : List xk_E) : List xk_E := tb.flatMap (xk_fl1 fs)
/-- tables of functions that call no other ones -/
def xk_fok (wd : Nat → Nat) (q : Nat × xk_G) : Bool := xk_wf wd (q.2.1 + 1) q.2.2.2 && xk_ws q.2.1 q.2.2.1 q.2.2.2 && q.2.2.2.all (fun x => decide (x.2.1 < 1000) && decide (x.1 < q.2.1 + 1 + wd q.1) && x.2.2.all (fun o => decide (o.1 < q.2.1 + 1 + wd q.1))) && q.2.2.1.all (fun g => decide (0 < g ∧ g ≤ q.2.1))
theorem xk_ps_ok {ρ : Nat → Int} : ∀ {l : List Nat} {args : List xk_O} {g : Nat}, l.length = args.length → g ∈ l → xk_ov ρ (xk_ps l args g) = xk_pos l (args.map (xk_ov ρ)) g
  | [], _, g, _, h => by cases h
  | g' :: t, [], g, hl, _ => by simp at hl
  | g' :: t, v :: u, g, hl, h => by
    show xk_ov ρ (if g' = g then v else xk_ps t u g) = if g' = g then xk_ov ρ v else xk_pos t (u.map (xk_ov ρ)) g
    split
    · rfl
    · rename_i e
      rcases List.mem_cons.mp h with rfl | h
      · exact absurd rfl e
      · exact xk_ps_ok (by simpa using hl) h
theorem xk_flat_ok {Φ : Nat → Nat → List Int → Int} {wd : Nat → Nat} {ρ : Nat → Int} {fs : List (Nat × xk_G)} {tb : List xk_E} (hf : ∀ q ∈ fs, xk_fok wd q = true ∧ ∀ r inp, Φ q.1 r inp = xk_fn Φ wd q.2.2.2 q.2.1 q.2.2.1 r inp) (hl : tb.all (fun e => match ck_lk fs (e.2.1 - 1000) with
    | some q => decide (q.2.1.length = e.2.2.length ∧ 0 < e.1)
    | none => true) = true) (h : xk_tok Φ wd ρ tb) : xk_tok Φ wd ρ (xk_flat fs tb) := by
  intro en hen
  unfold xk_flat at hen
  obtain ⟨e0, he0, hen⟩ := List.mem_flatMap.mp hen
  have h0 := h e0 he0
  have hl0 := List.all_eq_true.mp hl e0 he0
  unfold xk_fl1 at hen
  split at hen
  · rw [List.mem_singleton.mp hen]; exact h0
  · rename_i hop
    split at hen
    · rename_i q hq
      rw [hq] at hl0
      obtain ⟨hlen, hb0⟩ := of_decide_eq_true hl0
      obtain ⟨fok, hΦ⟩ := hf _ (ck_lk_mem hq)
      obtain ⟨x, hx, rfl⟩ := List.mem_map.mp hen
      unfold xk_fok at fok
      simp only [Bool.and_eq_true] at fok
      obtain ⟨⟨⟨f1, f2⟩, f3⟩, f4⟩ := fok
      have f3 := List.all_eq_true.mp f3 x hx
      simp only [Bool.and_eq_true, decide_eq_true_eq] at f3
      obtain ⟨⟨x1, x2⟩, x3⟩ := f3
      unfold xk_eok at h0
      rw [if_neg hop] at h0
      generalize hinp : e0.2.2.map (xk_ov ρ) = inp at h0
      generalize hv0 : xk_val Φ wd q.2.2 (fun g => xk_pos q.2.1 inp g) = ν
      have hok := xk_val_ok (Φ := Φ) (ρ := fun g => xk_pos q.2.1 inp g) f1
      rw [hv0] at hok
      have hnode : ∀ g, q.1 < g → g < q.1 + 1 + wd (e0.2.1 - 1000) → ρ (e0.1 + (g - q.1 - 1)) = ν g := by
        intro g g1 g2
        rw [h0 (g - q.1 - 1) (by omega), hΦ]
        unfold xk_fn
        rw [hv0, show q.1 + 1 + (g - q.1 - 1) = g by omega]
      have hovx : ∀ o ∈ x.2.2, xk_ov ρ (xk_rn q e0.1 e0.2.2 o) = xk_ov ν o := by
        intro o ho
        unfold xk_rn
        split
        · rename_i z; unfold xk_ov; rw [if_pos z, if_pos z]
        · rename_i z
          have w := List.all_eq_true.mp (List.all_eq_true.mp f2 x hx) o ho
          simp only [Bool.or_eq_true, beq_iff_eq, decide_eq_true_eq, List.contains_iff_mem] at w
          have o3 := of_decide_eq_true (List.all_eq_true.mp x3 o ho)
          split
          · rename_i hle
            have hm : o.1 ∈ q.2.1 := by
              rcases w with (w | w) | w
              · exact absurd w z
              · omega
              · exact w
            rw [xk_ps_ok hlen hm, hinp]
            show _ = if o.1 = 0 then o.2 else ν o.1
            rw [if_neg z, hok.1 o.1 (by omega)]
          · rename_i hle
            show (if e0.1 + (o.1 - q.1 - 1) = 0 then (0 : Int) else ρ (e0.1 + (o.1 - q.1 - 1))) = if o.1 = 0 then o.2 else ν o.1
            rw [if_neg (by omega), if_neg z]
            exact hnode o.1 (by omega) o3
      have hmap : (x.2.2.map (xk_rn q e0.1 e0.2.2)).map (xk_ov ρ) = x.2.2.map (xk_ov ν) := by
        rw [List.map_map]
        exact List.map_congr_left fun o ho => hovx o ho
      have hxe := hok.2 x hx
      unfold xk_eok at hxe ⊢
      dsimp only
      rw [if_pos x1] at hxe
      rw [if_pos x1, hmap]
      have hxlow : q.1 < x.1 := by
        have key : ∀ {tb : List xk_E} {lo : Nat}, xk_wf wd lo tb = true → ∀ en ∈ tb, lo ≤ en.1 := by
          intro tb
          induction tb with
          | nil => intro lo _ en he; cases he
          | cons y t ih =>
            intro lo hw en he
            obtain ⟨b, op, a⟩ := y
            unfold xk_wf at hw
            simp only [Bool.and_eq_true, decide_eq_true_eq] at hw
            rcases List.mem_cons.mp he with rfl | he
            · exact hw.1.1.1
            · have := ih hw.2 en he
              have := hw.1.1.1
              omega
        exact key f1 x hx
      rw [hnode x.1 hxlow x2]
      exact hxe
    · rw [List.mem_singleton.mp hen]; exact h0
