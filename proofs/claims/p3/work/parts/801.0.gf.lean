/-! ===== there are such functions ===== -/
def gf_lw (B : Nat) (tb : List xk_E) : Bool := tb.all (fun e => decide (e.2.1 < 1000) || decide (e.2.1 - 1000 < B))
theorem gf_lw_ok {B : Nat} {tb : List xk_E} (h : gf_lw B tb = true) : ∀ e ∈ tb, ¬ e.2.1 < 1000 → e.2.1 - 1000 < B := fun e he hop => by
  have := List.all_eq_true.mp h e he
  simp only [Bool.or_eq_true, decide_eq_true_eq] at this
  exact this.resolve_left hop
theorem gf_tf {Φ Φ' : Nat → Nat → List Int → Int} {wd : Nat → Nat} {tb : List xk_E} {ag : List Nat} {o : List xk_O} {v : List Int} {B : Nat} (h : gf_lw B tb = true) (hΦ : ∀ t, t < B → Φ t = Φ' t) : xk_tf Φ wd tb ag o v = xk_tf Φ' wd tb ag o v := by
  unfold xk_tf xk_tv
  rw [xk_val_congr (fun e he hop => hΦ _ (gf_lw_ok h e he hop))]
theorem gf_fn {Φ Φ' : Nat → Nat → List Int → Int} {wd : Nat → Nat} {tb : List xk_E} {n : Nat} {ag : List Nat} {B : Nat} (h : gf_lw B tb = true) (hΦ : ∀ t, t < B → Φ t = Φ' t) : xk_fn Φ wd tb n ag = xk_fn Φ' wd tb n ag := xk_fn_congr fun e he hop => hΦ _ (gf_lw_ok h e he hop)
def gf_TB (l : List xk_G) : xk_TB := fun t => match l[t]? with
  | some q => .inl q
  | none => .inr (fun _ _ => 0)
theorem gf_low {l : List xk_G} (h : ∀ t q, l[t]? = some q → gf_lw t q.2.2 = true) : xk_low (gf_TB l) := fun t => by
  unfold gf_TB
  cases hq : l[t]? with
  | some q => exact gf_lw_ok (h t q hq)
  | none => exact trivial
theorem gf_P {l : List xk_G} {wd : Nat → Nat} {t n : Nat} {ag : List Nat} {tb : List xk_E} {Φ' : Nat → Nat → List Int → Int} (h : ∀ t q, l[t]? = some q → gf_lw t q.2.2 = true) (hq : l[t]? = some (n, ag, tb)) (hΦ : ∀ t, t < l.length → Φ' t = xk_Φ (gf_TB l) wd t) : kP Φ' wd t n ag tb := fun r inp => by
  have hl := (List.getElem?_eq_some_iff.mp hq).1
  rw [hΦ t hl, xk_Φ_ok (gf_low h) (by unfold gf_TB; rw [hq])]
  rw [gf_fn (Φ' := Φ') (h t _ hq) (fun t' ht' => (hΦ t' (by omega)).symm)]
def gf_al : Nat → List xk_G → Prop
  | _, [] => True
  | k, (_, _, tb) :: t => gf_lw k tb = true ∧ gf_al (k + 1) t
theorem gf_al_ok : ∀ {l : List xk_G} {k : Nat}, gf_al k l → ∀ t q, l[t]? = some q → gf_lw (k + t) q.2.2 = true
  | [], k, _, t, q, hq => by simp at hq
  | (n, ag, tb) :: l, k, h, 0, q, hq => by
    have e : (n, ag, tb) = q := by simpa using hq
    rw [← e]
    exact h.1
  | (n, ag, tb) :: l, k, h, t + 1, q, hq => by
    have := gf_al_ok h.2 t q (by simpa using hq)
    rwa [show k + 1 + t = k + (t + 1) by omega] at this
theorem gf_0 {l : List xk_G} {wd : Nat → Nat} (h : l[0]? = some (0, [], [])) (r : Nat) (inp : List Int) : xk_Φ (gf_TB l) wd 0 r inp = 0 := by
  unfold xk_Φ xk_Φk gf_TB
  rw [h]
  rfl
