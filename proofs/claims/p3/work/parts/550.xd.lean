/-! ===== one block of the hash, in both ===== -/
theorem xk_pos_get : ∀ {l : List Nat} {inp : List Int} {i : Nat}, l.Nodup → l.length = inp.length → ∀ (h : i < l.length), xk_pos l inp (l[i]'h) = inp.getD i 0
  | [], inp, i, _, _, h => by simp at h
  | g :: t, [], i, _, hl, h => by simp at hl
  | g :: t, v :: u, 0, hn, hl, h => by
    show (if g = g then v else xk_pos t u g) = v
    rw [if_pos rfl]
  | g :: t, v :: u, i + 1, hn, hl, h => by
    have hn' := List.nodup_cons.mp hn
    have hi : i < t.length := by simpa using h
    show (if g = t[i] then v else xk_pos t u t[i]) = u.getD i 0
    rw [if_neg (fun e => hn'.1 (by rw [e]; exact List.getElem_mem hi))]
    exact xk_pos_get hn'.2 (by simpa using hl) hi
theorem xn_nodup (k n : Nat) : (xn k n).Nodup := by
  unfold xn
  exact List.Pairwise.map (S := fun a b => a ≠ b) (fun i => k + i) (fun a b (h : a ≠ b) => by show k + a ≠ k + b; omega) List.nodup_range
/-- a function by a table, and one by another: the same but for their numbers, calls in their places -/
theorem xd_same {Φ : Nat → Nat → List Int → Int} {wd : Nat → Nat} {f1 f2 : List (Nat × xk_G)} {A B : List xk_E} {n n2 : Nat} {ag2 : List Nat} (h1 : ∀ q ∈ f1, xs_fok wd q = true ∧ ∀ r inp, Φ q.1 r inp = xk_fn Φ wd q.2.2.2 q.2.1 q.2.2.1 r inp) (h2 : ∀ q ∈ f2, xs_fok wd q = true ∧ ∀ r inp, Φ q.1 r inp = xk_fn Φ wd q.2.2.2 q.2.1 q.2.2.1 r inp)
    (t1 : A.all (xs_tok f1) = true) (t2 : B.all (xs_tok f2) = true) (hag : ag2.all (fun g => decide (0 < g) && decide (g ≤ n2)) = true) (hn : ag2.Nodup) (hl : ag2.length = n) (hc : xs_c (n + 1) (xs_flat f1 A) = true) (hB : xs_flat f2 B = (xs_flat f1 A).map (xs_re n (ag2.map (fun g => (g, 0))) n2)) {inp : List Int} (hi : inp.length = n) {r : Nat} (hr : r < (xs_flat f1 A).length) : xk_fn Φ wd B n2 ag2 r inp = xk_fn Φ wd A n (xn 1 n) r inp := by
  have e1 : xk_fn Φ wd A n (xn 1 n) r inp = xk_fn Φ wd (xs_flat f1 A) n (xn 1 n) r inp := by
    unfold xk_fn
    rw [xs_flat_ok h1 t1]
  have e2 : xk_fn Φ wd B n2 ag2 r inp = xk_fn Φ wd (xs_flat f2 B) n2 ag2 r inp := by
    unfold xk_fn
    rw [xs_flat_ok h2 t2]
  rw [e1, e2]
  refine (xs_fn (ag := ag2.map (fun g => (g, 0))) ?_ hc hB (fun g g0 g1 => ?_) hr).symm
  · rw [List.all_map, List.all_eq_true]
    intro g hg
    have := List.all_eq_true.mp hag g hg
    simp only [Bool.and_eq_true, decide_eq_true_eq] at this
    show decide (g ≤ n2) = true
    exact decide_eq_true this.2
  · have hgl : g - 1 < ag2.length := by omega
    have a1 : (ag2.map (fun g => ((g, 0) : xk_O))).getD (g - 1) (0, 0) = (ag2[g - 1], 0) := by
      rw [List.getD_eq_getElem?_getD, List.getElem?_map, List.getElem?_eq_getElem hgl]
      rfl
    have hp := List.all_eq_true.mp hag _ (List.getElem_mem hgl)
    simp only [Bool.and_eq_true, decide_eq_true_eq] at hp
    rw [a1]
    unfold xk_ov
    dsimp only
    rw [if_neg (by omega), xk_pos_get hn (by omega) hgl]
    have hx : (xn 1 n).length = n := by unfold xn; simp
    have hgx : g - 1 < (xn 1 n).length := by omega
    have e0 : (xn 1 n)[g - 1]? = some g := by
      unfold xn
      rw [List.getElem?_map, List.getElem?_range (by omega)]
      show some (1 + (g - 1)) = some g
      rw [Nat.add_sub_cancel' g0]
    have e : (xn 1 n)[g - 1] = g := by
      have := List.getElem?_eq_getElem hgx
      rw [e0] at this
      exact (Option.some.inj this).symm
    have := xk_pos_get (l := xn 1 n) (inp := inp) (i := g - 1) (xn_nodup 1 n) (by omega) hgx
    rw [e] at this
    exact this.symm
