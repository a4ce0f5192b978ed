/-! ===== the classes' links, printed ===== -/
def ck_pw (p : Nat) (w : Cond) : Bool := decide (tables_1[p]? = some w) && ck_mv w
theorem ck_pw_ok {p : Nat} {w : Cond} (h : ck_pw p w = true) : w ∈ ck_tb := by
  unfold ck_pw at h
  simp only [Bool.and_eq_true, decide_eq_true_eq] at h
  exact ck_tabi p h.1 h.2
def ck_vf (own : String) (q : Nat × Nat × Nat × Nat) : Bool := match ck_cl[q.2.2.1]? with
  | some (C, TT, n) => decide (q.2.2.2 < n) && ck_pw q.1 (.fieldLink own q.2.1 C (TT q.2.2.2).2.1 (TT q.2.2.2).2.2.1)
  | none => false
theorem ck_vf_ok {own : String} {l : List (Nat × Nat × Nat × Nat)} (h : l.all (ck_vf own) = true) : ∀ q ∈ l.map (fun q => q.2), ck_lnk own q.1 q.2.1 q.2.2 := by
  intro q hq
  obtain ⟨r, hr, rfl⟩ := List.mem_map.mp hq
  have := List.all_eq_true.mp h r hr
  unfold ck_vf at this
  split at this
  · rename_i C TT n hc
    simp only [Bool.and_eq_true, decide_eq_true_eq] at this
    exact ⟨C, TT, n, hc, this.1, ck_pw_ok this.2⟩
  · cases this
def ck_vk (own : String) (q : Nat × Nat × Int) : Bool := ck_iok q.2.2 q.2.2 && ck_pw q.1 (.constant own q.2.1 (Int32.ofInt q.2.2))
theorem ck_vk_ok {own : String} {l : List (Nat × Nat × Int)} (h : l.all (ck_vk own) = true) : ∀ q ∈ l.map (fun q => q.2), ∃ v : Int32, v.toInt = q.2 ∧ Cond.constant own q.1 v ∈ ck_tb := by
  intro q hq
  obtain ⟨r, hr, rfl⟩ := List.mem_map.mp hq
  have := List.all_eq_true.mp h r hr
  unfold ck_vk at this
  simp only [Bool.and_eq_true] at this
  have hb := ck_iok_of this.1
  exact ⟨_, ck_ofInt hb.1 hb.2, ck_pw_ok this.2⟩
def ck_vj (own : String) (q : Nat × Nat × Int) : Bool := decide (-9223372036854775808 ≤ q.2.2) && decide (q.2.2 ≤ 9223372036854775807) && ck_pw q.1 (.constantLong own q.2.1 (Int64.ofInt q.2.2))
theorem ck_vj_ok {own : String} {l : List (Nat × Nat × Int)} (h : l.all (ck_vj own) = true) : ∀ q ∈ l.map (fun q => q.2), ∃ v : Int64, v.toInt = q.2 ∧ Cond.constantLong own q.1 v ∈ ck_tb := by
  intro q hq
  obtain ⟨r, hr, rfl⟩ := List.mem_map.mp hq
  have := List.all_eq_true.mp h r hr
  unfold ck_vj at this
  simp only [Bool.and_eq_true, decide_eq_true_eq] at this
  exact ⟨_, ck_ofInt64 this.1.1 this.1.2, ck_pw_ok this.2⟩
def ck_vn (own : String) (q : Nat × Nat × Nat) : Bool := match ck_cl[q.2.2]? with
  | some (C, _, _) => ck_pw q.1 (.classLink own q.2.1 C)
  | none => false
theorem ck_vn_ok {own : String} {l : List (Nat × Nat × Nat)} (h : l.all (ck_vn own) = true) : ∀ q ∈ l.map (fun q => q.2), ∃ (C : String) (TT : u_T) (n : Nat), ck_cl[q.2]? = some (C, TT, n) ∧ Cond.classLink own q.1 C ∈ ck_tb := by
  intro q hq
  obtain ⟨r, hr, rfl⟩ := List.mem_map.mp hq
  have := List.all_eq_true.mp h r hr
  unfold ck_vn at this
  split at this
  · rename_i C TT n hc
    exact ⟨C, TT, n, hc, ck_pw_ok this⟩
  · cases this
def ck_va (own : String) (q : (Nat × Nat) × Nat × Nat) : Bool := match ck_tyK q.2.2 with
  | some (.object C) => ck_pw q.1.1 (.classLink own q.2.1 C) && ck_pw q.1.2 (.arrayOver (.object C))
  | _ => false
theorem ck_va_ok {own : String} {l : List ((Nat × Nat) × Nat × Nat)} (h : l.all (ck_va own) = true) : ∀ q ∈ l.map (fun q => q.2), ∃ C : String, ck_tyK q.2 = some (.object C) ∧ Cond.classLink own q.1 C ∈ ck_tb ∧ Cond.arrayOver (.object C) ∈ ck_tb := by
  intro q hq
  obtain ⟨r, hr, rfl⟩ := List.mem_map.mp hq
  have := List.all_eq_true.mp h r hr
  unfold ck_va at this
  split at this
  · rename_i C hc
    simp only [Bool.and_eq_true] at this
    exact ⟨C, hc, ck_pw_ok this.1, ck_pw_ok this.2⟩
  · cases this
def ck_vg (own : String) (q : Nat × Nat × Nat) : Bool := decide (q.2.2 < 2) && ck_pw q.1 (.fieldLink own q.2.1 "RatchetDesk$Hash" (ck_roots q.2.2) "[I")
theorem ck_vg_ok {own : String} {l : List (Nat × Nat × Nat)} (h : l.all (ck_vg own) = true) : ∀ q ∈ l.map (fun q => q.2), q.2 < 2 ∧ Cond.fieldLink own q.1 "RatchetDesk$Hash" (ck_roots q.2) "[I" ∈ ck_tb := by
  intro q hq
  obtain ⟨r, hr, rfl⟩ := List.mem_map.mp hq
  have := List.all_eq_true.mp h r hr
  unfold ck_vg at this
  simp only [Bool.and_eq_true, decide_eq_true_eq] at this
  exact ⟨this.1, ck_pw_ok this.2⟩
def ck_vx (own : String) (q : Nat × Nat × Nat) : Bool := decide (q.2.2 < 3) && !(q.2.1 == 0) && ck_pw q.1 (.classLink own q.2.1 (ck_xn q.2.2))
theorem ck_vx_ok {own : String} {l : List (Nat × Nat × Nat)} (h : l.all (ck_vx own) = true) : ∀ q ∈ l.map (fun q => q.2), Cond.classLink own q.1 (ck_xn q.2) ∈ ck_tb ∧ q.2 < 3 ∧ q.1 ≠ 0 := by
  intro q hq
  obtain ⟨r, hr, rfl⟩ := List.mem_map.mp hq
  have := List.all_eq_true.mp h r hr
  unfold ck_vx at this
  simp only [Bool.and_eq_true, decide_eq_true_eq, Bool.not_eq_true'] at this
  exact ⟨ck_pw_ok this.2, this.1.1, by simpa using this.1.2⟩
def ck_vi (own : String) (q : Nat × Nat) : Bool := (Jvm.Bundle.ownAtoms own q.1 (ck_xn q.2) ck_up2).all (fun w => decide (w ∈ ck_4) || (decide (w ∈ tables_1) && ck_mv w))
theorem ck_vi_ok {own : String} {l : List (Nat × Nat)} (h : l.all (ck_vi own) = true) : ∀ q ∈ l, ∀ w ∈ Jvm.Bundle.ownAtoms own q.1 (ck_xn q.2) ck_up2, w ∈ ck_tb ∨ w ∈ ck_4 := by
  intro q hq w hw
  have := List.all_eq_true.mp (List.all_eq_true.mp h q hq) w hw
  simp only [Bool.or_eq_true, Bool.and_eq_true, decide_eq_true_eq] at this
  rcases this with z | ⟨z1, z2⟩
  · exact Or.inr z
  · exact Or.inl (ck_tab z1 z2)
def ck_vm (ms : List ck_MM) (own : String) (q : (Nat × String) × Nat × Nat) : Bool := match ms[q.2.2]? with
  | some M => if q.1.2 = "" then ck_pw q.1.1 (.methodLink own q.2.1 M.1.1) else ck_pw q.1.1 (.methodLinkNest own q.2.1 M.1.1 q.1.2)
  | none => false
theorem ck_vm_ok {ms : List ck_MM} {own : String} {l : List ((Nat × String) × Nat × Nat)} (h : l.all (ck_vm ms own) = true) : ∀ q ∈ l.map (fun q => q.2), ∃ M : ck_MM, ms[q.2]? = some M ∧ (Cond.methodLink own q.1 M.1.1 ∈ ck_tb ∨ ∃ host, Cond.methodLinkNest own q.1 M.1.1 host ∈ ck_tb) := by
  intro q hq
  obtain ⟨r, hr, rfl⟩ := List.mem_map.mp hq
  have := List.all_eq_true.mp h r hr
  unfold ck_vm at this
  split at this
  · rename_i M hM
    split at this
    · exact ⟨M, hM, Or.inl (ck_pw_ok this)⟩
    · exact ⟨M, hM, Or.inr ⟨_, ck_pw_ok this⟩⟩
  · cases this
def ck_vc (own : String) (q : Nat × Nat) : Bool := ck_pw q.1 (.methodLink own q.2 arraycopyName)
theorem ck_vc_ok {own : String} {l : List (Nat × Nat)} (h : l.all (ck_vc own) = true) : ∀ q ∈ l.map (fun q => q.2), Cond.methodLink own q arraycopyName ∈ ck_tb := by
  intro q hq
  obtain ⟨r, hr, rfl⟩ := List.mem_map.mp hq
  exact ck_pw_ok (List.all_eq_true.mp h r hr)
def ck_vo (own : String) (q : Nat × Nat) : Bool := ck_pw q.1 (.methodLink own q.2 Lib.objectInit)
theorem ck_vo_ok {own : String} {l : List (Nat × Nat)} (h : l.all (ck_vo own) = true) : ∀ q ∈ l.map (fun q => q.2), Cond.methodLink own q Lib.objectInit ∈ ck_tb := by
  intro q hq
  obtain ⟨r, hr, rfl⟩ := List.mem_map.mp hq
  exact ck_pw_ok (List.all_eq_true.mp h r hr)
def ck_v2 (own : String) (q : Nat × Nat) : Bool := ck_pw q.1 (.classLink own q.2 "[[I")
theorem ck_v2_ok {own : String} {l : List (Nat × Nat)} (h : l.all (ck_v2 own) = true) : ∀ q ∈ l.map (fun q => q.2), Cond.classLink own q "[[I" ∈ ck_tb := by
  intro q hq
  obtain ⟨r, hr, rfl⟩ := List.mem_map.mp hq
  exact ck_pw_ok (List.all_eq_true.mp h r hr)

