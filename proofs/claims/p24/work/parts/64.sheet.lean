/-! what a sheet's making answers -/
noncomputable section
theorem oP_some {α : Type} (x : Int32) (f : Int32 → Option α) : oP (some x) f = f x := rfl
theorem oP_ite {α : Type} {p : Prop} [Decidable p] (a b : Option Int32) (f : Int32 → Option α) : oP (if p then a else b) f = if p then oP a f else oP b f := by
  by_cases h : p
  · rw [if_pos h, if_pos h]
  · rw [if_neg h, if_neg h]
theorem ti0 : (0 : Int32).toInt = 0 := by decide
theorem ti1 : (1 : Int32).toInt = 1 := by decide
def ansS (v1 v2 v3 : Int32) : Int32 := if v1.toInt < 0 ∨ 3 < v1.toInt ∨ v2.toInt < -1 ∨ 2 < v2.toInt ∨ (0 ≤ v2.toInt ∧ 40 < v3.toInt) then -2 else if 0 ≤ v2.toInt ∧ v3.toInt < 0 then -14 else 1
theorem ansS_bad {v1 v2 v3 : Int32} (h : v1.toInt < 0 ∨ 3 < v1.toInt ∨ v2.toInt < -1 ∨ 2 < v2.toInt ∨ (0 ≤ v2.toInt ∧ 40 < v3.toInt)) : ansS v1 v2 v3 = -2 := if_pos h
theorem ansS_neg {v1 v2 v3 : Int32} (h : ¬ (v1.toInt < 0 ∨ 3 < v1.toInt ∨ v2.toInt < -1 ∨ 2 < v2.toInt ∨ (0 ≤ v2.toInt ∧ 40 < v3.toInt))) (h2 : 0 ≤ v2.toInt ∧ v3.toInt < 0) : ansS v1 v2 v3 = -14 := (if_neg h).trans (if_pos h2)
theorem ansS_one {v1 v2 v3 : Int32} (h : ¬ (v1.toInt < 0 ∨ 3 < v1.toInt ∨ v2.toInt < -1 ∨ 2 < v2.toInt ∨ (0 ≤ v2.toInt ∧ 40 < v3.toInt))) (h2 : ¬ (0 ≤ v2.toInt ∧ v3.toInt < 0)) : ansS v1 v2 v3 = 1 := (if_neg h).trans (if_neg h2)
/-- every answer of a tree is this one -/
def Al {α : Type} (t : Option α) (P : α → Prop) : Prop := ∀ o, t = some o → P o
section AL
variable {α : Type} {A B : Option α} {P : α → Prop}
theorem al_none : Al (none : Option α) P := fun _ h => by cases h
theorem al_some {o : α} (h : P o) : Al (some o) P := fun _ e => by cases e; exact h
theorem al_ite {p : Prop} [Decidable p] (h1 : p → Al A P) (h2 : ¬ p → Al B P) : Al (if p then A else B) P := by
  by_cases hp : p
  · rw [if_pos hp]; exact h1 hp
  · rw [if_neg hp]; exact h2 hp
theorem al_oP {t : Option Int32} {f : Int32 → Option α} (h : ∀ r, t = some r → Al (f r) P) : Al (oP t f) P := by
  intro o ho
  cases t with
  | none => cases ho
  | some r => exact h r rfl o ho
theorem al_oV {t : Option dH} {f : dH → Option α} (h : ∀ g, Al (f g) P) : Al (oV t f) P := by
  intro o ho
  cases t with
  | none => cases ho
  | some r => exact h r o ho
theorem al_oI {t : Option (Int32 × dH)} {f : Int32 → dH → Option α} (h : ∀ r g, t = some (r, g) → Al (f r g) P) : Al (oI t f) P := by
  intro o ho
  cases t with
  | none => cases ho
  | some r => exact h r.1 r.2 rfl o ho
theorem al_oH {u : dH} {f : dH → Option α} (h : ∀ g, Al (f g) P) : Al (oH u f) P := h u
end AL
theorem isSheet6 {v r : Int32} (h : f_X6_isSheet v = some r) : (r.toInt = 0 ∧ (v.toInt < 0 ∨ 3 < v.toInt)) ∨ (r.toInt = 1 ∧ 0 ≤ v.toInt ∧ v.toInt ≤ 3) := by
  refine (show Al (f_X6_isSheet v) (fun r => (r.toInt = 0 ∧ (v.toInt < 0 ∨ 3 < v.toInt)) ∨ (r.toInt = 1 ∧ 0 ≤ v.toInt ∧ v.toInt ≤ 3)) from ?_) r h
  unfold f_X6_isSheet
  refine al_ite (fun c => al_some (by rw [ti0]; omega)) (fun c => al_ite (fun d => al_some (by rw [ti1]; omega)) (fun d => al_some (by rw [ti0]; omega)))
theorem isSort6 {v r : Int32} (h : f_X6_isSort v = some r) : (r.toInt = 0 ∧ (v.toInt < 0 ∨ 2 < v.toInt)) ∨ (r.toInt = 1 ∧ 0 ≤ v.toInt ∧ v.toInt ≤ 2) := by
  refine (show Al (f_X6_isSort v) (fun r => (r.toInt = 0 ∧ (v.toInt < 0 ∨ 2 < v.toInt)) ∨ (r.toInt = 1 ∧ 0 ≤ v.toInt ∧ v.toInt ≤ 2)) from ?_) r h
  unfold f_X6_isSort
  refine al_ite (fun c => al_some (by rw [ti0]; omega)) (fun c => al_ite (fun d => al_some (by rw [ti1]; omega)) (fun d => al_some (by rw [ti0]; omega)))
theorem in7 {a b c : Int64} {r : Int32} (h : f_X7_in a b c = some r) : (r.toInt = 0 ∧ (a.toInt < b.toInt ∨ c.toInt < a.toInt)) ∨ (r.toInt = 1 ∧ b.toInt ≤ a.toInt ∧ a.toInt ≤ c.toInt) := by
  refine (show Al (f_X7_in a b c) (fun r => (r.toInt = 0 ∧ (a.toInt < b.toInt ∨ c.toInt < a.toInt)) ∨ (r.toInt = 1 ∧ b.toInt ≤ a.toInt ∧ a.toInt ≤ c.toInt)) from ?_) r h
  unfold f_X7_in
  have h1 := dlcmp_ok a b
  have h2 := dlcmp_ok a c
  refine al_ite (fun c => al_some (by rw [ti0]; omega)) (fun c => al_ite (fun d => al_some (by first | (rw [ti1]; omega) | (rw [ti0]; omega))) (fun d => al_some (by first | (rw [ti1]; omega) | (rw [ti0]; omega))))
theorem isSheet7 {v r : Int32} (h : f_X7_isSheet v = some r) : (r.toInt = 0 ∧ (v.toInt < 0 ∨ 3 < v.toInt)) ∨ (r.toInt = 1 ∧ 0 ≤ v.toInt ∧ v.toInt ≤ 3) := by
  refine (show Al (f_X7_isSheet v) (fun r => (r.toInt = 0 ∧ (v.toInt < 0 ∨ 3 < v.toInt)) ∨ (r.toInt = 1 ∧ 0 ≤ v.toInt ∧ v.toInt ≤ 3)) from ?_) r h
  unfold f_X7_isSheet
  refine al_oP (fun r hr => ?_)
  have h9 := in7 hr
  rw [l_i2l, show (0 : Int64).toInt = 0 by decide, show (3 : Int64).toInt = 3 by decide] at h9
  refine al_ite (fun _ => al_some (by omega)) (fun _ => al_none)
theorem l_sheet1 (v1 v2 v3 : Int32) : ∀ (n : Nat) (v4 : Int32) (h : dH), Al (l_X7_sheet_77 v1 v2 v3 (fun g => some (1, g)) n v4 h) (fun o => o.1 = 1)
  | 0, _, _ => al_none
  | n + 1, v4, h => by
    rw [l_X7_sheet_77]
    refine al_ite (fun _ => al_ite (fun _ => al_some rfl) (fun _ => al_ite (fun _ => al_oH (fun g => l_sheet1 v1 v2 v3 n _ g)) (fun _ => al_none))) (fun _ => al_some rfl)
theorem a_X6_sheet (v1 v2 v3 : Int32) (h : dH) : Al (f_X6_sheet v1 v2 v3 h) (fun o => o.1 = ansS v1 v2 v3) := by
  unfold f_X6_sheet
  refine al_oP (fun r hr => ?_)
  have h1 := isSheet6 hr
  refine al_ite (fun c => al_some (ansS_bad (by omega)).symm) (fun c => al_ite (fun c2 => ?_) (fun c2 => al_oP (fun r2 hr2 => ?_)))
  · refine al_ite (fun c3 => al_ite (fun _ => al_oV (fun g => al_some (ansS_one (by omega) (by omega)).symm)) (fun _ => al_none)) (fun c3 => absurd c2 c3)
  · have h2 := isSort6 hr2
    refine al_ite (fun c3 => al_some (ansS_bad (by omega)).symm) (fun c3 => al_ite (fun c4 => absurd c4 c2) (fun c4 => al_ite (fun c5 => al_some (ansS_bad (by omega)).symm) (fun c5 => al_ite (fun c6 => al_some (ansS_neg (by omega) (by omega)).symm) (fun c6 => al_ite (fun _ => al_oV (fun g => al_some (ansS_one (by omega) (by omega)).symm)) (fun _ => al_none)))))
theorem al_sheet {v1 v2 v3 : Int32} {n : Nat} {v4 : Int32} {h : dH} (e : ansS v1 v2 v3 = 1) : Al (l_X7_sheet_77 v1 v2 v3 (fun g => some (1, g)) n v4 h) (fun o => o.1 = ansS v1 v2 v3) := fun o ho => (l_sheet1 v1 v2 v3 n v4 h o ho).trans e.symm
theorem a_X7_sheet (v1 v2 v3 : Int32) (h : dH) : Al (f_X7_sheet v1 v2 v3 h) (fun o => o.1 = ansS v1 v2 v3) := by
  unfold f_X7_sheet
  refine al_oP (fun r hr => ?_)
  have h1 := isSheet7 hr
  refine al_ite (fun c => al_some (ansS_bad (by omega)).symm) (fun c => al_oP (fun r2 hr2 => ?_))
  have h2 := in7 hr2
  rw [l_i2l, show (-1 : Int64).toInt = -1 by decide, show (2 : Int64).toInt = 2 by decide] at h2
  repeat' (with_reducible first | exact al_none | refine al_ite (fun _ => ?_) (fun _ => ?_) | refine al_oH (fun _ => ?_))
  all_goals with_reducible first
    | exact al_sheet (ansS_one (by omega) (by omega))
    | exact al_some (ansS_bad (by omega)).symm
    | exact al_some (ansS_neg (by omega) (by omega)).symm
end
