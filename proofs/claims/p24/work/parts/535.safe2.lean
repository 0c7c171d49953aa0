/-! sheets, kinds -/
noncomputable section
theorem invM_sheet {h : dH} (I : InvM h) {k : Nat} {b x y : Int32} (hb : ¬ b.toInt = 0 → 0 ≤ y.toInt ∧ y.toInt ≤ 40) : InvM (dU (dU (dU h 14 k b) 15 k x) 16 k y) := by
  refine ⟨fun a j lo hi e => ?_, fun s hs h14 => ?_⟩
  · have n14 : ¬ a = 14 := fun q => by subst q; cases e
    have n15 : ¬ a = 15 := fun q => by subst q; cases e
    have n16 : ¬ a = 16 := fun q => by subst q; cases e
    rw [dU_ne (by omega), dU_ne (by omega), dU_ne (by omega)]
    exact I.1 a j lo hi e
  · rw [dU_ne (by omega), dU_ne (by omega)] at h14
    by_cases hk : s = k
    · subst hk
      rw [dU_eq] at h14 ⊢
      exact hb h14
    · rw [dU_ne (by omega)] at h14
      rw [dU_ne (by omega), dU_ne (by omega), dU_ne (by omega)]
      exact I.2 s hs h14
def rkx (x : Int32) : Int := if x.toInt = -1 then 0 else if x.toInt = 0 then 1 else if x.toInt = 3 ∨ x.toInt = 4 then 3 else 2
theorem rk_ok (x : Int32) : (x.toInt = -1 ∧ rkx x = 0) ∨ (x.toInt = 0 ∧ rkx x = 1) ∨ ((x.toInt = 3 ∨ x.toInt = 4) ∧ rkx x = 3) ∨ (¬ x.toInt = -1 ∧ ¬ x.toInt = 0 ∧ ¬ x.toInt = 3 ∧ ¬ x.toInt = 4 ∧ rkx x = 2) := by
  unfold rkx
  by_cases h1 : x.toInt = -1
  · simp [h1]
  · by_cases h2 : x.toInt = 0
    · simp [h2]
    · by_cases h3 : x.toInt = 3 ∨ x.toInt = 4
      · rcases h3 with h3 | h3 <;> simp [h3]
      · rw [if_neg h1, if_neg h2, if_neg h3]; omega
end
