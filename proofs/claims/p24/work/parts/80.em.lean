/-! what is written, put together -/
noncomputable section
/-- the model's six names -/
def nmF (h : dH) : Nat → Int32 := fun k => if k < 6 then h 0 (14 + k) else 0
theorem mSame.nm {g h : dH} (q : mSame g h) : nmF g = nmF h := by
  funext k
  unfold nmF
  by_cases hk : k < 6
  · rw [if_pos hk, if_pos hk]; exact q.2 (14 + k) (by omega)
  · rw [if_neg hk, if_neg hk]
/-- one step more -/
def Wr (x : Int32) (g f : dH) : Prop := rZ f = rZ g + 1 ∧ (∀ j, j < rZ g → rS f j = rS g j) ∧ rS f (rZ g) = x
theorem Em.lit {nm : Nat → Int32} {x : Int32} {g f : dH} (q : Wr x g f) (hx : -6 ≤ x.toInt) : Em nm 1 (if 0 ≤ x.toInt then x else nm (-1 - x.toInt).toNat) g f := by
  obtain ⟨q1, q2, q3⟩ := q
  refine ⟨by omega, q2, fun st hs => ?_⟩
  rw [show rZ f - rZ g = 1 by omega, exR_one, q3]
  unfold ex1
  rw [if_pos hx, if_pos (by omega)]
theorem Em.un {nm : Nat → Int32} {D : Nat} {a x : Int32} {g0 g f : dH} (m : Em nm D a g0 g) (q : Wr x g f) (hx : x.toInt ≤ -14) : Em nm D (trn x a) g0 f := by
  obtain ⟨m1, m2, m3⟩ := m
  obtain ⟨q1, q2, q3⟩ := q
  refine ⟨by omega, fun j hj => (q2 j (by omega)).trans (m2 j hj), fun st hs => ?_⟩
  have e1 : exR nm (rS f) (rZ g - rZ g0) (rZ g0) st = some (a :: st) := by
    rw [exR_congr (g := rS g) _ _ _ (fun j j1 j2 => q2 j (by omega))]
    exact m3 st hs
  rw [show rZ f - rZ g0 = (rZ g - rZ g0) + 1 by omega, exR_add _ 1 _ _ _ e1, exR_one, show rZ g0 + (rZ g - rZ g0) = rZ g by omega, q3]
  unfold ex1
  rw [if_neg (by omega), if_pos hx]
theorem Em.bin {nm : Nat → Int32} {D E : Nat} {a b x : Int32} {g0 g f k : dH} (m : Em nm D a g0 g) (p : Em nm E b g f) (q : Wr x f k) (hx : -14 < x.toInt ∧ x.toInt < -6) (hD : E + 1 ≤ D) : Em nm D (jnd x a b) g0 k := by
  obtain ⟨m1, m2, m3⟩ := m
  obtain ⟨p1, p2, p3⟩ := p
  obtain ⟨q1, q2, q3⟩ := q
  refine ⟨by omega, fun j hj => (q2 j (by omega)).trans ((p2 j (by omega)).trans (m2 j hj)), fun st hs => ?_⟩
  have e1 : exR nm (rS k) (rZ g - rZ g0) (rZ g0) st = some (a :: st) := by
    rw [exR_congr (g := rS g) _ _ _ (fun j j1 j2 => (q2 j (by omega)).trans (p2 j (by omega)))]
    exact m3 st hs
  have e2 : exR nm (rS k) (rZ f - rZ g) (rZ g) (a :: st) = some (b :: a :: st) := by
    rw [exR_congr (g := rS f) _ _ _ (fun j j1 j2 => q2 j (by omega))]
    exact p3 (a :: st) (by rw [List.length_cons]; omega)
  rw [show rZ k - rZ g0 = (rZ g - rZ g0) + ((rZ f - rZ g) + 1) by omega, exR_add _ _ _ _ _ e1, show rZ g0 + (rZ g - rZ g0) = rZ g by omega, exR_add _ 1 _ _ _ e2, exR_one, show rZ g + (rZ f - rZ g) = rZ f by omega, q3]
  unfold ex1
  rw [if_neg (by omega), if_neg (by omega)]
theorem Em.nm {nm nm' : Nat → Int32} {D : Nat} {a : Int32} {g f : dH} (m : Em nm D a g f) (h : nm = nm') : Em nm' D a g f := h ▸ m
/-! the class's levels and operations -/
theorem level_ok {v : Int32} : Al (f_X1_levelOf v) (fun r => (v.toInt = 42 ∧ r.toInt = 4) ∨ ((v.toInt = 43 ∨ v.toInt = 45) ∧ r.toInt = 3) ∨ ((v.toInt = 60 ∨ v.toInt = 61) ∧ r.toInt = 2) ∨ (v.toInt = 307 ∧ r.toInt = 0) ∨ (v.toInt = 308 ∧ r.toInt = 1) ∨ (¬ v.toInt = 42 ∧ ¬ v.toInt = 43 ∧ ¬ v.toInt = 45 ∧ ¬ v.toInt = 60 ∧ ¬ v.toInt = 61 ∧ ¬ v.toInt = 307 ∧ ¬ v.toInt = 308 ∧ r.toInt = -1)) := by
  unfold f_X1_levelOf
  have t4 : (4 : Int32).toInt = 4 := by decide
  have t3 : (3 : Int32).toInt = 3 := by decide
  have t2 : (2 : Int32).toInt = 2 := by decide
  have tm : (-1 : Int32).toInt = -1 := by decide
  refine al_ite (fun _ => al_some (by rw [t4]; omega)) (fun _ => al_ite (fun _ => al_some (by rw [t3]; omega)) (fun _ => al_ite (fun _ => al_some (by rw [t3]; omega)) (fun _ => al_ite (fun _ => al_some (by rw [t2]; omega)) (fun _ => al_ite (fun _ => al_some (by rw [t2]; omega)) (fun _ => al_ite (fun _ => al_some (by rw [ti0]; omega)) (fun _ => al_ite (fun _ => al_some (by rw [ti1]; omega)) (fun _ => al_some (by rw [tm]; omega))))))))
theorem oper_ok {v : Int32} : Al (f_X1_operationOf v) (fun r => (v.toInt = 43 ∧ r = -11) ∨ (v.toInt = 45 ∧ r = -12) ∨ (v.toInt = 60 ∧ r = -9) ∨ (v.toInt = 61 ∧ r = -10) ∨ (v.toInt = 307 ∧ r = -7) ∨ (v.toInt = 308 ∧ r = -8) ∨ (¬ v.toInt = 43 ∧ ¬ v.toInt = 45 ∧ ¬ v.toInt = 60 ∧ ¬ v.toInt = 61 ∧ ¬ v.toInt = 307 ∧ ¬ v.toInt = 308 ∧ r = -13)) := by
  unfold f_X1_operationOf
  refine al_ite (fun a => al_some (Or.inl ⟨a, rfl⟩)) (fun a => al_ite (fun b => al_some (Or.inr (Or.inl ⟨b, rfl⟩))) (fun b => al_ite (fun c => al_some (Or.inr (Or.inr (Or.inl ⟨c, rfl⟩)))) (fun c => al_ite (fun d => al_some (Or.inr (Or.inr (Or.inr (Or.inl ⟨d, rfl⟩))))) (fun d => al_ite (fun e => al_some (Or.inr (Or.inr (Or.inr (Or.inr (Or.inl ⟨e, rfl⟩)))))) (fun e => al_ite (fun f => al_some (Or.inr (Or.inr (Or.inr (Or.inr (Or.inr (Or.inl ⟨f, rfl⟩))))))) (fun f => al_some (Or.inr (Or.inr (Or.inr (Or.inr (Or.inr (Or.inr ⟨a, b, c, d, e, f, rfl⟩))))))))))))
end
