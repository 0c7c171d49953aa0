/-! the steps of a rule, run on a pile -/
noncomputable section
def trn (x a : Int32) : Int32 := if x.toInt = -15 then -a else if a.toInt = 0 then 1 else 0
def jnd (x a b : Int32) : Int32 := if x.toInt = -7 then (if ¬ a.toInt = 0 ∨ ¬ b.toInt = 0 then 1 else 0) else if x.toInt = -8 then (if ¬ a.toInt = 0 ∧ ¬ b.toInt = 0 then 1 else 0) else if x.toInt = -9 then (if a.toInt < b.toInt then 1 else 0) else if x.toInt = -10 then (if a.toInt = b.toInt then 1 else 0) else if x.toInt = -11 then a + b else if x.toInt = -12 then a - b else a * b
def ex1 (nm : Nat → Int32) (x : Int32) (st : List Int32) : Option (List Int32) :=
  if -6 ≤ x.toInt then (if st.length < 40 then some ((if 0 ≤ x.toInt then x else nm (-1 - x.toInt).toNat) :: st) else none)
  else if x.toInt ≤ -14 then (match st with
    | a :: r => some (trn x a :: r)
    | [] => none)
  else (match st with
    | b :: a :: r => some (jnd x a b :: r)
    | _ => none)
def exR (nm : Nat → Int32) (f : Nat → Int32) : Nat → Nat → List Int32 → Option (List Int32)
  | 0, _, st => some st
  | m + 1, a, st => match ex1 nm (f a) st with
    | some st' => exR nm f m (a + 1) st'
    | none => none
theorem exR_add {nm f : Nat → Int32} : ∀ (m k a : Nat) (st st' : List Int32), exR nm f m a st = some st' → exR nm f (m + k) a st = exR nm f k (a + m) st'
  | 0, k, a, st, st', h => by
    cases h
    rw [Nat.zero_add, Nat.add_zero]
  | m + 1, k, a, st, st', h => by
    rw [exR] at h
    rw [show m + 1 + k = (m + k) + 1 by omega, exR]
    cases hx : ex1 nm (f a) st with
    | none => rw [hx] at h; cases h
    | some s1 =>
      rw [hx] at h
      simp only at h ⊢
      rw [exR_add m k (a + 1) s1 st' h, show a + 1 + m = a + (m + 1) by omega]
theorem exR_congr {nm f g : Nat → Int32} : ∀ (m a : Nat) (st : List Int32), (∀ j, a ≤ j → j < a + m → f j = g j) → exR nm f m a st = exR nm g m a st
  | 0, _, _, _ => rfl
  | m + 1, a, st, h => by
    rw [exR, exR, h a (by omega) (by omega)]
    cases ex1 nm (g a) st with
    | none => rfl
    | some s1 => exact exR_congr m (a + 1) s1 (fun j j1 j2 => h j (by omega) (by omega))
theorem exR_one {nm f : Nat → Int32} {a : Nat} {st : List Int32} : exR nm f 1 a st = ex1 nm (f a) st := by
  rw [exR]
  cases ex1 nm (f a) st <;> rfl
/-! what the class's reader writes -/
/-- the text that is read, its size, its steps -/
def rT (g : dH) : Nat := dtx (g 42 1)
def rZ (g : dH) : Nat := (g (rT g) 1).toInt.toNat
def rS (g : dH) : Nat → Int32 := g (rT g + 1)
theorem rT_or (g : dH) : rT g = 10 ∨ rT g = 14 ∨ rT g = 18 ∨ rT g = 22 ∨ rT g = 26 ∨ rT g = 30 := zT_dtx _
/-- all but the reader's own numbers and this text's size and steps -/
def pF (f g : dH) : Prop := ∀ a k, ¬ (a = 42 ∧ 2 ≤ k ∧ k ≤ 4) → ¬ (a = rT g ∧ k = 1) → ¬ a = rT g + 1 → f a k = g a k
theorem pF.refl (g : dH) : pF g g := fun _ _ _ _ _ => rfl
theorem pF.tx {f g : dH} (q : pF f g) : rT f = rT g := by
  have := rT_or g
  unfold rT
  rw [q 42 1 (by omega) (by omega) (by omega)]
theorem pF.trans {f g h : dH} (q : pF f g) (r : pF g h) : pF f h := fun a k a1 a2 a3 => (q a k a1 (by rw [r.tx]; exact a2) (by rw [r.tx]; exact a3)).trans (r a k a1 a2 a3)
theorem rdS.pF {f g : dH} (q : rdS f g) : pF f g := fun a k a1 _ _ => q a k a1
theorem pF.rows {f g : dH} (q : pF f g) : ∀ a k, a = 2 ∨ a = 3 ∨ a = 4 → f a k = g a k := fun a k h => by
  have := rT_or g
  exact q a k (by omega) (by omega) (by omega)
/-- from g to f steps were written that lay down v, at most D above what lies there -/
def Em (nm : Nat → Int32) (D : Nat) (v : Int32) (g f : dH) : Prop := rZ g ≤ rZ f ∧ (∀ j, j < rZ g → rS f j = rS g j) ∧ ∀ st : List Int32, st.length + D ≤ 40 → exR nm (rS f) (rZ f - rZ g) (rZ g) st = some (v :: st)
theorem rdS.same {f g : dH} (q : rdS f g) : rT f = rT g ∧ rZ f = rZ g ∧ rS f = rS g := by
  have h1 : rT f = rT g := q.pF.tx
  have := rT_or g
  refine ⟨h1, ?_, ?_⟩
  · unfold rZ; rw [h1, q _ _ (by omega)]
  · unfold rS; rw [h1]; funext k; exact q _ _ (by omega)
theorem Em.left {nm : Nat → Int32} {D : Nat} {v : Int32} {g g' f : dH} (q : rdS g' g) (m : Em nm D v g' f) : Em nm D v g f := by
  obtain ⟨q1, q2, q3⟩ := q.same
  unfold Em at m ⊢
  rw [q2, q3] at m
  exact m
theorem Em.right {nm : Nat → Int32} {D : Nat} {v : Int32} {g f f' : dH} (q : rdS f' f) (m : Em nm D v g f) : Em nm D v g f' := by
  obtain ⟨q1, q2, q3⟩ := q.same
  unfold Em at m ⊢
  rw [q2, q3]
  exact m
theorem Em.mono {nm : Nat → Int32} {D D' : Nat} {v : Int32} {g f : dH} (m : Em nm D v g f) (h : D ≤ D') : Em nm D' v g f := ⟨m.1, m.2.1, fun st hs => m.2.2 st (by omega)⟩
/-- a step is written -/
theorem write_ok {g : dH} {x : Int32} (h0 : 0 ≤ (g (rT g) 1).toInt) (h1 : rZ g < 160) : Al (f_X5_write (dtx (g 42 1)) x g) (fun f => pF f g ∧ (∀ k, f 42 k = g 42 k) ∧ rZ f = rZ g + 1 ∧ 0 ≤ (f (rT g) 1).toInt ∧ (∀ j, j < rZ g → rS f j = rS g j) ∧ rS f (rZ g) = x) := by
  have ht := rT_or g
  unfold f_X5_write
  show Al (if (g (rT g) 1).toInt < 160 then _ else _) _
  refine al_ite (fun c => al_ite (fun c1 => al_oH' (fun g1 hg1 => al_oH' (fun g2 hg2 => al_some ?_))) (fun _ => al_none)) (fun c => ?_)
  · have p : pF g2 g := fun a k a1 a2 a3 => by rw [hg2, dU_ne (by unfold rT at a2; exact a2), hg1, dU_ne (by unfold rT at a3; omega)]
    have e1 : g1 (rT g) 1 = g (rT g) 1 := by rw [hg1]; exact dU_ne (by unfold rT; omega)
    have e2 : (g2 (rT g) 1).toInt = (g (rT g) 1).toInt + 1 := by
      rw [hg2]
      show (dU g1 (rT g) 1 ((g1 (rT g) 1) + 1) (rT g) 1).toInt = _
      rw [dU_eq, e1]
      exact i_add rfl (by decide) (by omega) (by omega)
    refine ⟨p, fun k => ?_, ?_, by omega, fun j hj => ?_, ?_⟩
    · rw [hg2, dU_ne (by unfold rT at ht; omega), hg1, dU_ne (by unfold rT at ht; omega)]
    · unfold rZ; rw [p.tx, e2]; omega
    · unfold rS rZ at *
      rw [p.tx, hg2, dU_ne (by unfold rT; omega), hg1, dU_ne (by unfold rT at hj ⊢; omega)]
    · unfold rS rZ
      rw [p.tx, hg2, dU_ne (by unfold rT; omega), hg1]
      exact dU_eq
  · exfalso
    unfold rZ at h1
    omega
end
