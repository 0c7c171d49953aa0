/-! the class's tokens, whole -/
noncomputable section
theorem sI_n : sI (xB + 10 + 1) = wName 0 ∧ sI (xB + 10 + 2) = wName 1 ∧ sI (xB + 10 + 3) = wName 2 ∧ sI (xB + 10 + 4) = wName 3 ∧ sI (xB + 10 + 5) = wName 4 ∧ sI (xB + 10 + 6) = wName 5 := by
  refine ⟨?_, ?_, ?_, ?_, ?_, ?_⟩ <;> unfold sI
  · rw [xSo1]; decide
  · rw [xSo2]; decide
  · rw [xSo3]; decide
  · rw [xSo4]; decide
  · rw [xSo5]; decide
  · rw [xSo6]; decide
theorem sI_k : sI (xB + 10 + 7) = wKey 0 ∧ sI (xB + 10 + 8) = wKey 1 ∧ sI (xB + 10 + 9) = wKey 2 ∧ sI (xB + 10 + 10) = wKey 3 ∧ sI (xB + 10 + 11) = wKey 4 ∧ sI (xB + 10 + 12) = wKey 5 := by
  refine ⟨?_, ?_, ?_, ?_, ?_, ?_⟩ <;> unfold sI
  · rw [xSo7]; decide
  · rw [xSo8]; decide
  · rw [xSo9]; decide
  · rw [xSo10]; decide
  · rw [xSo11]; decide
  · rw [xSo12]; decide
theorem six {P : Nat → Prop} (h0 : P 0) (h1 : P 1) (h2 : P 2) (h3 : P 3) (h4 : P 4) (h5 : P 5) : ∀ i, i < 6 → P i := by
  intro i hi
  have : i = 0 ∨ i = 1 ∨ i = 2 ∨ i = 3 ∨ i = 4 ∨ i = 5 := by omega
  rcases this with rfl | rfl | rfl | rfl | rfl | rfl <;> assumption
theorem nameFrom_ok {v : Int32} {h : dH} (ho : cOk h) (hv : 0 ≤ v.toInt) (hle : v.toInt ≤ (h 1 5).toInt) : Al (f_X4_nameFrom v h) (fun r => (∃ i, i < 6 ∧ isW (cB h) v.toInt.toNat (h 1 5).toInt.toNat (wName i) ∧ r.toInt = i) ∨ (r.toInt = -1 ∧ ∀ i, i < 6 → ¬ isW (cB h) v.toInt.toNat (h 1 5).toInt.toNat (wName i))) := by
  unfold f_X4_nameFrom
  obtain ⟨n0, n1, n2, n3, n4, n5⟩ := sI_n
  refine al_oP (fun r0 hr0 => ?_)
  have q0 := reads_ok (zStr_k (by decide)) ho hv hle r0 hr0
  rw [n0] at q0
  refine al_ite (fun c0 => al_oP (fun r1 hr1 => ?_)) (fun c0 => al_some (Or.inl ⟨0, by omega, q0.elim (fun z => z.2) (fun z => absurd z.1 c0), by decide⟩))
  have q1 := reads_ok (zStr_k (by decide)) ho hv hle r1 hr1
  rw [n1] at q1
  refine al_ite (fun c1 => al_oP (fun r2 hr2 => ?_)) (fun c1 => al_some (Or.inl ⟨1, by omega, q1.elim (fun z => z.2) (fun z => absurd z.1 c1), by decide⟩))
  have q2 := reads_ok (zStr_k (by decide)) ho hv hle r2 hr2
  rw [n2] at q2
  refine al_ite (fun c2 => al_oP (fun r3 hr3 => ?_)) (fun c2 => al_some (Or.inl ⟨2, by omega, q2.elim (fun z => z.2) (fun z => absurd z.1 c2), by decide⟩))
  have q3 := reads_ok (zStr_k (by decide)) ho hv hle r3 hr3
  rw [n3] at q3
  refine al_ite (fun c3 => al_oP (fun r4 hr4 => ?_)) (fun c3 => al_some (Or.inl ⟨3, by omega, q3.elim (fun z => z.2) (fun z => absurd z.1 c3), by decide⟩))
  have q4 := reads_ok (zStr_k (by decide)) ho hv hle r4 hr4
  rw [n4] at q4
  refine al_ite (fun c4 => al_oP (fun r5 hr5 => ?_)) (fun c4 => al_some (Or.inl ⟨4, by omega, q4.elim (fun z => z.2) (fun z => absurd z.1 c4), by decide⟩))
  have q5 := reads_ok (zStr_k (by decide)) ho hv hle r5 hr5
  rw [n5] at q5
  refine al_ite (fun c5 => al_some (Or.inr ⟨by decide, ?_⟩)) (fun c5 => al_some (Or.inl ⟨5, by omega, q5.elim (fun z => z.2) (fun z => absurd z.1 c5), by decide⟩))
  have no : ∀ {r : Int32} {A : Prop}, r.toInt = 0 → ((r.toInt = 1 ∧ A) ∨ (r.toInt = 0 ∧ ¬ A)) → ¬ A := fun z q => q.elim (fun y => by omega) (fun y => y.2)
  exact six (no c0 q0) (no c1 q1) (no c2 q2) (no c3 q3) (no c4 q4) (no c5 q5)
theorem keyFrom_ok {v : Int32} {h : dH} (ho : cOk h) (hv : 0 ≤ v.toInt) (hle : v.toInt ≤ (h 1 5).toInt) : Al (f_X4_keyFrom v h) (fun r => (∃ i, i < 6 ∧ isW (cB h) v.toInt.toNat (h 1 5).toInt.toNat (wKey i) ∧ r.toInt = 304 + (i : Int)) ∨ (r.toInt = 301 ∧ ∀ i, i < 6 → ¬ isW (cB h) v.toInt.toNat (h 1 5).toInt.toNat (wKey i))) := by
  unfold f_X4_keyFrom
  obtain ⟨n0, n1, n2, n3, n4, n5⟩ := sI_k
  refine al_oP (fun r0 hr0 => ?_)
  have q0 := reads_ok (zStr_k (by decide)) ho hv hle r0 hr0
  rw [n0] at q0
  refine al_ite (fun c0 => al_oP (fun r1 hr1 => ?_)) (fun c0 => al_some (Or.inl ⟨0, by omega, q0.elim (fun z => z.2) (fun z => absurd z.1 c0), by decide⟩))
  have q1 := reads_ok (zStr_k (by decide)) ho hv hle r1 hr1
  rw [n1] at q1
  refine al_ite (fun c1 => al_oP (fun r2 hr2 => ?_)) (fun c1 => al_some (Or.inl ⟨1, by omega, q1.elim (fun z => z.2) (fun z => absurd z.1 c1), by decide⟩))
  have q2 := reads_ok (zStr_k (by decide)) ho hv hle r2 hr2
  rw [n2] at q2
  refine al_ite (fun c2 => al_oP (fun r3 hr3 => ?_)) (fun c2 => al_some (Or.inl ⟨2, by omega, q2.elim (fun z => z.2) (fun z => absurd z.1 c2), by decide⟩))
  have q3 := reads_ok (zStr_k (by decide)) ho hv hle r3 hr3
  rw [n3] at q3
  refine al_ite (fun c3 => al_oP (fun r4 hr4 => ?_)) (fun c3 => al_some (Or.inl ⟨3, by omega, q3.elim (fun z => z.2) (fun z => absurd z.1 c3), by decide⟩))
  have q4 := reads_ok (zStr_k (by decide)) ho hv hle r4 hr4
  rw [n4] at q4
  refine al_ite (fun c4 => al_oP (fun r5 hr5 => ?_)) (fun c4 => al_some (Or.inl ⟨4, by omega, q4.elim (fun z => z.2) (fun z => absurd z.1 c4), by decide⟩))
  have q5 := reads_ok (zStr_k (by decide)) ho hv hle r5 hr5
  rw [n5] at q5
  refine al_ite (fun c5 => al_some (Or.inr ⟨by decide, ?_⟩)) (fun c5 => al_some (Or.inl ⟨5, by omega, q5.elim (fun z => z.2) (fun z => absurd z.1 c5), by decide⟩))
  have no : ∀ {r : Int32} {A : Prop}, r.toInt = 0 → ((r.toInt = 1 ∧ A) ∨ (r.toInt = 0 ∧ ¬ A)) → ¬ A := fun z q => q.elim (fun y => by omega) (fun y => y.2)
  exact six (no c0 q0) (no c1 q1) (no c2 q2) (no c3 q3) (no c4 q4) (no c5 q5)
/-- token i is written: its code and what it writes; nothing else is changed, but for the place -/
def cutQ (B : Nat → Int) (N p s i : Nat) (h g : dH) : Prop := cOk g ∧ (∀ a k, ¬ (a = 1 ∧ k = 5) → ¬ (a = 2 ∧ k = i) → ¬ (a = 4 ∧ k = i) → g a k = h a k) ∧ ∃ (c w : Int), ¬ c = 300 ∧ Tok B N p c s (g 1 5).toInt.toNat w ∧ (g 2 i).toInt = c ∧ (c = 302 ∨ c = 303 → (g 4 i).toInt = w)
theorem cutWord_ok {v : Int32} {h : dH} {p s : Nat} (ho : cOk h) (hs : (h 1 5).toInt.toNat = s) (h3 : (h 3 v.toInt.toNat) = h 1 5) (hr : Run isBl (cB h) (cN h) p s) (hN : s < cN h) (hsm : isSm (cB h s)) : Al (f_X4_cutWord v h) (cutQ (cB h) (cN h) p s v.toInt.toNat h) := by
  unfold f_X4_cutWord
  refine cutWord_0 _ h ho (fun g m og run => al_ite (fun _ => al_oP (fun r hr1 => ?_)) (fun _ => al_none))
  rw [hs] at run
  have e3 : g 3 v.toInt.toNat = h 1 5 := (m 3 _ (by omega)).trans h3
  obtain ⟨o1, o2, o3⟩ := ho
  have e3s : (g 3 v.toInt.toNat).toInt.toNat = s := by rw [e3, hs]
  have hle := run.1
  have qn := nameFrom_ok og (by rw [e3]; exact o2) (by rw [e3]; have := og.2.1; omega) r hr1
  rw [m.bytes, e3s] at qn
  refine al_ite (fun c => al_ite (fun _ => al_oP (fun r2 hr2 => al_ite (fun _ => al_oH' (fun f hf => al_some ?_)) (fun _ => al_none))) (fun _ => al_none)) (fun c => al_ite (fun _ => al_oH' (fun f hf => al_ite (fun _ => al_oH' (fun f2 hf2 => al_some ?_)) (fun _ => al_none))) (fun _ => al_none))
  · have qk := keyFrom_ok og (by rw [e3]; exact o2) (by rw [e3]; have := og.2.1; omega) r2 hr2
    rw [m.bytes, e3s] at qk
    have nn : ∀ i, i < 6 → ¬ isW (cB h) s (g 1 5).toInt.toNat (wName i) := by
      rcases qn with ⟨i, hi, -, q⟩ | q
      · omega
      · exact q.2
    have e5 : f 1 5 = g 1 5 := by rw [hf]; exact dU_ne (by omega)
    have e0 : f 1 0 = g 1 0 := by rw [hf]; exact dU_ne (by omega)
    have ef : (f 2 v.toInt.toNat).toInt = r2.toInt := by rw [hf, dU_eq]
    refine ⟨by unfold cOk; rw [e0, e5]; exact og, fun a k q1 q2 q3 => by rw [hf, dU_ne q2]; exact m a k q1, ?_⟩
    rw [e5]
    rcases qk with ⟨i, hi, hw, q⟩ | ⟨q, nk⟩
    · exact ⟨304 + (i : Int), 0, by omega, ⟨hr, Or.inr (Or.inr (Or.inl ⟨hN, hsm, run, Or.inr (Or.inl ⟨i, hi, hw, rfl⟩)⟩))⟩, by rw [ef, q], fun z => by omega⟩
    · exact ⟨301, 0, by omega, ⟨hr, Or.inr (Or.inr (Or.inl ⟨hN, hsm, run, Or.inr (Or.inr ⟨fun i hi => ⟨nn i hi, nk i hi⟩, rfl⟩)⟩))⟩, by rw [ef, q], fun z => by omega⟩
  · have e5 : f2 1 5 = g 1 5 := by rw [hf2, dU_ne (by omega), hf, dU_ne (by omega)]
    have e0 : f2 1 0 = g 1 0 := by rw [hf2, dU_ne (by omega), hf, dU_ne (by omega)]
    rcases qn with ⟨i, hi, hw, q⟩ | q
    · refine ⟨by unfold cOk; rw [e0, e5]; exact og, fun a k q1 q2 q3 => by rw [hf2, dU_ne q3, hf, dU_ne q2]; exact m a k q1, 303, -1 - (i : Int), by omega, ?_, by rw [hf2, dU_ne (by omega), hf, dU_eq]; decide, fun _ => ?_⟩
      · rw [e5]
        exact ⟨hr, Or.inr (Or.inr (Or.inl ⟨hN, hsm, run, Or.inl ⟨i, hi, hw, rfl, rfl⟩⟩))⟩
      · rw [hf2, dU_eq]
        have := i_sub (a := -1) (b := r) (A := -1) (by decide) q (by omega) (by omega)
        exact this
    · exact absurd q.1 c
theorem cutNumber_ok {v : Int32} {h : dH} {p s : Nat} (ho : cOk h) (hs : (h 1 5).toInt.toNat = s) (h3 : (h 3 v.toInt.toNat) = h 1 5) (hr : Run isBl (cB h) (cN h) p s) (hN : s < cN h) (hd : isDg (cB h s)) : Al (f_X4_cutNumber v h) (cutQ (cB h) (cN h) p s v.toInt.toNat h) := by
  unfold f_X4_cutNumber
  refine cutNumber_2 s _ 0 h ho (by omega) (fun j j1 j2 => by omega) (fun _ => by rw [hs, Nat.sub_self, ti0]; rfl) (fun w g m og run hw => ?_)
  rw [hs] at run
  have e3 : g 3 v.toInt.toNat = h 1 5 := (m 3 _ (by omega)).trans h3
  obtain ⟨o1, o2, o3⟩ := ho
  have hle := run.1
  obtain ⟨g1, g2, g3⟩ := id og
  have td : ((g 1 5) - (g 3 v.toInt.toNat)).toInt = (g 1 5).toInt - (h 1 5).toInt := by rw [e3]; exact i_sub rfl rfl (by omega) (by omega)
  refine al_ite (fun _ => al_ite (fun c => al_ite (fun _ => al_oH' (fun f hf => al_ite (fun _ => al_oH' (fun f2 hf2 => al_some ?_)) (fun _ => al_none))) (fun _ => al_none)) (fun c => al_ite (fun _ => al_oH' (fun f hf => al_ite (fun _ => al_oH' (fun f2 hf2 => al_some ?_)) (fun _ => al_none))) (fun _ => al_none))) (fun _ => al_none)
  · have e5 : f2 1 5 = g 1 5 := by rw [hf2, dU_ne (by omega), hf, dU_ne (by omega)]
    have e0 : f2 1 0 = g 1 0 := by rw [hf2, dU_ne (by omega), hf, dU_ne (by omega)]
    refine ⟨by unfold cOk; rw [e0, e5]; exact og, fun a k q1 q2 q3 => by rw [hf2, dU_ne q3, hf, dU_ne q2]; exact m a k q1, 301, 0, by omega, ?_, by rw [hf2, dU_ne (by omega), hf, dU_eq]; decide, fun z => by omega⟩
    rw [e5]
    exact ⟨hr, Or.inr (Or.inl ⟨hN, hd, run, Or.inl ⟨by omega, rfl⟩⟩)⟩
  · have e5 : f2 1 5 = g 1 5 := by rw [hf2, dU_ne (by omega), hf, dU_ne (by omega)]
    have e0 : f2 1 0 = g 1 0 := by rw [hf2, dU_ne (by omega), hf, dU_ne (by omega)]
    refine ⟨by unfold cOk; rw [e0, e5]; exact og, fun a k q1 q2 q3 => by rw [hf2, dU_ne q3, hf, dU_ne q2]; exact m a k q1, 302, numV (cB h) s ((g 1 5).toInt.toNat - s), by omega, ?_, by rw [hf2, dU_ne (by omega), hf, dU_eq]; decide, fun _ => ?_⟩
    · rw [e5]
      exact ⟨hr, Or.inr (Or.inl ⟨hN, hd, run, Or.inr ⟨by omega, rfl, rfl⟩⟩)⟩
    · rw [hf2, dU_eq]
      exact hw (by omega)
end
