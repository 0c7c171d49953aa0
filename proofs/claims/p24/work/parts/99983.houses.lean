/-! houses from a sheet: on both sides -/
noncomputable section
theorem al_sheet6 {α : Type} {v : Int32} {f : Int32 → Option α} {P : α → Prop} (k : ∀ r : Int32, ((r.toInt = 0 ∧ (v.toInt < 0 ∨ 4 ≤ v.toInt)) ∨ (r.toInt = 1 ∧ 0 ≤ v.toInt ∧ v.toInt < 4)) → Al (f r) P) : Al (oP (f_X6_isSheet v) f) P := by
  refine al_oP (fun r hr => k r ?_)
  revert r
  unfold f_X6_isSheet
  exact al_ite (fun c => al_some (by rw [ti0]; omega)) (fun c => al_ite (fun d => al_some (by rw [ti1]; omega)) (fun d => al_some (by rw [ti0]; omega)))
theorem al_sheet7 {α : Type} {v : Int32} {f : Int32 → Option α} {P : α → Prop} (k : ∀ r : Int32, ((r.toInt = 0 ∧ (v.toInt < 0 ∨ 4 ≤ v.toInt)) ∨ (r.toInt = 1 ∧ 0 ≤ v.toInt ∧ v.toInt < 4)) → Al (f r) P) : Al (oP (f_X7_isSheet v) f) P := by
  refine al_oP (fun r hr => k r ?_)
  have l0 := L0
  have l3 := L3
  revert r
  unfold f_X7_isSheet
  exact al_in (fun r qr => al_ite (fun _ => al_some (by omega)) (fun _ => al_none))
theorem al_sort6 {α : Type} {v : Int32} {f : Int32 → Option α} {P : α → Prop} (k : ∀ r : Int32, ((r.toInt = 0 ∧ (v.toInt < 0 ∨ 3 ≤ v.toInt)) ∨ (r.toInt = 1 ∧ 0 ≤ v.toInt ∧ v.toInt < 3)) → Al (f r) P) : Al (oP (f_X6_isSort v) f) P := by
  refine al_oP (fun r hr => k r ?_)
  revert r
  unfold f_X6_isSort
  exact al_ite (fun c => al_some (by rw [ti0]; omega)) (fun c => al_ite (fun d => al_some (by rw [ti1]; omega)) (fun d => al_some (by rw [ti0]; omega)))
theorem al_miss {α : Type} {h : dH} {a : Nat} {f : Int32 → Option α} {P : α → Prop} (k : ∀ r : Int32, ((r.toInt = 1 ∧ (h a 0).toInt = -1) ∨ (r.toInt = 0 ∧ ¬ (h a 0).toInt = -1)) → Al (f r) P) : Al (oP (f_X2_isMissing a h) f) P := by
  refine al_oP (fun r hr => k r ?_)
  revert r
  have t := show (-1 : Int32).toInt = -1 by decide
  unfold f_X2_isMissing
  exact al_ite (fun c => al_some (by rw [ti1]; omega)) (fun c => al_some (by rw [ti0]; omega))
theorem al_holds {α : Type} {h : dH} {a : Nat} {v w : Int32} {f : Int32 → Option α} {P : α → Prop} (k : ∀ r : Int32, ((r.toInt = 0 ∧ (w.toInt < 0 ∨ v.toInt < 0 ∨ (0 ≤ w.toInt ∧ (h a 1 - w).toInt < v.toInt))) ∨ (r.toInt = 1 ∧ 0 ≤ w.toInt ∧ 0 ≤ v.toInt ∧ v.toInt ≤ (h a 1 - w).toInt)) → Al (f r) P) : Al (oP (f_X2_holds a v w h) f) P := by
  refine al_oP (fun r hr => k r ?_)
  revert r
  unfold f_X2_holds
  exact al_ite (fun c => al_some (by rw [ti0]; omega)) (fun c => al_ite (fun d => al_some (by rw [ti0]; omega)) (fun d => al_ite (fun e => al_some (by rw [ti0]; omega)) (fun e => al_some (by rw [ti1]; omega))))
/-- a sheet that is there -/
theorem shR.here {hC hM : dH} {s : Nat} (q : shR hC hM s) (n : ¬ (hM 14 s).toInt = 0) : ¬ (hC (34 + 2 * s) 0).toInt = -1 ∧ hC (34 + 2 * s) 0 = hM 15 s ∧ hC (34 + 2 * s) 1 = hM 16 s ∧ 0 ≤ (hC (34 + 2 * s) 1).toInt ∧ (hC (34 + 2 * s) 1).toInt ≤ 40 ∧ ∀ i, i < (hC (34 + 2 * s) 1).toInt.toNat → hC (34 + 2 * s + 1) i = hM 17 (40 * s + i) := by
  rcases q with q | ⟨q1, q2, q3, q4, q5, q6, q7, q8⟩
  · exact absurd q.2 n
  · exact ⟨by omega, q4, q5, q6, q7, q8⟩
theorem houses_74 {v1 v3 v4 : Int32} (hs : 0 ≤ v1.toInt ∧ v1.toInt < 4) (h4 : v4.toInt ≤ 8) : ∀ (n m : Nat) (v6 v7 : Int32) (hC hM : dH), 0 ≤ v7.toInt → v7.toInt ≤ 8 → (v7.toInt = 0 ∨ (0 ≤ v3.toInt ∧ v3.toInt ≤ 38)) → RR hC hM → ¬ (hM 14 v1.toInt.toNat).toInt = 0 → Op2 (l_X6_houses_74 v3 v4 (34 + 2 * v1.toInt.toNat) (fun r g => some (r, g)) n v6 v7 hC) (l_X7_houses_75 v1 v3 v4 (fun r g => some (r, g)) m v6 v7 hM)
  | 0, _, _, _, _, _, _, _, _, _, _ => by unfold Op2; rw [l_X6_houses_74]; exact al_none
  | n + 1, 0, _, _, _, _, _, _, _, _, _ => by unfold Op2; intro o ho; rw [l_X7_houses_75]; exact al_none
  | n + 1, m + 1, v6, v7, hC, hM, p0, p8, p3, q, ne => by
    obtain ⟨s1, s2, s3, s4, s5, s6⟩ := (q.2.2.2.2.1 v1.toInt.toNat (by omega)).here ne
    unfold Op2
    rw [l_X6_houses_74, l_X7_houses_75]
    have ti2 : (2 : Int32).toInt = 2 := by decide
    have e2 : (2 * v7).toInt = 2 * v7.toInt := i_mul ti2 rfl (by omega) (by omega)
    have ewr : v7.toInt = 0 → v3 + 2 * v7 = v3 := fun z => by
      have : v7 = 0 := Int32.toInt_inj.mp (z.trans ti0.symm)
      rw [this]; simp
    have ea : v7.toInt = 0 ∨ (0 ≤ v3.toInt ∧ v3.toInt ≤ 38) → (v3 + 2 * v7).toInt = v3.toInt + 2 * v7.toInt := fun z => by
      rcases z with z | z
      · rw [ewr z, z]; omega
      · exact i_add rfl e2 (by omega) (by omega)
    have ea' := ea p3
    have el : (hC (34 + 2 * v1.toInt.toNat) 1 - 2).toInt = (hC (34 + 2 * v1.toInt.toNat) 1).toInt - 2 := i_sub rfl ti2 (by omega) (by omega)
    have em1 : (hM 16 v1.toInt.toNat - 2 * v7).toInt = (hC (34 + 2 * v1.toInt.toNat) 1).toInt - 2 * v7.toInt := by rw [← s3]; exact i_sub rfl e2 (by omega) (by omega)
    have em : (hM 16 v1.toInt.toNat - 2 * v7 - 2).toInt = (hC (34 + 2 * v1.toInt.toNat) 1).toInt - 2 * v7.toInt - 2 := i_sub em1 ti2 (by omega) (by omega)
    have bad : (v3.toInt < 0 ∨ (hC (34 + 2 * v1.toInt.toNat) 1).toInt - 2 * v7.toInt - 2 < v3.toInt) → Al (if v3.toInt < 0 then (some ((-12), hM)) else (if 0 ≤ v1.toInt ∧ v1.toInt < 4 then (if (((hM 16 (v1.toInt.toNat)) - (2 * v7)) - 2).toInt < v3.toInt then (some ((-12), hM)) else (if 0 ≤ (((40 * v1) + v3) + (2 * v7)).toInt ∧ (((40 * v1) + v3) + (2 * v7)).toInt < 160 then (if 0 ≤ ((((40 * v1) + v3) + (2 * v7)) + 1).toInt ∧ ((((40 * v1) + v3) + (2 * v7)) + 1).toInt < 160 then (oI (f_X7_house (hM 17 ((((40 * v1) + v3) + (2 * v7)).toInt.toNat)) (hM 17 (((((40 * v1) + v3) + (2 * v7)) + 1).toInt.toNat)) hM) (fun r25 g26 => if r25.toInt < 0 then (l_X7_houses_75 v1 v3 v4 (fun r g => some (r, g)) m (v6 + 0) (v7 + 1) g26) else (l_X7_houses_75 v1 v3 v4 (fun r g => some (r, g)) m (v6 + 1) (v7 + 1) g26))) else none) else none)) else none)) (fun o2 => (-12 : Int32) = o2.1 ∧ RR hC o2.2) := fun z => al_ite (fun _ => al_some ⟨rfl, q⟩) (fun z1 => al_ite (fun _ => al_ite (fun _ => al_some ⟨rfl, q⟩) (fun z2 => by omega)) (fun _ => al_none))
    refine al_ite (fun c => al_holds (fun r qr => al_ite (fun z => al_some (al_ite (fun _ => bad (by omega)) (fun z2 => absurd c z2))) (fun z => ?_))) (fun c => al_some (al_ite (fun z => absurd z c) (fun _ => al_some ⟨rfl, q⟩)))
    have f3 : 0 ≤ v3.toInt ∧ v3.toInt ≤ 38 := by omega
    have i1 : (v3 + 2 * v7 + 1).toInt = v3.toInt + 2 * v7.toInt + 1 := i_add ea' ti1 (by omega) (by omega)
    have t40 : (40 : Int32).toInt = 40 := by decide
    have j0 : (40 * v1 : Int32).toInt = 40 * v1.toInt := i_mul t40 rfl (by omega) (by omega)
    have j1 : (40 * v1 + v3).toInt = 40 * v1.toInt + v3.toInt := i_add j0 rfl (by omega) (by omega)
    have j2 : (40 * v1 + v3 + 2 * v7).toInt = 40 * v1.toInt + v3.toInt + 2 * v7.toInt := i_add j1 e2 (by omega) (by omega)
    have j3 : (40 * v1 + v3 + 2 * v7 + 1).toInt = 40 * v1.toInt + v3.toInt + 2 * v7.toInt + 1 := i_add j2 ti1 (by omega) (by omega)
    refine al_ite (fun _ => al_ite (fun _ => al_oI (fun r27 g28 h27 => ?_)) (fun _ => al_none)) (fun _ => al_none)
    have k1 : hM 17 (40 * v1 + v3 + 2 * v7).toInt.toNat = hC (34 + 2 * v1.toInt.toNat + 1) (v3 + 2 * v7).toInt.toNat := by
      rw [j2, ea', show (40 * v1.toInt + v3.toInt + 2 * v7.toInt).toNat = 40 * v1.toInt.toNat + (v3.toInt + 2 * v7.toInt).toNat by omega]
      exact (s6 _ (by omega)).symm
    have k2 : hM 17 (40 * v1 + v3 + 2 * v7 + 1).toInt.toNat = hC (34 + 2 * v1.toInt.toNat + 1) (v3 + 2 * v7 + 1).toInt.toNat := by
      rw [j3, i1, show (40 * v1.toInt + v3.toInt + 2 * v7.toInt + 1).toNat = 40 * v1.toInt.toNat + (v3.toInt + 2 * v7.toInt + 1).toNat by omega]
      exact (s6 _ (by omega)).symm
    rw [k1, k2]
    have S := settles q (hC (34 + 2 * v1.toInt.toNat + 1) (v3 + 2 * v7).toInt.toNat) (hC (34 + 2 * v1.toInt.toNat + 1) (v3 + 2 * v7 + 1).toInt.toNat) (r27, g28) h27
    have i7 := inc1 (v := v7) (by omega)
    have z0 : v6 + 0 = v6 := by simp
    rw [z0]
    have step : ∀ (w : Int32) (gm : dH), RR g28 gm → (∀ a k, 14 ≤ a → a ≤ 17 → gm a k = hM a k) → Op2 (l_X6_houses_74 v3 v4 (34 + 2 * v1.toInt.toNat) (fun r g => some (r, g)) n w (v7 + 1) g28) (l_X7_houses_75 v1 v3 v4 (fun r g => some (r, g)) m w (v7 + 1) gm) := fun w gm x y => houses_74 hs h4 n m w (v7 + 1) g28 gm (by omega) (by omega) (Or.inr f3) x (by rw [y 14 _ (by omega) (by omega)]; exact ne)
    refine al_ite (fun y o ho => ?_) (fun y o ho => ?_)
    all_goals
      refine al_ite (fun _ => al_ite (fun z => absurd z (by omega)) (fun _ => al_ite (fun _ => al_ite (fun z => absurd z (by omega)) (fun _ => al_ite (fun _ => al_ite (fun _ => al_oI (fun r25 g26 h25 => ?_)) (fun _ => al_none)) (fun _ => al_none))) (fun _ => al_none))) (fun z => absurd c z)
      obtain ⟨x1, x2, -, x3⟩ := S (r25, g26) h25
      have x1' : r27 = r25 := x1
      rw [← x1']
    · exact al_ite (fun _ => step v6 g26 x2 x3 o ho) (fun z => absurd y z)
    · exact al_ite (fun z => absurd z y) (fun _ => step (v6 + 1) g26 x2 x3 o ho)
theorem op_houses {hC hM : dH} (q : RR hC hM) (v1 v2 v3 v4 : Int32) : Op2 (f_X6_houses v1 v2 v3 v4 hC) (f_X7_houses v1 v2 v3 v4 hM) := by
  have l0 := L0
  have l2 := L2
  have l8 := L8
  unfold Op2 f_X6_houses
  have bad : ¬ (0 ≤ v1.toInt ∧ v1.toInt < 4 ∧ 0 ≤ v2.toInt ∧ v2.toInt ≤ 2 ∧ 0 ≤ v4.toInt ∧ v4.toInt ≤ 8) → Al (f_X7_houses v1 v2 v3 v4 hM) (fun o2 => (-2 : Int32) = o2.1 ∧ RR hC o2.2) := fun z => al_sheet7 (fun r qr => al_ite (fun _ => al_some ⟨rfl, q⟩) (fun z1 => al_in (fun r2 qr2 => al_ite (fun _ => al_some ⟨rfl, q⟩) (fun z2 => al_in (fun r3 qr3 => al_ite (fun _ => al_some ⟨rfl, q⟩) (fun z3 => by omega))))))
  refine al_sheet6 (fun r1 q1 => al_ite (fun z => al_some (bad (by omega))) (fun z1 => al_sort6 (fun r4 q4 => al_ite (fun z => al_some (bad (by omega))) (fun z2 => al_ite (fun z => al_some (bad (by omega))) (fun z3 => al_ite (fun z => al_some (bad (by omega))) (fun z4 => al_ite (fun hs => ?_) (fun _ => al_none)))))))
  have s := q.2.2.2.2.1 v1.toInt.toNat (by omega)
  have L := fun ne => houses_74 (v3 := v3) hs (v4 := v4) (by omega) fuel0 fuel0 0 0 hC hM (by decide) (by decide) (Or.inl (by decide)) q ne
  have w : ∀ {P : Int32 × dH → Prop}, (((hM 14 v1.toInt.toNat).toInt = 0 → P (-11, hM)) ∧ (¬ (hM 14 v1.toInt.toNat).toInt = 0 → ¬ (hM 15 v1.toInt.toNat).toInt = v2.toInt → P (-13, hM)) ∧ (¬ (hM 14 v1.toInt.toNat).toInt = 0 → (hM 15 v1.toInt.toNat).toInt = v2.toInt → Al (l_X7_houses_75 v1 v3 v4 (fun r g => some (r, g)) fuel0 0 0 hM) P)) → Al (f_X7_houses v1 v2 v3 v4 hM) P := fun k => al_sheet7 (fun r qr => al_ite (fun z => by omega) (fun _ => al_in (fun r2 qr2 => al_ite (fun z => by omega) (fun _ => al_in (fun r3 qr3 => al_ite (fun z => by omega) (fun _ => al_ite (fun _ => al_ite (fun y => al_ite (fun _ => al_ite (fun _ => al_some (k.1 y)) (fun z => absurd y z)) (fun _ => al_none)) (fun y => al_ite (fun _ => al_ite (fun x => al_ite (fun _ => al_ite (fun z => absurd z y) (fun _ => k.2.2 y x)) (fun _ => al_none)) (fun x => al_some (k.2.1 y x))) (fun _ => al_none))) (fun _ => al_none)))))))
  refine al_miss (fun r12 q12 => al_ite (fun c => ?_) (fun c => ?_))
  · have ne : ¬ (hM 14 v1.toInt.toNat).toInt = 0 := by
      rcases s with s | s
      · omega
      · exact s.2.2.1
    have e15 := (s.here ne).2.1
    refine al_ite (fun d => al_miss (fun r17 q17 => al_ite (fun _ o ho => w ⟨fun z => absurd z ne, fun _ z => absurd (by rw [← e15]; exact d) z, fun _ _ => L ne o ho⟩) (fun z => by omega))) (fun d => al_some (w ⟨fun z => absurd z ne, fun _ _ => ⟨rfl, q⟩, fun _ z => absurd (by rw [e15]; exact z) d⟩))
  · have ye : (hM 14 v1.toInt.toNat).toInt = 0 := by
      rcases s with s | s
      · exact s.2
      · omega
    exact al_miss (fun r35 q35 => al_ite (fun z => by omega) (fun _ => al_some (w ⟨fun _ => ⟨rfl, q⟩, fun z => absurd ye z, fun z => absurd ye z⟩)))
end
