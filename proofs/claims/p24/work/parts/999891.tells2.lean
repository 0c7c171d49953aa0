/-! what a sheet tells: on both sides -/
noncomputable section
def Op2s (t u : Option (Int32 × dH)) : Prop := Al t (fun o => Al u (fun o2 => RR o.2 o2.2))
theorem Op2.s {t u : Option (Int32 × dH)} (q : Op2 t u) : Op2s t u := fun o ho o2 ho2 => (q o ho o2 ho2).2
theorem SM.cell {Y : zY} {y : Int32} {st : zT2} {g h : dH} (M : SM Y y st h) {ca ck : Nat} (hc : ca = 4 ∨ ca = 5 ∨ ca = 6) (q : tF ca ck g h) : ∃ Y', SM Y' y st g := by
  obtain ⟨h0, h1, h2, h3, h4, h5, h6⟩ := M
  have e : ∀ a k, ¬ (a = 0 ∧ 14 ≤ k ∧ k ≤ 28) → ¬ (a = 0 ∧ k = 34) → ¬ (8 ≤ a ∧ a ≤ 10) → ¬ (a = 7 ∧ 64 ≤ k) → ¬ (a = ca ∧ k = ck) → g a k = h a k := q
  refine ⟨(yN Y, yL Y, g 4, g 5, g 6, yE Y), ?_, ?_, ?_, h3, fun _ _ => ⟨rfl, rfl, rfl⟩, fun i j hi hj => ?_, h6.same (fun k => e 1 k (by omega) (by omega) (by omega) (by omega) (by omega)) (fun k => e 2 k (by omega) (by omega) (by omega) (by omega) (by omega)) (e 0 4 (by omega) (by omega) (by omega) (by omega) (by omega))⟩
  · rw [e 0 7 (by omega) (by omega) (by omega) (by omega) (by omega)]; exact h0
  · rw [e 0 8 (by omega) (by omega) (by omega) (by omega) (by omega)]; exact h1
  · rw [e 0 13 (by omega) (by omega) (by omega) (by omega) (by omega)]; exact h2
  · have hi' : i < 8 := Nat.lt_of_lt_of_le hi h3
    have hj' : j < 8 := Nat.lt_of_lt_of_le hj h3
    rw [e 7 _ (by omega) (by omega) (by omega) (by omega) (by omega)]; exact h5 i j hi hj
theorem RR.ruleSM {hC hM : dH} (q : RR hC hM) {x : Int32} (hx : 0 ≤ x.toInt) (hx2 : x.toInt < (hM 0 3).toInt) {g : dH} (F : tF 0 4 g hM) (e4 : g 0 4 = x) : ∃ Y, SM Y (hC 43 0) (stOf 43 hC) g := by
  obtain ⟨C, M, W, R, T⟩ := q.st
  obtain ⟨h0, h1, h2, h3, h4, h5, h6⟩ := M
  obtain ⟨t1, t2, t3, t4⟩ := q.2.2.1
  obtain ⟨s1, s2, s3⟩ := t4 x.toInt.toNat (by rw [t1]; omega)
  have e : ∀ a k, ¬ (a = 0 ∧ 14 ≤ k ∧ k ≤ 28) → ¬ (a = 0 ∧ k = 34) → ¬ (8 ≤ a ∧ a ≤ 10) → ¬ (a = 7 ∧ 64 ≤ k) → ¬ (a = 0 ∧ k = 4) → g a k = hM a k := F
  refine ⟨(yN (yOf 43 hC), yL (yOf 43 hC), g 4, g 5, g 6, evF hC (10 + 4 * x.toInt.toNat)), ?_, ?_, ?_, h3, fun _ _ => ⟨rfl, rfl, rfl⟩, fun i j hi hj => ?_, fun h' v1 v2 o pt a1 a2 a3 a4 a5 a6 => ?_⟩
  · rw [e 0 7 (by omega) (by omega) (by omega) (by omega) (by omega)]; exact h0
  · rw [e 0 8 (by omega) (by omega) (by omega) (by omega) (by omega)]; exact h1
  · rw [e 0 13 (by omega) (by omega) (by omega) (by omega) (by omega)]; exact h2
  · have hi' : i < 8 := Nat.lt_of_lt_of_le hi h3
    have hj' : j < 8 := Nat.lt_of_lt_of_le hj h3
    rw [e 7 _ (by omega) (by omega) (by omega) (by omega) (by omega)]; exact h5 i j hi hj
  · obtain ⟨y1, y2⟩ := s3 h' v1 v2 o pt (fun j _ => (a1 _).trans (e 1 _ (by omega) (by omega) (by omega) (by omega) (by omega))) ((a2 _).trans (e 2 _ (by omega) (by omega) (by omega) (by omega) (by omega))) a3 (by rw [a4, e4]; omega) a5 a6
    exact ⟨y1, (evF_of y2).symm⟩
theorem tells7 {hC hM : dH} (q : RR hC hM) (v1 v2 v3 : Int32) : Al (f_X7_tells v1 v2 v3 hM) (fun o => bFr o.2 hM) := by
  obtain ⟨C, M, W, R, T⟩ := q.st
  have N8 := M.2.2.2.1
  have l0 := L0
  have l6 := L6
  have n0 := q.2.2.2.2.2
  have ti2 : (2 : Int32).toInt = 2 := by decide
  have ti3 : (3 : Int32).toInt = 3 := by decide
  have ti4 : (4 : Int32).toInt = 4 := by decide
  have ti5 : (5 : Int32).toInt = 5 := by decide
  have ti6 : (6 : Int32).toInt = 6 := by decide
  have ti10 : (10 : Int32).toInt = 10 := by decide
  have b0 : bFr hM hM := fun _ _ _ _ _ _ => rfl
  have hc3 : (hM 0 3).toInt ≤ 6 := by rw [← q.2.2.1.1]; exact q.2.2.1.2.2.1
  have tF0 : ∀ {ca ck : Nat} {g : dH}, mFr g hM → tF ca ck g hM := fun F a k z1 _ _ _ _ => F a k z1
  -- a loop over one cell of it, laid back at the end
  have L : ∀ (v4 v6 r : Int32) (g : dH), 2 ≤ v4.toInt ∧ v4.toInt ≤ 5 → v6.toInt ≤ 10 → (∀ (x : Int32) (g : dH), 0 ≤ x.toInt → x.toInt < v6.toInt → tF (cA v4) (cK v4 v2) g hM → g (cA v4) (cK v4 v2) = x → ∃ Y, SM Y (hC 43 0) (stOf 43 hC) g) → mFr g hM → r = hM (cA v4) (cK v4 v2) → Al (l_X7_tells_175 v1 v2 v4 v6 (fun w g43 => oV (f_X7_lays v4 v2 r g43) (fun g44 => some (w, g44))) fuel0 0 0 g) (fun o => bFr o.2 hM) := fun v4 v6 r g h2 h6 G F er => tells_175_f h2 h6 G (fun w g43 x => al_oV' (fun g44 h44 => al_some (fun a k z1 z2 z3 z4 => by
      have e := lays_f h2 g44 h44
      show g44 a k = hM a k
      by_cases c : a = cA v4 ∧ k = cK v4 v2
      · rw [c.1, c.2, e, dU_eq]; exact er
      · rw [e, dU_ne c]; exact x a k z1 z2 z3 z4 c))) fuel0 0 0 g (by decide) (tF0 F)
  -- of a kind, a number, a table
  have G1 : ∀ (v4 v6 : Int32), 2 ≤ v4.toInt ∧ v4.toInt ≤ 4 → ∀ (x : Int32) (g : dH), 0 ≤ x.toInt → x.toInt < v6.toInt → tF (cA v4) (cK v4 v2) g hM → g (cA v4) (cK v4 v2) = x → ∃ Y, SM Y (hC 43 0) (stOf 43 hC) g := fun v4 v6 h x g _ _ F _ => M.cell (by
    unfold cA
    have : v4.toInt = 2 ∨ v4.toInt = 3 ∨ v4.toInt = 4 := by omega
    rcases this with e | e | e
    · exact Or.inr (Or.inl (if_pos e))
    · exact Or.inr (Or.inr ((if_neg (by omega)).trans (if_pos e)))
    · exact Or.inl ((if_neg (by omega)).trans ((if_neg (by omega)).trans (if_pos e)))) F
  have c5 : cA 5 = 0 ∧ cK 5 v2 = 4 := ⟨by decide, if_pos ti5⟩
  have c4 : cA 4 = 4 ∧ cK 4 v2 = v2.toInt.toNat := ⟨by decide, if_neg (by decide)⟩
  unfold f_X7_tells
  refine al_sheet7 (fun r1 q1 => al_ite (fun _ => al_some b0) (fun z1 => al_house7 M.2.2.1 N8 (fun r4 q4 => al_ite (fun _ => al_some b0) (fun z4 => al_in (fun r7 q7 => al_ite (fun _ => al_some b0) (fun z7 => al_ite (fun _ => al_ite (fun _ => al_some b0) (fun _ => al_ite (fun _ => al_ite (fun _ => al_ite (fun c0 => al_oI (fun r g hr => al_some (unlike_f M v1 v2 (r, g) hr))) (fun c0 => al_ite (fun c4' => al_ite (fun _ => al_oI (fun r g hr => al_some (limitsBy_f _ _ _ _ (r, g) hr))) (fun _ => al_oI (fun r g hr => al_some (limitsBy_f _ _ _ _ (r, g) hr)))) (fun c4' => ?_))) (fun _ => al_some b0)) (fun _ => al_none))) (fun _ => al_none)))))))
  refine al_ite (fun d1 => al_oI (fun r30 g31 h30 => al_ite (fun _ => ?_) (fun z => absurd d1 z))) (fun d1 => al_ite (fun d4 => al_ite (fun z => absurd z d1) (fun _ => al_ite (fun z => by omega) (fun _ => al_ite (fun z => by omega) (fun _ => ?_)))) (fun d4 => al_ite (fun z => by omega) (fun _ => al_oI (fun r109 g110 h109 => al_ite (fun z => absurd z d1) (fun _ => al_ite (fun d2 => ?_) (fun d2 => al_ite (fun d3 => ?_) (fun d3 => by omega)))))))
  · obtain ⟨x1, x2⟩ := mtold_ok M n0 (r30, g31) h30
    have x1' : r30 = _ := x1
    rw [td4 ti4 (by omega)] at x1'
    refine L 4 6 r30 g31 (by omega) (by omega) (G1 4 6 (by omega)) x2 ?_
    rw [c4.1, c4.2, x1']
    exact ((M.2.2.2.2.1 _ (by omega)).1).symm
  · refine L 5 (hM 0 3) (hM 0 4) hM (by omega) (by omega) (fun x g p0 p1 F e => ?_) (mFr.refl hM) (by rw [c5.1, c5.2])
    rw [c5.1, c5.2] at F e
    exact q.ruleSM p0 p1 F e
  · obtain ⟨x1, x2⟩ := mtold_ok M n0 (r109, g110) h109
    have x1' : r109 = _ := x1
    rw [td2 d2 (by omega)] at x1'
    refine L v3 10 r109 g110 (by omega) (by omega) (G1 v3 10 (by omega)) x2 ?_
    have e1 : cA v3 = 5 := if_pos d2
    have e2 : cK v3 v2 = v2.toInt.toNat := if_neg (by omega)
    rw [e1, e2, x1']
    exact ((M.2.2.2.2.1 _ (by omega)).2.1).symm
  · obtain ⟨x1, x2⟩ := mtold_ok M n0 (r109, g110) h109
    have x1' : r109 = _ := x1
    rw [td3 d3 (by omega)] at x1'
    refine L v3 4 r109 g110 (by omega) (by omega) (G1 v3 4 (by omega)) x2 ?_
    have e1 : cA v3 = 6 := (if_neg (by omega)).trans (if_pos d3)
    have e2 : cK v3 v2 = v2.toInt.toNat := if_neg (by omega)
    rw [e1, e2, x1']
    exact ((M.2.2.2.2.1 _ (by omega)).2.2).symm
theorem op_tells {hC hM : dH} (q : RR hC hM) (v1 v2 v3 : Int32) : Op2s (f_X6_tells v1 v2 v3 hC) (f_X7_tells v1 v2 v3 hM) := fun o ho o2 ho2 => q.keep (tells6 v1 v2 v3 hC o ho) (tells7 q v1 v2 v3 o2 ho2)
end
