/-! copies: on both sides -/
noncomputable section
theorem copied {hC hM gM : dH} (q : RR hC hM) {s1 a1 s3 a3 N : Nat} (l1 : s1 < 4) (l3 : s3 < 4) (n1 : ¬ (hM 14 s1).toInt = 0) (n3 : ¬ (hM 14 s3).toInt = 0) (b1 : ((a1 + N : Nat) : Int) ≤ (hC (34 + 2 * s1) 1).toInt) (b3 : ((a3 + N : Nat) : Int) ≤ (hC (34 + 2 * s3) 1).toInt) (E : ∀ a k, ¬ a = 17 → gM a k = hM a k) (K : cpQ (40 * s3 + a3) N (40 * s1 + a1) (gM 17) (hM 17)) : RR (dcopy hC (34 + 2 * s1 + 1) a1 (34 + 2 * s3 + 1) a3 N) gM := by
  have S1 := (q.2.2.2.2.1 s1 l1).here n1
  have S3 := (q.2.2.2.2.1 s3 l3).here n3
  have e : ∀ a k, ¬ (a = 34 + 2 * s3 + 1) → dcopy hC (34 + 2 * s1 + 1) a1 (34 + 2 * s3 + 1) a3 N a k = hC a k := fun a k z => if_neg (fun x => z x.1)
  have m17 : ∀ k, ¬ (40 * s3 + a3 ≤ k ∧ k < 40 * s3 + a3 + N) → gM 17 k = hM 17 k := fun k z => (K k).trans (if_neg z)
  refine q.sheets (fun a k z => e a k (by omega)) (fun a k _ _ _ _ z => E a k (by omega)) (fun s' hs4 => ?_)
  by_cases c : s' = s3
  · rw [c]
    have S := q.2.2.2.2.1 s3 l3
    unfold shR at S ⊢
    rw [e (34 + 2 * s3) 0 (by omega), e (34 + 2 * s3) 1 (by omega), E 14 s3 (by omega), E 15 s3 (by omega), E 16 s3 (by omega)]
    rcases S with S | ⟨q1, q2, q3, q4, q5, q6, q7, q8⟩
    · exact Or.inl S
    · refine Or.inr ⟨q1, q2, q3, q4, q5, q6, q7, fun j hj => ?_⟩
      by_cases d : a3 ≤ j ∧ j < a3 + N
      · have x1 : dcopy hC (34 + 2 * s1 + 1) a1 (34 + 2 * s3 + 1) a3 N (34 + 2 * s3 + 1) j = hC (34 + 2 * s1 + 1) (a1 + (j - a3)) := if_pos ⟨rfl, d⟩
        rw [x1, K (40 * s3 + j), if_pos (by omega), show 40 * s1 + a1 + (40 * s3 + j - (40 * s3 + a3)) = 40 * s1 + (a1 + (j - a3)) by omega]
        exact S1.2.2.2.2.2 _ (by omega)
      · have x1 : dcopy hC (34 + 2 * s1 + 1) a1 (34 + 2 * s3 + 1) a3 N (34 + 2 * s3 + 1) j = hC (34 + 2 * s3 + 1) j := if_neg (fun z => d z.2)
        rw [x1, m17 _ (by omega)]
        exact q8 j hj
  · exact (q.2.2.2.2.1 s' hs4).at (fun k => ⟨e _ k (by omega), e _ k (by omega)⟩) (fun a _ _ => E a s' (by omega)) (fun j hj => m17 _ (by omega))
theorem op_copy {hC hM : dH} (q : RR hC hM) (v1 v2 v3 v4 v5 : Int32) : Op2 (f_X6_copy v1 v2 v3 v4 v5 hC) (f_X7_copy v1 v2 v3 v4 v5 hM) := by
  unfold Op2 f_X6_copy
  have bad : ¬ (0 ≤ v1.toInt ∧ v1.toInt < 4 ∧ 0 ≤ v3.toInt ∧ v3.toInt < 4) → Al (f_X7_copy v1 v2 v3 v4 v5 hM) (fun o2 => (-2 : Int32) = o2.1 ∧ RR hC o2.2) := fun z => al_sheet7 (fun r qr => al_ite (fun _ => al_some ⟨rfl, q⟩) (fun z1 => al_sheet7 (fun r2 qr2 => al_ite (fun _ => al_some ⟨rfl, q⟩) (fun z2 => by omega))))
  refine al_sheet6 (fun r1 q1 => al_ite (fun z => al_some (bad (by omega))) (fun z1 => al_sheet6 (fun r4 q4 => al_ite (fun z => al_some (bad (by omega))) (fun z4 => al_ite (fun h1 => al_ite (fun h3 => ?_) (fun _ => al_none)) (fun _ => al_none)))))
  have s1 := q.2.2.2.2.1 v1.toInt.toNat (by omega)
  have s3 := q.2.2.2.2.1 v3.toInt.toNat (by omega)
  have mi1 := miss_iff s1
  have mi3 := miss_iff s3
  -- the reference, case by case
  have M : ∀ {P : Int32 × dH → Prop}, ((hM 14 v1.toInt.toNat).toInt = 0 ∨ (hM 14 v3.toInt.toNat).toInt = 0 → P (-11, hM)) → (¬ (hM 14 v1.toInt.toNat).toInt = 0 → ¬ (hM 14 v3.toInt.toNat).toInt = 0 → ¬ (hM 15 v1.toInt.toNat).toInt = (hM 15 v3.toInt.toNat).toInt → P (-13, hM)) → (¬ (hM 14 v1.toInt.toNat).toInt = 0 → ¬ (hM 14 v3.toInt.toNat).toInt = 0 → (hM 15 v1.toInt.toNat).toInt = (hM 15 v3.toInt.toNat).toInt → v5.toInt < 0 ∨ v2.toInt < 0 ∨ v4.toInt < 0 ∨ (0 ≤ v5.toInt ∧ ((hM 16 v1.toInt.toNat - v5).toInt < v2.toInt ∨ (hM 16 v3.toInt.toNat - v5).toInt < v4.toInt)) → P (-12, hM)) → (¬ (hM 14 v1.toInt.toNat).toInt = 0 → ¬ (hM 14 v3.toInt.toNat).toInt = 0 → (hM 15 v1.toInt.toNat).toInt = (hM 15 v3.toInt.toNat).toInt → 0 ≤ v5.toInt → 0 ≤ v2.toInt → 0 ≤ v4.toInt → v2.toInt ≤ (hM 16 v1.toInt.toNat - v5).toInt → v4.toInt ≤ (hM 16 v3.toInt.toNat - v5).toInt → Al (if v1.toInt = v3.toInt then (if v2.toInt < v4.toInt then (l_X7_copy_121 v1 v2 v3 v4 v5 1 (fun g45 => some (v5, g45)) fuel0 0 hM) else (l_X7_copy_121 v1 v2 v3 v4 v5 0 (fun g48 => some (v5, g48)) fuel0 0 hM)) else (l_X7_copy_121 v1 v2 v3 v4 v5 0 (fun g51 => some (v5, g51)) fuel0 0 hM)) P) → Al (f_X7_copy v1 v2 v3 v4 v5 hM) P := fun k11 k13 k12 k => al_sheet7 (fun r qr => al_ite (fun z => by omega) (fun _ => al_sheet7 (fun r2 qr2 => al_ite (fun z => by omega) (fun _ => al_ite (fun _ => al_ite (fun a => al_some (k11 (Or.inl a))) (fun a => al_ite (fun _ => al_ite (fun b => al_some (k11 (Or.inr b))) (fun b => al_ite (fun _ => al_ite (fun _ => al_ite (fun c => al_ite (fun d => al_some (k12 a b c (by omega))) (fun d => al_ite (fun d2 => al_some (k12 a b c (by omega))) (fun d2 => al_ite (fun d3 => al_some (k12 a b c (by omega))) (fun d3 => al_ite (fun _ => al_ite (fun d4 => al_some (k12 a b c (by omega))) (fun d4 => al_ite (fun _ => al_ite (fun d5 => al_some (k12 a b c (by omega))) (fun d5 => k a b c (by omega) (by omega) (by omega) (by omega) (by omega))) (fun _ => al_none))) (fun _ => al_none))))) (fun c => al_some (k13 a b c))) (fun _ => al_none)) (fun _ => al_none))) (fun _ => al_none))) (fun _ => al_none)))))
  have ref11 : ((hM 14 v1.toInt.toNat).toInt = 0 ∨ (hM 14 v3.toInt.toNat).toInt = 0) → Al (f_X7_copy v1 v2 v3 v4 v5 hM) (fun o2 => (-11 : Int32) = o2.1 ∧ RR hC o2.2) := fun z => M (fun _ => ⟨rfl, q⟩) (fun a b _ => absurd z (by omega)) (fun a b _ _ => absurd z (by omega)) (fun a b _ _ _ _ _ _ => absurd z (by omega))
  refine al_miss (fun r9 q9 => al_ite (fun c1 => al_miss (fun r12 q12 => al_ite (fun c3 => ?_) (fun c3 => al_some (ref11 (Or.inr (mi3.mp (by omega))))))) (fun c1 => al_some (ref11 (Or.inl (mi1.mp (by omega))))))
  have n1 : ¬ (hM 14 v1.toInt.toNat).toInt = 0 := fun z => by have := mi1.mpr z; omega
  have n3 : ¬ (hM 14 v3.toInt.toNat).toInt = 0 := fun z => by have := mi3.mpr z; omega
  obtain ⟨x1, x2, x3, x4, x5, x6⟩ := s1.here n1
  obtain ⟨y1, y2, y3, y4, y5, y6⟩ := s3.here n3
  rw [x2, y2]
  refine al_ite (fun d => ?_) (fun d => al_some (M (fun z => absurd z (by omega)) (fun _ _ _ => ⟨rfl, q⟩) (fun _ _ c _ => absurd c d) (fun _ _ c _ _ _ _ _ => absurd c d)))
  have ref12 : (v5.toInt < 0 ∨ v2.toInt < 0 ∨ v4.toInt < 0 ∨ (0 ≤ v5.toInt ∧ ((hM 16 v1.toInt.toNat - v5).toInt < v2.toInt ∨ (hM 16 v3.toInt.toNat - v5).toInt < v4.toInt))) → Al (f_X7_copy v1 v2 v3 v4 v5 hM) (fun o2 => (-12 : Int32) = o2.1 ∧ RR hC o2.2) := fun z => M (fun w => absurd w (by omega)) (fun _ _ c => absurd d c) (fun _ _ _ _ => ⟨rfl, q⟩) (fun _ _ _ a b c e f => by exfalso; omega)
  refine al_holds (fun r17 q17 => al_ite (fun z => al_some (ref12 (by rw [← x3]; omega))) (fun z17 => al_holds (fun r20 q20 => al_ite (fun z => al_some (ref12 (by rw [← y3]; omega))) (fun z20 => al_ite (fun _ => al_oH' (fun g hg => al_some ?_)) (fun _ => al_none)))))
  have f1 : (hC (34 + 2 * v1.toInt.toNat) 1 - v5).toInt = (hC (34 + 2 * v1.toInt.toNat) 1).toInt - v5.toInt := i_sub rfl rfl (by have := lt32 v5; omega) (by omega)
  have f3 : (hC (34 + 2 * v3.toInt.toNat) 1 - v5).toInt = (hC (34 + 2 * v3.toInt.toNat) 1).toInt - v5.toInt := i_sub rfl rfl (by have := lt32 v5; omega) (by omega)
  have p5 : 0 ≤ v5.toInt := by omega
  have p2 : 0 ≤ v2.toInt := by omega
  have p4 : 0 ≤ v4.toInt := by omega
  have b1 : v2.toInt + v5.toInt ≤ (hC (34 + 2 * v1.toInt.toNat) 1).toInt := by omega
  have b3 : v4.toInt + v5.toInt ≤ (hC (34 + 2 * v3.toInt.toNat) 1).toInt := by omega
  have e1 : v1.toInt = (v1.toInt.toNat : Int) := by omega
  have e2 : v2.toInt = (v2.toInt.toNat : Int) := by omega
  have e3 : v3.toInt = (v3.toInt.toNat : Int) := by omega
  have e4 : v4.toInt = (v4.toInt.toNat : Int) := by omega
  have e5 : v5.toInt = (v5.toInt.toNat : Int) := by omega
  have fin : ∀ o : Int32 × dH, (o.1 = v5 ∧ (∀ a k, ¬ a = 17 → o.2 a k = hM a k) ∧ cpQ (40 * v3.toInt.toNat + v4.toInt.toNat) v5.toInt.toNat (40 * v1.toInt.toNat + v2.toInt.toNat) (o.2 17) (hM 17)) → v5 = o.1 ∧ RR g o.2 := fun o ho => ⟨ho.1.symm, by
    rw [hg]
    exact copied q (by omega) (by omega) n1 n3 (by omega) (by omega) ho.2.1 ho.2.2⟩
  have c0 : ∀ r0 : Nat → Int32, cpQ (40 * v3.toInt.toNat + v4.toInt.toNat) 0 (40 * v1.toInt.toNat + v2.toInt.toNat) r0 r0 := fun r0 k => (if_neg (by omega)).symm
  have d0 : ∀ r0 : Nat → Int32, cqQ (40 * v3.toInt.toNat + v4.toInt.toNat) v5.toInt.toNat (40 * v1.toInt.toNat + v2.toInt.toNat) 0 r0 r0 := fun r0 k => (if_neg (by omega)).symm
  have up : (40 * v3.toInt.toNat + v4.toInt.toNat ≤ 40 * v1.toInt.toNat + v2.toInt.toNat ∨ 40 * v1.toInt.toNat + v2.toInt.toNat + v5.toInt.toNat ≤ 40 * v3.toInt.toNat + v4.toInt.toNat) → Al (l_X7_copy_121 v1 v2 v3 v4 v5 0 (fun g => some (v5, g)) fuel0 0 hM) (fun o2 => v5 = o2.1 ∧ RR g o2.2) := fun ok o ho => fin o (copy_up e1 e2 e3 e4 e5 (by omega) (by omega) (by omega) (by omega) ti0 ok fuel0 0 hM 0 ti0 (by omega) (fun _ _ _ => rfl) (c0 _) o ho)
  refine M (fun w => absurd w (by omega)) (fun _ _ c => absurd d c) (fun _ _ _ w => by exfalso; rw [← x3, ← y3] at w; omega) (fun _ _ _ _ _ _ _ _ => ?_)
  refine al_ite (fun i => al_ite (fun j o ho => ?_) (fun j => up (by omega))) (fun i => up (by omega))
  exact fin o (copy_dn e1 e2 e3 e4 e5 (by omega) (by omega) (by omega) (by omega) ti1 (by omega) fuel0 0 hM 0 ti0 (by omega) (fun _ _ _ => rfl) (d0 _) o ho)
end
