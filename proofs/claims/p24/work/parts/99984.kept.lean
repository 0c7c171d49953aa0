/-! the picture that is kept: on both sides -/
noncomputable section
theorem image_2 {h0 : dH} {k : dH → Option (Int32 × dH)} {P : Int32 × dH → Prop} : ∀ (n : Nat) (v1 : Int32) (h : dH), 0 ≤ v1.toInt → v1.toInt ≤ 8 → (∀ j, j < v1.toInt.toNat → h 11 j = h0 5 j ∧ h 12 j = h0 6 j) → (∀ a j, ¬ a = 11 → ¬ a = 12 → h a j = h0 a j) → (∀ g : dH, (∀ j, j < 8 → g 11 j = h0 5 j ∧ g 12 j = h0 6 j) → (∀ a j, ¬ a = 11 → ¬ a = 12 → g a j = h0 a j) → Al (k g) P) → Al (l_X7_image_2 k n v1 h) P
  | 0, _, _, _, _, _, _, _ => al_none
  | n + 1, v1, h, p0, p1, h1, h2, K => by
    rw [l_X7_image_2]
    have t := inc1 (v := v1) (by omega)
    refine al_ite (fun c1 => al_ite (fun _ => al_ite (fun _ => al_oH' (fun g hg => al_ite (fun _ => al_ite (fun _ => al_oH' (fun g' hg' => ?_)) (fun _ => al_none)) (fun _ => al_none))) (fun _ => al_none)) (fun _ => al_none)) (fun c1 => K h (fun j hj => h1 j (by omega)) h2)
    refine image_2 n (v1 + 1) g' (by omega) (by omega) (fun j hj => ?_) (fun a j q r => by rw [hg', dU_ne (by omega), hg, dU_ne (by omega)]; exact h2 a j q r) K
    by_cases e : j = v1.toInt.toNat
    · refine ⟨?_, ?_⟩
      · rw [e, hg', dU_ne (by omega), hg, dU_eq]; exact h2 _ _ (by omega) (by omega)
      · rw [e, hg', dU_eq, hg, dU_ne (by omega)]; exact h2 _ _ (by omega) (by omega)
    · rw [hg', dU_ne (by omega), dU_ne (by omega), hg, dU_ne (by omega), dU_ne (by omega)]; exact h1 j (by omega)
theorem image_40 {h0 : dH} {k : dH → Option (Int32 × dH)} {P : Int32 × dH → Prop} : ∀ (n : Nat) (v1 : Int32) (h : dH), 0 ≤ v1.toInt → v1.toInt ≤ 64 → (∀ j, j < v1.toInt.toNat → h 13 j = h0 7 j) → (∀ a j, ¬ a = 13 → h a j = h0 a j) → (∀ g : dH, (∀ j, j < 64 → g 13 j = h0 7 j) → (∀ a j, ¬ a = 13 → g a j = h0 a j) → Al (k g) P) → Al (l_X7_image_40 k n v1 h) P
  | 0, _, _, _, _, _, _, _ => al_none
  | n + 1, v1, h, p0, p1, h1, h2, K => by
    rw [l_X7_image_40]
    have t := inc1 (v := v1) (by omega)
    refine al_ite (fun c1 => al_ite (fun _ => al_ite (fun _ => al_oH' (fun g hg => ?_)) (fun _ => al_none)) (fun _ => al_none)) (fun c1 => K h (fun j hj => h1 j (by omega)) h2)
    refine image_40 n (v1 + 1) g (by omega) (by omega) (fun j hj => ?_) (fun a j q => by rw [hg, dU_ne (by omega)]; exact h2 a j q) K
    by_cases e : j = v1.toInt.toNat
    · rw [e, hg, dU_eq]; exact h2 _ _ (by omega)
    · rw [hg, dU_ne (by omega)]; exact h1 j (by omega)
theorem back_13 {h0 : dH} {k : dH → Option (Int32 × dH)} {P : Int32 × dH → Prop} : ∀ (n : Nat) (v1 : Int32) (h : dH), 0 ≤ v1.toInt → v1.toInt ≤ 8 → (∀ j, j < v1.toInt.toNat → h 5 j = h0 11 j ∧ h 6 j = h0 12 j) → (∀ a j, ¬ a = 5 → ¬ a = 6 → h a j = h0 a j) → (∀ g : dH, (∀ j, j < 8 → g 5 j = h0 11 j ∧ g 6 j = h0 12 j) → (∀ a j, ¬ a = 5 → ¬ a = 6 → g a j = h0 a j) → Al (k g) P) → Al (l_X7_back_13 k n v1 h) P
  | 0, _, _, _, _, _, _, _ => al_none
  | n + 1, v1, h, p0, p1, h1, h2, K => by
    rw [l_X7_back_13]
    have t := inc1 (v := v1) (by omega)
    refine al_ite (fun c1 => al_ite (fun _ => al_ite (fun _ => al_oH' (fun g hg => al_ite (fun _ => al_ite (fun _ => al_oH' (fun g' hg' => ?_)) (fun _ => al_none)) (fun _ => al_none))) (fun _ => al_none)) (fun _ => al_none)) (fun c1 => K h (fun j hj => h1 j (by omega)) h2)
    refine back_13 n (v1 + 1) g' (by omega) (by omega) (fun j hj => ?_) (fun a j q r => by rw [hg', dU_ne (by omega), hg, dU_ne (by omega)]; exact h2 a j q r) K
    by_cases e : j = v1.toInt.toNat
    · refine ⟨?_, ?_⟩
      · rw [e, hg', dU_ne (by omega), hg, dU_eq]; exact h2 _ _ (by omega) (by omega)
      · rw [e, hg', dU_eq, hg, dU_ne (by omega)]; exact h2 _ _ (by omega) (by omega)
    · rw [hg', dU_ne (by omega), dU_ne (by omega), hg, dU_ne (by omega), dU_ne (by omega)]; exact h1 j (by omega)
theorem back_51 {h0 : dH} {k : dH → Option (Int32 × dH)} {P : Int32 × dH → Prop} : ∀ (n : Nat) (v1 : Int32) (h : dH), 0 ≤ v1.toInt → v1.toInt ≤ 64 → (∀ j, j < v1.toInt.toNat → h 7 j = h0 13 j) → (∀ a j, ¬ a = 7 → h a j = h0 a j) → (∀ g : dH, (∀ j, j < 64 → g 7 j = h0 13 j) → (∀ a j, ¬ a = 7 → g a j = h0 a j) → Al (k g) P) → Al (l_X7_back_51 k n v1 h) P
  | 0, _, _, _, _, _, _, _ => al_none
  | n + 1, v1, h, p0, p1, h1, h2, K => by
    rw [l_X7_back_51]
    have t := inc1 (v := v1) (by omega)
    refine al_ite (fun c1 => al_ite (fun _ => al_ite (fun _ => al_oH' (fun g hg => ?_)) (fun _ => al_none)) (fun _ => al_none)) (fun c1 => K h (fun j hj => h1 j (by omega)) h2)
    refine back_51 n (v1 + 1) g (by omega) (by omega) (fun j hj => ?_) (fun a j q => by rw [hg, dU_ne (by omega)]; exact h2 a j q) K
    by_cases e : j = v1.toInt.toNat
    · rw [e, hg, dU_eq]; exact h2 _ _ (by omega)
    · rw [hg, dU_ne (by omega)]; exact h1 j (by omega)
theorem strR.copy {a c : Nat} {yr lm ct rl : Int32} {kd nb tb sg : Nat → Int32} {tc : Int} {g h : dH} (q : strR c yr lm ct rl kd nb tb sg tc h) (b : becQ a c g h) : strR a yr lm ct rl kd nb tb sg tc g := by
  obtain ⟨q1, q2, q3, q4, q5, q6, q7, q8, q9, q10, q11⟩ := q
  obtain ⟨b0, b1, b2, b3, b4, b5, -⟩ := b
  unfold strR
  rw [b0, b1, b2, b3]
  refine ⟨q1, q2, q3, q4, fun i hi => ?_, fun i j hi hj => ?_, q7, q8, fun i hi => ?_, ⟨fun i j hi hj => ?_, fun i hi => ?_⟩, fun i j hi hj hz => ?_⟩
  · obtain ⟨x1, x2, x3⟩ := b4 i (by omega)
    rw [x1, x2, x3]; exact q5 i hi
  · rw [b5 i j (by omega) (by omega)]; exact q6 i j hi hj
  · obtain ⟨x1, x2, x3⟩ := b4 i (by omega)
    rw [x1, x2, x3]; exact q9 i hi
  · unfold stOf
    rw [b5 i j (by omega) (by omega), b5 j i (by omega) (by omega)]; exact q10.1 i j hi hj
  · unfold stOf
    rw [b5 i i (by omega) (by omega)]; exact q10.2 i hi
  · rw [b5 i j hi hj]; exact q11 i j hi hj hz
theorem op_image {hC hM : dH} (q : RR hC hM) : Op2 (f_X6_image hC) (f_X7_image hM) := by
  obtain ⟨q1, q2, q3, q4, q5, q6⟩ := id q
  unfold Op2 f_X6_image
  refine al_oV' (fun g1 h1 => al_oH' (fun g hg => al_some ?_))
  have b := become_ok (Or.inr (Or.inr rfl)) (Or.inl rfl) (by decide) hC g1 h1
  have bf := b.2.2.2.2.2.2
  have e : ∀ a k, ¬ (71 ≤ a ∧ a ≤ 83) → ¬ (a = 0 ∧ k = 7) → g a k = hC a k := fun a k x y => by rw [hg, dU_ne y]; exact bf a k (by omega)
  have e1 : ∀ a k, ¬ (a = 0 ∧ k = 7) → g a k = g1 a k := fun a k y => by rw [hg, dU_ne y]
  have g7 : g 0 7 = 1 := by rw [hg]; exact dU_eq
  have sC : strR 71 (hM 0 7) (hM 0 8) (hM 0 13) (hM 0 4) (hM 4) (hM 5) (hM 6) (hM 7) (hC 0 3).toInt g := by
    have w : strR 71 (hM 0 7) (hM 0 8) (hM 0 13) (hM 0 4) (hM 4) (hM 5) (hM 6) (hM 7) (hC 0 3).toInt g1 := strR.copy q1 b
    exact w.same (fun b k hb => e1 b k (by omega)) rfl rfl rfl rfl (fun _ _ => ⟨rfl, rfl, rfl⟩) (fun _ _ => rfl) (Int.le_refl _)
  have c71 : g 71 2 = g 43 2 := by rw [e1 71 2 (by omega), b.2.2.1, e 43 2 (by omega) (by omega)]
  unfold f_X7_image
  refine image_2 (h0 := hM) _ 0 hM (by decide) (by decide) (fun j hj => by rw [ti0] at hj; omega) (fun _ _ _ _ => rfl) (fun g10 i1 i2 => ?_)
  refine image_40 (h0 := g10) _ 0 g10 (by decide) (by decide) (fun j hj => by rw [ti0] at hj; omega) (fun _ _ _ => rfl) (fun g17 i3 i4 => ?_)
  refine al_oH' (fun g18 j1 => al_oH' (fun g19 j2 => al_oH' (fun g20 j3 => al_oH' (fun gm j4 => al_some ?_))))
  have m17 : ∀ a k, ¬ a = 11 → ¬ a = 12 → ¬ a = 13 → g17 a k = hM a k := fun a k x y z => by rw [i4 a k z, i2 a k x y]
  have mm : ∀ a k, ¬ (a = 0 ∧ 39 ≤ k ∧ k ≤ 42) → gm a k = g17 a k := fun a k x => by rw [j4, dU_ne (by omega), j3, dU_ne (by omega), j2, dU_ne (by omega), j1, dU_ne (by omega)]
  have m : ∀ a k, ¬ (a = 0 ∧ 39 ≤ k ∧ k ≤ 42) → ¬ (11 ≤ a ∧ a ≤ 13) → gm a k = hM a k := fun a k x y => (mm a k x).trans (m17 a k (by omega) (by omega) (by omega))
  have k39 : gm 0 39 = hM 0 13 := by rw [j4, dU_ne (by omega), j3, dU_ne (by omega), j2, dU_ne (by omega), j1, dU_eq]; exact m17 0 13 (by omega) (by omega) (by omega)
  have k40 : gm 0 40 = hM 0 7 := by rw [j4, dU_ne (by omega), j3, dU_ne (by omega), j2, dU_eq, j1, dU_ne (by omega)]; exact m17 0 7 (by omega) (by omega) (by omega)
  have k41 : gm 0 41 = hM 0 8 := by rw [j4, dU_ne (by omega), j3, dU_eq, j2, dU_ne (by omega), j1, dU_ne (by omega)]; exact m17 0 8 (by omega) (by omega) (by omega)
  have k42 : gm 0 42 = hM 0 4 := by rw [j4, dU_eq, j3, dU_ne (by omega), j2, dU_ne (by omega), j1, dU_ne (by omega)]; exact m17 0 4 (by omega) (by omega) (by omega)
  have k11 : ∀ i, i < 8 → gm 11 i = hM 5 i ∧ gm 12 i = hM 6 i := fun i hi => by
    rw [mm 11 i (by omega), mm 12 i (by omega), i4 11 i (by omega), i4 12 i (by omega)]
    exact i1 i hi
  have k13 : ∀ i, i < 64 → gm 13 i = hM 7 i := fun i hi => by
    rw [mm 13 i (by omega), i3 i hi]
    exact i2 7 i (by omega) (by omega)
  refine ⟨?_, ?_, Or.inr ⟨?_, ?_, ?_⟩, q3.same (fun a k x => e a k (by omega) (by omega)) (fun a k x => m a k (by omega) (by omega)), q4.same (fun a k x => e a k (by omega) (by omega)) (fun a k x => m a k (by omega) (by omega)), fun s hs => (q5 s hs).same hs (fun a k x => e a k (by omega) (by omega)) (fun a k x => m a k (by omega) (by omega)), ?_⟩
  · show g 43 2 = gm 0 13
    rw [e 43 2 (by omega) (by omega), m 0 13 (by omega) (by omega)]
    exact q1.2.2.1
  · show nowR g gm
    unfold nowR at q1 ⊢
    rw [e 0 3 (by omega) (by omega)]
    exact q1.same (fun b k hb => e b k (by omega) (by omega)) (m 0 7 (by omega) (by omega)) (m 0 8 (by omega) (by omega)) (m 0 13 (by omega) (by omega)) (m 0 4 (by omega) (by omega)) (fun i hi => ⟨m 4 i (by omega) (by omega), m 5 i (by omega) (by omega), m 6 i (by omega) (by omega)⟩) (fun i hi => m 7 i (by omega) (by omega)) (Int.le_refl _)
  · show ¬ (g 0 7).toInt = 0
    rw [g7]; decide
  · show strR 71 (gm 0 40) (gm 0 41) (gm 0 39) (gm 0 42) (gm 4) (gm 11) (gm 12) (gm 13) (g 0 3).toInt g
    rw [e 0 3 (by omega) (by omega)]
    exact sC.same (fun _ _ _ => rfl) k40 k41 k39 k42 (fun i hi => ⟨m 4 i (by omega) (by omega), (k11 i hi).1, (k11 i hi).2⟩) (fun i hi => k13 i hi) (Int.le_refl _)
  · show (g 71 2).toInt ≤ (g 43 2).toInt
    rw [c71]; exact Int.le_refl _
  · show mNo gm
    unfold mNo at q6 ⊢
    rw [m 0 29 (by omega) (by omega), m 0 30 (by omega) (by omega), m 0 31 (by omega) (by omega)]
    exact q6
theorem op_back {hC hM : dH} (q : RR hC hM) : Op2 (f_X6_back hC) (f_X7_back hM) := by
  obtain ⟨q1, q2, q3, q4, q5, q6⟩ := id q
  have neg1 : (-1 : Int32).toInt = -1 := by decide
  unfold Op2 f_X6_back f_X7_back
  rcases q2 with ⟨z1, z2⟩ | ⟨z1, z2, z3⟩
  · exact al_ite (fun _ => al_some (al_ite (fun _ => al_some ⟨rfl, q⟩) (fun z => absurd z2 z))) (fun z => absurd z1 z)
  have c39 : hC 71 2 = hM 0 39 := z2.2.2.1
  have p39 := z2.2.2.2.1
  rw [c39] at p39
  refine al_ite (fun z => absurd z z1) (fun _ => al_oV' (fun g hg => al_some (al_ite (fun z => by omega) (fun _ => ?_))))
  have b := become_ok (Or.inl rfl) (Or.inr (Or.inr rfl)) (by decide) hC g hg
  have e : ∀ a k, ¬ (43 ≤ a ∧ a ≤ 55) → g a k = hC a k := fun a k x => b.2.2.2.2.2.2 a k (by omega)
  have sC : strR 43 (hM 0 40) (hM 0 41) (hM 0 39) (hM 0 42) (hM 4) (hM 11) (hM 12) (hM 13) (hC 0 3).toInt g := strR.copy z2 b
  refine back_13 (h0 := hM) _ 0 hM (by decide) (by decide) (fun j hj => by rw [ti0] at hj; omega) (fun _ _ _ _ => rfl) (fun g10 i1 i2 => ?_)
  refine back_51 (h0 := g10) _ 0 g10 (by decide) (by decide) (fun j hj => by rw [ti0] at hj; omega) (fun _ _ _ => rfl) (fun g17 i3 i4 => ?_)
  refine al_oH' (fun g18 j1 => al_oH' (fun g19 j2 => al_oH' (fun g20 j3 => al_oH' (fun gm j4 => al_some ?_))))
  have m17 : ∀ a k, ¬ a = 5 → ¬ a = 6 → ¬ a = 7 → g17 a k = hM a k := fun a k x y z => by rw [i4 a k z, i2 a k x y]
  have mm : ∀ a k, ¬ (a = 0 ∧ (k = 4 ∨ k = 7 ∨ k = 8 ∨ k = 13)) → gm a k = g17 a k := fun a k x => by rw [j4, dU_ne (by omega), j3, dU_ne (by omega), j2, dU_ne (by omega), j1, dU_ne (by omega)]
  have m : ∀ a k, ¬ (a = 0 ∧ (k = 4 ∨ k = 7 ∨ k = 8 ∨ k = 13)) → ¬ (5 ≤ a ∧ a ≤ 7) → gm a k = hM a k := fun a k x y => (mm a k x).trans (m17 a k (by omega) (by omega) (by omega))
  have k39 : gm 0 13 = hM 0 39 := by rw [j4, dU_ne (by omega), j3, dU_ne (by omega), j2, dU_ne (by omega), j1, dU_eq]; exact m17 0 39 (by omega) (by omega) (by omega)
  have k40 : gm 0 7 = hM 0 40 := by rw [j4, dU_ne (by omega), j3, dU_ne (by omega), j2, dU_eq, j1, dU_ne (by omega)]; exact m17 0 40 (by omega) (by omega) (by omega)
  have k41 : gm 0 8 = hM 0 41 := by rw [j4, dU_ne (by omega), j3, dU_eq, j2, dU_ne (by omega), j1, dU_ne (by omega)]; exact m17 0 41 (by omega) (by omega) (by omega)
  have k42 : gm 0 4 = hM 0 42 := by rw [j4, dU_eq, j3, dU_ne (by omega), j2, dU_ne (by omega), j1, dU_ne (by omega)]; exact m17 0 42 (by omega) (by omega) (by omega)
  have k11 : ∀ i, i < 8 → gm 5 i = hM 11 i ∧ gm 6 i = hM 12 i := fun i hi => by
    rw [mm 5 i (by omega), mm 6 i (by omega), i4 5 i (by omega), i4 6 i (by omega)]
    exact i1 i hi
  have k13 : ∀ i, i < 64 → gm 7 i = hM 13 i := fun i hi => by
    rw [mm 7 i (by omega), i3 i hi]
    exact i2 13 i (by omega) (by omega)
  refine ⟨?_, ?_, Or.inr ⟨?_, ?_, ?_⟩, q3.same (fun a k x => e a k (by omega)) (fun a k x => m a k (by omega) (by omega)), q4.same (fun a k x => e a k (by omega)) (fun a k x => m a k (by omega) (by omega)), fun s hs => (q5 s hs).same hs (fun a k x => e a k (by omega)) (fun a k x => m a k (by omega) (by omega)), ?_⟩
  · show g 43 2 = gm 0 13
    rw [b.2.2.1, k39]; exact c39
  · show strR 43 (gm 0 7) (gm 0 8) (gm 0 13) (gm 0 4) (gm 4) (gm 5) (gm 6) (gm 7) (g 0 3).toInt g
    rw [e 0 3 (by omega)]
    exact sC.same (fun _ _ _ => rfl) k40 k41 k39 k42 (fun i hi => ⟨m 4 i (by omega) (by omega), (k11 i hi).1, (k11 i hi).2⟩) (fun i hi => k13 i hi) (Int.le_refl _)
  · show ¬ (g 0 7).toInt = 0
    rw [e 0 7 (by omega)]; exact z1
  · show strR 71 (gm 0 40) (gm 0 41) (gm 0 39) (gm 0 42) (gm 4) (gm 11) (gm 12) (gm 13) (g 0 3).toInt g
    rw [e 0 3 (by omega)]
    exact z2.same (fun b k hb => e b k (by omega)) (m 0 40 (by omega) (by omega)) (m 0 41 (by omega) (by omega)) (m 0 39 (by omega) (by omega)) (m 0 42 (by omega) (by omega)) (fun i hi => ⟨m 4 i (by omega) (by omega), m 11 i (by omega) (by omega), m 12 i (by omega) (by omega)⟩) (fun i hi => m 13 i (by omega) (by omega)) (Int.le_refl _)
  · show (g 71 2).toInt ≤ (g 43 2).toInt
    rw [b.2.2.1, e 71 2 (by omega)]; exact Int.le_refl _
  · show mNo gm
    unfold mNo at q6 ⊢
    rw [m 0 29 (by omega) (by omega), m 0 30 (by omega) (by omega), m 0 31 (by omega) (by omega)]
    exact q6
end
