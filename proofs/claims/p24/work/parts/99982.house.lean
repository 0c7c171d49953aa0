/-! houses: on both sides -/
noncomputable section
theorem bindsRaw_ok {h : dH} {v1 v2 v3 : Int32} {i j : Nat} (h1 : v1.toInt = i) (h2 : v2.toInt = j) (hi : i < 8) (hj : j < 8) : Al (f_X7_binds v1 v2 v3 h) (fun g => g 7 (8 * i + j) = w99 v3 ∧ g 7 (8 * j + i) = w99 v3 ∧ ∀ a k, ¬ (a = 7 ∧ (k = 8 * i + j ∨ k = 8 * j + i)) → g a k = h a k) := by
  unfold f_X7_binds
  obtain ⟨-, e1⟩ := ix8 h1 h2 (by omega) (by omega)
  obtain ⟨-, e2⟩ := ix8 h2 h1 (by omega) (by omega)
  rw [e1, e2]
  refine al_oP (fun r1 hr => al_ite (fun _ => al_oH' (fun g2 q2 => al_ite (fun _ => al_oH' (fun g q4 => al_some ?_)) (fun _ => al_none))) (fun _ => al_none))
  have er := within99 r1 hr
  subst er
  refine ⟨?_, by rw [q4]; exact dU_eq, fun a k x => by rw [q4, dU_ne (by omega), q2, dU_ne (by omega)]⟩
  rw [q4]
  by_cases c : 8 * i + j = 8 * j + i
  · rw [c]; exact dU_eq
  · rw [dU_ne (by omega), q2]; exact dU_eq
theorem house_71 {h0 : dH} {N : Nat} (hN : (h0 0 13).toInt = N) (hN8 : N < 8) {k : dH → Option (Int32 × dH)} {P : Int32 × dH → Prop} (K : ∀ g : dH, (∀ a k, ¬ a = 7 → g a k = h0 a k) → (∀ i j : Nat, i < 8 → j < 8 → i = N ∨ j = N → g 7 (8 * i + j) = 0) → (∀ i j : Nat, i < 8 → j < 8 → ¬ i = N → ¬ j = N → g 7 (8 * i + j) = h0 7 (8 * i + j)) → Al (k g) P) : ∀ (n : Nat) (v3 : Int32) (h : dH), 0 ≤ v3.toInt → v3.toInt ≤ 8 → (∀ a k, ¬ a = 7 → h a k = h0 a k) → (∀ i j : Nat, i < 8 → j < 8 → (i = N ∧ (j : Int) < v3.toInt) ∨ (j = N ∧ (i : Int) < v3.toInt) → h 7 (8 * i + j) = 0) → (∀ i j : Nat, i < 8 → j < 8 → ¬ i = N → ¬ j = N → h 7 (8 * i + j) = h0 7 (8 * i + j)) → Al (l_X7_house_71 k n v3 h) P
  | 0, _, _, _, _, _, _, _ => al_none
  | n + 1, v3, h, p0, p1, H, Z, E => by
    rw [l_X7_house_71]
    refine al_ite (fun c => al_oV' (fun g hg => ?_)) (fun c => K h H (fun i j hi hj x => Z i j hi hj (by omega)) E)
    have h13 : h 0 13 = h0 0 13 := H 0 13 (by omega)
    rw [h13] at hg
    obtain ⟨x1, x2, x3⟩ := bindsRaw_ok (i := N) (j := v3.toInt.toNat) hN (by omega) (by omega) (by omega) g hg
    rw [w99_id (v := 0) (by decide)] at x1 x2
    have i1 := inc1 (v := v3) (by omega)
    refine house_71 hN hN8 K n (v3 + 1) g (by omega) (by omega) (fun a k x => by rw [x3 a k (by omega)]; exact H a k x) (fun i j hi hj x => ?_) (fun i j hi hj x y => ?_)
    · rw [i1] at x
      by_cases c1 : 8 * i + j = 8 * N + v3.toInt.toNat
      · rw [c1]; exact x1
      · by_cases c2 : 8 * i + j = 8 * v3.toInt.toNat + N
        · rw [c2]; exact x2
        · rw [x3 7 _ (by omega)]
          exact Z i j hi hj (by omega)
    · rw [x3 7 _ (by omega)]
      exact E i j hi hj x y
def OpH (t u : Option (Int32 × dH)) (hC hM : dH) : Prop := Al t (fun o => Al u (fun o2 => o.1 = o2.1 ∧ RR o.2 o2.2 ∧ (∀ a k, 34 ≤ a → a ≤ 41 → o.2 a k = hC a k) ∧ ∀ a k, 14 ≤ a → a ≤ 17 → o2.2 a k = hM a k))
theorem settles {hC hM : dH} (q : RR hC hM) (v1 v2 : Int32) : OpH (f_X6_settle v1 v2 hC) (f_X7_house v1 v2 hM) hC hM := by
  obtain ⟨w1, w2, w3, w4, w5, w6, w7, w8, w9, w10, w11⟩ := id q.1
  have l0 := L0
  have l5 := L5
  have l9 := L9
  unfold OpH f_X6_settle
  have bad : (v1.toInt < 0 ∨ 5 < v1.toInt ∨ v2.toInt < 0 ∨ 9 < v2.toInt) → Al (f_X7_house v1 v2 hM) (fun o2 => (-2 : Int32) = o2.1 ∧ RR hC o2.2 ∧ (∀ a k, 34 ≤ a → a ≤ 41 → hC a k = hC a k) ∧ ∀ a k, 14 ≤ a → a ≤ 17 → o2.2 a k = hM a k) := fun z => al_in (fun r qr => al_ite (fun _ => al_some ⟨rfl, q, fun _ _ _ _ => rfl, fun _ _ _ _ => rfl⟩) (fun z2 => al_in (fun r qr => al_ite (fun _ => al_some ⟨rfl, q, fun _ _ _ _ => rfl, fun _ _ _ _ => rfl⟩) (fun z3 => by omega))))
  refine al_ite (fun c => al_some (bad (by omega))) (fun c => al_ite (fun c2 => al_ite (fun d => al_some (bad (by omega))) (fun d => al_ite (fun d2 => al_ite (fun e => al_oV' (fun g hg => al_some ?_)) (fun e => al_some ?_)) (fun d2 => al_some (bad (by omega))))) (fun c2 => al_some (bad (by omega))))
  · have A : Al (f_X3_add 43 v1 v2 hC) (fun g => g 44 (hC 43 2).toInt.toNat = v1 ∧ g 45 (hC 43 2).toInt.toNat = v2 ∧ g 46 (hC 43 2).toInt.toNat = -1 ∧ g 43 2 = hC 43 2 + 1 ∧ ∀ a k, ¬ (a = 43 ∧ k = 2) → ¬ (44 ≤ a ∧ a ≤ 46 ∧ k = (hC 43 2).toInt.toNat) → g a k = hC a k) := by
      unfold f_X3_add
      refine al_ite (fun _ => al_ite (fun _ => al_oH' (fun g3 q3 => ?_)) (fun _ => al_none)) (fun z => absurd e z)
      have e3 : g3 43 2 = hC 43 2 := by rw [q3]; exact dU_ne (by omega)
      rw [e3]
      refine al_ite (fun _ => al_oH' (fun g5 q5 => ?_)) (fun _ => al_none)
      have e5 : g5 43 2 = hC 43 2 := by rw [q5, dU_ne (by omega)]; exact e3
      rw [e5]
      refine al_ite (fun _ => al_oH' (fun g7 q7 => ?_)) (fun _ => al_none)
      have e7 : g7 43 2 = hC 43 2 := by rw [q7, dU_ne (by omega)]; exact e5
      rw [e7]
      refine al_oH' (fun g q9 => al_some ⟨?_, ?_, ?_, ?_, fun a k x y => ?_⟩)
      · rw [q9, dU_ne (by omega), q7, dU_ne (by omega), q5, dU_ne (by omega), q3]; exact dU_eq
      · rw [q9, dU_ne (by omega), q7, dU_ne (by omega), q5]; exact dU_eq
      · rw [q9, dU_ne (by omega), q7]; exact dU_eq
      · rw [q9]; exact dU_eq
      · rw [q9, dU_ne (by omega), q7, dU_ne (by omega), q5, dU_ne (by omega), q3, dU_ne (by omega)]
    obtain ⟨a1, a2, a3, a4, a5⟩ := A g hg
    refine al_in (fun r qr => al_ite (fun z => by omega) (fun z => al_in (fun r2 qr2 => al_ite (fun z => by omega) (fun z2 => ?_))))
    rw [← w3]
    refine al_ite (fun z => by omega) (fun _ => al_ite (fun _ => al_oH' (fun g9 q9 => ?_)) (fun _ => al_none))
    have e9 : g9 0 13 = hC 43 2 := by rw [q9, dU_ne (by omega)]; exact w3.symm
    rw [e9]
    refine al_ite (fun _ => al_oH' (fun g11 q11 => ?_)) (fun _ => al_none)
    have e11 : g11 0 13 = hC 43 2 := by rw [q11, dU_ne (by omega)]; exact e9
    rw [e11]
    refine al_ite (fun _ => al_oH' (fun g13 q13 => ?_)) (fun _ => al_none)
    have e13 : g13 0 13 = hC 43 2 := by rw [q13, dU_ne (by omega)]; exact e11
    have b4 : g13 4 (hC 43 2).toInt.toNat = v1 := by rw [q13, dU_ne (by omega), q11, dU_ne (by omega), q9]; exact dU_eq
    have b5 : g13 5 (hC 43 2).toInt.toNat = v2 := by rw [q13, dU_ne (by omega), q11]; exact dU_eq
    have b6 : g13 6 (hC 43 2).toInt.toNat = -1 := by rw [q13]; exact dU_eq
    have bb : ∀ a k, ¬ (4 ≤ a ∧ a ≤ 6 ∧ k = (hC 43 2).toInt.toNat) → g13 a k = hM a k := fun a k x => by rw [q13, dU_ne (by omega), q11, dU_ne (by omega), q9, dU_ne (by omega)]
    refine house_71 (h0 := g13) (N := (hC 43 2).toInt.toNat) (by rw [e13]; omega) (by omega) (fun g19 r1 r2 r3 => ?_) _ 0 g13 (by decide) (by decide) (fun _ _ _ => rfl) (fun i j _ _ x => by rw [ti0] at x; omega) (fun _ _ _ _ _ _ => rfl)
    have e19 : g19 0 13 = hC 43 2 := by rw [r1 0 13 (by omega)]; exact e13
    rw [e19]
    refine al_oH' (fun gm hgm => al_some ?_)
    have em : gm 0 13 = hC 43 2 + 1 := by rw [hgm]; exact dU_eq
    have mm : ∀ a k, ¬ (a = 0 ∧ k = 13) → gm a k = g19 a k := fun a k x => by rw [hgm]; exact dU_ne x
    have m : ∀ a k, ¬ (a = 0 ∧ k = 13) → ¬ a = 7 → ¬ (4 ≤ a ∧ a ≤ 6 ∧ k = (hC 43 2).toInt.toNat) → gm a k = hM a k := fun a k x y z => by rw [mm a k x, r1 a k y, bb a k z]
    have m4 : gm 4 (hC 43 2).toInt.toNat = v1 := by rw [mm 4 _ (by omega), r1 4 _ (by omega)]; exact b4
    have m5 : gm 5 (hC 43 2).toInt.toNat = v2 := by rw [mm 5 _ (by omega), r1 5 _ (by omega)]; exact b5
    have m6 : gm 6 (hC 43 2).toInt.toNat = -1 := by rw [mm 6 _ (by omega), r1 6 _ (by omega)]; exact b6
    have i1 := inc1 (v := hC 43 2) (by omega)
    have neg1 : (-1 : Int32).toInt = -1 := by decide
    refine ⟨?_, ?_, fun a k x y => a5 a k (by omega) (by omega), fun a k x y => m a k (by omega) (by omega) (by omega)⟩
    · show g 43 2 - 1 = gm 0 13 - 1
      rw [a4, em]
    · show RR g gm
      refine q.upd ?_ (fun a k x => a5 a k (by omega) (by omega)) (fun a k x => m a k (by omega) (by omega) (by omega)) (fun z k hk => m 4 k (by omega) (by omega) ?_) (by rw [a4]; omega)
      · have n1 : (g 43 2).toInt.toNat = (hC 43 2).toInt.toNat + 1 := by rw [a4]; omega
        unfold nowR strR
        rw [n1, em, a4, a5 43 0 (by omega) (by omega), a5 43 1 (by omega) (by omega), a5 43 3 (by omega) (by omega), a5 0 3 (by omega) (by omega), m 0 7 (by omega) (by omega) (by omega), m 0 8 (by omega) (by omega) (by omega), m 0 4 (by omega) (by omega) (by omega)]
        refine ⟨w1, w2, rfl, by omega, fun i hi => ?_, fun i j hi hj => ?_, w7, w8, fun i hi => ?_, ⟨fun i j hi hj => ?_, fun i hi => ?_⟩, fun i j hi hj hz => ?_⟩
        · by_cases ei : i = (hC 43 2).toInt.toNat
          · rw [ei]; exact ⟨a1.trans m4.symm, a2.trans m5.symm, a3.trans m6.symm⟩
          · rw [a5 _ i (by omega) (by omega), a5 _ i (by omega) (by omega), a5 _ i (by omega) (by omega), m 4 i (by omega) (by omega) (by omega), m 5 i (by omega) (by omega) (by omega), m 6 i (by omega) (by omega) (by omega)]
            exact w5 i (by omega)
        · rw [a5 _ j (by omega) (by omega), mm 7 _ (by omega)]
          by_cases c : i = (hC 43 2).toInt.toNat ∨ j = (hC 43 2).toInt.toNat
          · rw [r2 i j (by omega) (by omega) c]
            exact w11 i j (by omega) (by omega) (by omega)
          · rw [r3 i j (by omega) (by omega) (by omega) (by omega), bb 7 _ (by omega)]
            exact w6 i j (by omega) (by omega)
        · by_cases ei : i = (hC 43 2).toInt.toNat
          · have y1 : g (43 + 1) i = v1 := by rw [ei]; exact a1
            have y2 : g (43 + 2) i = v2 := by rw [ei]; exact a2
            have y3 : g (43 + 3) i = -1 := by rw [ei]; exact a3
            rw [y1, y2, y3, neg1]
            omega
          · rw [a5 _ i (by omega) (by omega), a5 _ i (by omega) (by omega), a5 _ i (by omega) (by omega)]
            exact w9 i (by omega)
        · unfold stOf
          rw [a5 _ j (by omega) (by omega), a5 _ i (by omega) (by omega)]
          by_cases c : i = (hC 43 2).toInt.toNat ∨ j = (hC 43 2).toInt.toNat
          · rw [w11 i j (by omega) (by omega) (by omega), w11 j i (by omega) (by omega) (by omega)]
            decide
          · exact w10.1 i j (by omega) (by omega)
        · unfold stOf
          rw [a5 _ i (by omega) (by omega)]
          by_cases c : i = (hC 43 2).toInt.toNat
          · exact w11 i i (by omega) (by omega) (by omega)
          · exact w10.2 i (by omega)
        · rw [a5 _ j (by omega) (by omega)]
          exact w11 i j hi hj (by omega)
      · rcases q.2.1 with z2 | ⟨-, -, z2⟩
        · exact absurd z2.1 z
        · omega
  · refine al_in (fun r qr => al_ite (fun z => by omega) (fun z => al_in (fun r2 qr2 => al_ite (fun z => by omega) (fun z2 => ?_))))
    rw [← w3]
    exact al_ite (fun _ => al_some ⟨rfl, q, fun _ _ _ _ => rfl, fun _ _ _ _ => rfl⟩) (fun z => by omega)
theorem op_house {hC hM : dH} (q : RR hC hM) (v1 v2 : Int32) : Op2 (f_X6_house v1 v2 hC) (f_X7_house v1 v2 hM) := by
  unfold Op2 f_X6_house
  refine al_oI (fun r g hr => al_some ?_)
  intro o2 h2
  obtain ⟨x1, x2, -⟩ := settles q v1 v2 (r, g) hr o2 h2
  exact ⟨x1, x2⟩
end
