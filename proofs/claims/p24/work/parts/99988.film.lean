/-! films: on both sides -/
noncomputable section
theorem i8_99 {x : Int32} (h : 0 ≤ x.toInt ∧ x.toInt ≤ 99) : x.toInt8.toInt32 = x := by
  apply Int32.toInt_inj.mp
  rw [Int8.toInt_toInt32, Int32.toInt_toInt8]
  rw [Int.bmod_def, show ((2 ^ 8 : Nat) : Int) = 256 from rfl, Int.emod_eq_of_lt (by omega) (by omega), if_pos (by omega)]
theorem SM.e {Y : zY} {y : Int32} {st : zT2} {g h : dH} (H : SM Y y st h) (e : ∀ a k, a ≤ 7 → ¬ (a = 0 ∧ 14 ≤ k ∧ k ≤ 42) → g a k = h a k) : SM Y y st g := by
  obtain ⟨h0, h1', h2', h3, h4, h5, h6⟩ := H
  refine ⟨by rw [e 0 7 (by omega) (by omega)]; exact h0, by rw [e 0 8 (by omega) (by omega)]; exact h1', by rw [e 0 13 (by omega) (by omega)]; exact h2', h3, fun p hp => ?_, fun p q hp hq => ?_, h6.same (fun k => e 1 k (by omega) (by omega)) (fun k => e 2 k (by omega) (by omega)) (e 0 4 (by omega) (by omega))⟩
  · rw [e 4 p (by omega) (by omega), e 5 p (by omega) (by omega), e 6 p (by omega) (by omega)]; exact h4 p hp
  · rw [e 7 _ (by omega) (by omega)]; exact h5 p q hp hq
theorem film_58 {s N : Nat} {F : Nat → Int32} {h0 : dH} {v2 : Int32} (hs : s < 4) (hN : (h0 43 2).toInt = N) (hN8 : N ≤ 8) (hv : 0 ≤ v2.toInt ∧ v2.toInt < N) (hz : (h0 (34 + 2 * s) 0).toInt = 0) (hF : ∀ j, j < N → h0 (62 + v2.toInt.toNat) j = F j ∧ 0 ≤ (F j).toInt ∧ (F j).toInt ≤ 99) : ∀ (n : Nat) (v4 : Int32) (h : dH), 0 ≤ v4.toInt → v4.toInt ≤ N → (∀ j, j < v4.toInt.toNat → h (34 + 2 * s + 1) j = F j) → (∀ b k, ¬ b = 34 + 2 * s + 1 → h b k = h0 b k) → Al (l_X6_film_58 v2 (34 + 2 * s) (fun g17 => some (g17 43 2, g17)) n v4 h) (fun o => o.1 = h0 43 2 ∧ (∀ j, j < N → o.2 (34 + 2 * s + 1) j = F j) ∧ ∀ b k, ¬ b = 34 + 2 * s + 1 → o.2 b k = h0 b k)
  | 0, _, _, _, _, _, _ => al_none
  | n + 1, v4, h, p0, p1, h1, h2 => by
    rw [l_X6_film_58, h2 43 2 (by omega)]
    have t := inc1 (v := v4) (by omega)
    refine al_ite (fun c => al_ite (fun _ => al_ite (fun _ => al_oV' (fun g hg => ?_)) (fun _ => al_none)) (fun _ => al_none)) (fun c => al_some ⟨rfl, fun j hj => h1 j (by omega), h2⟩)
    obtain ⟨-, -, x, x2, -, -, x5⟩ := put_ok g hg
    rw [h2 _ 0 (by omega), h2 (57 + 5 + v2.toInt.toNat) _ (by omega)] at x2
    have e := hF v4.toInt.toNat (by omega)
    have x2' := x2 hz
    rw [show 57 + 5 + v2.toInt.toNat = 62 + v2.toInt.toNat by omega, e.1, i8_99 e.2] at x2'
    refine film_58 hs hN hN8 hv hz hF n (v4 + 1) g (by omega) (by omega) (fun j hj => ?_) (fun b k z => by rw [x5, dU_ne (fun w => z w.1)]; exact h2 b k z)
    by_cases d : j = v4.toInt.toNat
    · rw [d, x5, dU_eq]; exact x2'
    · rw [x5, dU_ne (fun w => d w.2)]; exact h1 j (by omega)
theorem film_39 {s i N : Nat} {F : Nat → Int32} {h0 : dH} {v1 v2 : Int32} {k : dH → Option (Int32 × dH)} {P : Int32 × dH → Prop} (hs : v1.toInt = s) (hs4 : s < 4) (hi : v2.toInt = i) (hi8 : i < 8) (hN : (h0 0 13).toInt = N) (hN8 : N ≤ 8) (hF : ∀ j, j < N → h0 7 (8 * i + j) = F j) (K : ∀ g : dH, (∀ j, j < N → g 17 (40 * s + j) = F j) → (∀ b k, ¬ (b = 17 ∧ 40 * s ≤ k ∧ k < 40 * s + 40) → g b k = h0 b k) → Al (k g) P) : ∀ (n : Nat) (v3 : Int32) (h : dH), 0 ≤ v3.toInt → v3.toInt ≤ N → (∀ j, j < v3.toInt.toNat → h 17 (40 * s + j) = F j) → (∀ b k, ¬ (b = 17 ∧ 40 * s ≤ k ∧ k < 40 * s + 40) → h b k = h0 b k) → Al (l_X7_film_39 v1 v2 k n v3 h) P
  | 0, _, _, _, _, _, _ => al_none
  | n + 1, v3, h, p0, p1, h1, h2 => by
    rw [l_X7_film_39, h2 0 13 (by omega)]
    have t := inc1 (v := v3) (by omega)
    have t40 : (40 : Int32).toInt = 40 := by decide
    have j0 : (40 * v1 : Int32).toInt = 40 * (s : Int) := i_mul t40 hs (by omega) (by omega)
    have j1 : (40 * v1 + v3).toInt = 40 * (s : Int) + v3.toInt := i_add j0 rfl (by omega) (by omega)
    refine al_ite (fun c => al_oP (fun r hr => al_ite (fun _ => al_oH' (fun g hg => ?_)) (fun _ => al_none))) (fun c => K h (fun j hj => h1 j (by omega)) h2)
    have es := strengthOf_ok hi (j := v3.toInt.toNat) (by omega) hi8 (by omega) r hr
    rw [h2 7 _ (by omega), hF _ (by omega)] at es
    rw [j1, show (40 * (s : Int) + v3.toInt).toNat = 40 * s + v3.toInt.toNat by omega, es] at hg
    refine film_39 hs hs4 hi hi8 hN hN8 hF K n (v3 + 1) g (by omega) (by omega) (fun j hj => ?_) (fun b k z => by rw [hg, dU_ne (by omega)]; exact h2 b k z)
    by_cases d : j = v3.toInt.toNat
    · rw [d, hg]; exact dU_eq
    · rw [hg, dU_ne (by omega)]; exact h1 j (by omega)
theorem op_film {hC hM : dH} (q : RR hC hM) (v1 v2 : Int32) : Op2 (f_X6_film v1 v2 hC) (f_X7_film v1 v2 hM) := by
  obtain ⟨C, M, W, R, T⟩ := q.st
  have N8 := M.2.2.2.1
  have M2 := M.2.2.1
  have C2 := C.2.2.1
  unfold Op2 f_X6_film
  refine al_sheet6 (fun r1 q1 => al_ite (fun z => al_some (al_sheet7 (fun r qr => al_ite (fun _ => al_some ⟨rfl, q⟩) (fun z1 => by omega)))) (fun z1 => al_house6 C2 (fun r4 q4 => al_ite (fun z => al_some (al_sheet7 (fun r qr => al_ite (fun w => by omega) (fun _ => al_house7 M2 N8 (fun r5 q5 => al_ite (fun _ => al_some ⟨rfl, q⟩) (fun w => by omega)))))) (fun z4 => al_oV' (fun g7 h7 => al_oV' (fun g8 h8 => al_ite (fun hs => al_oV' (fun g10 h10 => fun o ho => ?_)) (fun _ => al_none)))))))
  have b := become_ok (Or.inr (Or.inl rfl)) (Or.inl rfl) (by decide) hC g7 h7
  have C7 := b.sc (Or.inr (Or.inl rfl)) (Or.inl rfl) C
  obtain ⟨x1, x2, x3⟩ := holdFeast_ok (Or.inr (Or.inl rfl)) R C7 W g8 h8
  have v8 : cV g8 hC := (fFr.v x3 N8).trans b.v
  have L := lay_ok _ _ _ _ g10 h10
  obtain ⟨y1, y2, y3, y4⟩ := L
  have e43 : g8 43 2 = hC 43 2 := v8 43 2 (by omega)
  have e10 : (g10 43 2).toInt = yN (yOf 43 hC) := by rw [y4 43 2 (by omega) (by omega), e43]; exact C2
  have ok := film_58 (s := v1.toInt.toNat) (F := feastS (yOf 43 hC) (hC 43 0) (stOf 43 hC) v2.toInt.toNat) (h0 := g10) (v2 := v2) (by omega) e10 N8 (by omega) (by rw [y1]; decide) (fun j hj => ⟨by rw [y4 _ j (by omega) (by omega)]; exact x1.2.2.2.2.2.1 _ _ (by omega) hj, (x2.1 _ _ (by omega) hj).1, (x2.1 _ _ (by omega) hj).2.1⟩) fuel0 0 g10 (by decide) (by rw [ti0]; omega) (fun j hj => by rw [ti0] at hj; omega) (fun _ _ _ => rfl) o ho
  obtain ⟨o1, o2, o3⟩ := ok
  refine al_sheet7 (fun r qr => al_ite (fun w => by omega) (fun _ => al_house7 M2 N8 (fun r5 q5 => al_ite (fun w => by omega) (fun _ => al_oI (fun r7 k8 hk8 => al_oV' (fun k9 hk9 => al_oV' (fun k10 hk10 => ?_)))))))
  have m13 : hM 0 13 = hC 43 2 := q.1.2.2.1.symm
  have S8 := msheet_ok (h := hM) (P := mlQ v1 0 (hM 0 13) 1 hM) (v1 := v1) (v2 := 0) (v3 := hM 0 13) (fun z => by rw [ti0] at z; omega) (fun _ _ z => by omega) (fun _ z => by rw [ti0] at z; omega) (fun _ _ _ o ho => ho) (r7, k8) hk8
  obtain ⟨s1, s2, s3, s4, s5, s6⟩ := S8
  have s6' : ∀ a k, ¬ (a = 17 ∧ 40 * v1.toInt.toNat ≤ k ∧ k < 40 * v1.toInt.toNat + 40) → ¬ (14 ≤ a ∧ a ≤ 16 ∧ k = v1.toInt.toNat) → k8 a k = hM a k := s6
  have A := laysAside_ok k8 k9 hk9
  obtain ⟨a1, a2, a3⟩ := A
  have M8 : SM (yOf 43 hC) (hC 43 0) (stOf 43 hC) k8 := M.e (fun a k x y => s6' a k (by omega) (by omega))
  have M9 : SM (yOf 43 hC) (hC 43 0) (stOf 43 hC) k9 := M8.e (fun a k x y => a3 a k (by omega) (by omega))
  obtain ⟨f1, f2⟩ := feasts_ok M9 k10 hk10
  have f2' : ∀ a k, ¬ (a = 0 ∧ 14 ≤ k ∧ k ≤ 28) → ¬ (a = 0 ∧ k = 7) → ¬ a = 7 → k10 a k = k9 a k := f2
  refine film_39 (h0 := k10) (s := v1.toInt.toNat) (i := v2.toInt.toNat) (F := feastS (yOf 43 hC) (hC 43 0) (stOf 43 hC) v2.toInt.toNat) (by omega) (by omega) (by omega) (by omega) f1.2.2.1 N8 (fun j hj => f1.2.2.2.2.2.1 _ _ (by omega) hj) (fun g17 r1 r2 => al_oV' (fun gm hgm => al_some ?_)) fuel0 0 k10 (by decide) (by rw [ti0]; omega) (fun j hj => by rw [ti0] at hj; omega) (fun _ _ _ => rfl)
  obtain ⟨t1, t2, t3⟩ := laysBack_ok g17 gm hgm
  have m : ∀ a k, ¬ (a = 0 ∧ 14 ≤ k ∧ k ≤ 28) → ¬ (a = 0 ∧ k = 34) → ¬ (8 ≤ a ∧ a ≤ 10) → ¬ (a = 7 ∧ 64 ≤ k) → ¬ (14 ≤ a ∧ a ≤ 16 ∧ k = v1.toInt.toNat) → ¬ (a = 17 ∧ 40 * v1.toInt.toNat ≤ k ∧ k < 40 * v1.toInt.toNat + 40) → gm a k = hM a k := by
    intro a k z1 z2 z3 z4 z5 z6
    by_cases c7 : a = 7
    · rw [c7, t1 k (by omega), r2 9 k (by omega), f2' 9 k (by omega) (by omega) (by omega), a1 k (by omega)]
      exact s6' 7 k (by omega) (by omega)
    · by_cases c0 : a = 0 ∧ k = 7
      · rw [c0.1, c0.2, t2, r2 0 34 (by omega), f2' 0 34 (by omega) (by omega) (by omega), a2]
        exact s6' 0 7 (by omega) (by omega)
      · rw [t3 a k c7 c0, r2 a k (by omega), f2' a k z1 c0 c7, a3 a k (by omega) z2]
        exact s6' a k (by omega) (by omega)
  have low : ∀ a k, 14 ≤ a → a ≤ 16 → gm a k = k8 a k := fun a k z1 z2 => by
    rw [t3 a k (by omega) (by omega), r2 a k (by omega), f2' a k (by omega) (by omega) (by omega), a3 a k (by omega) (by omega)]
  refine ⟨?_, ?_⟩
  · rw [o1, y4 43 2 (by omega) (by omega), e43]
    show hC 43 2 = gm 0 13
    rw [m 0 13 (by omega) (by omega) (by omega) (by omega) (by omega) (by omega), m13]
  · show RR o.2 gm
    have e : ∀ a k, ((a = 0 ∧ (k = 3 ∨ k = 7)) ∨ (a = 1 ∧ k = 0) ∨ a = 5 ∨ (11 ≤ a ∧ a ≤ 32 ∧ (a % 4 = 3 ∨ a % 4 = 0)) ∨ (34 ≤ a ∧ a ≤ 41) ∨ (43 ≤ a ∧ a ≤ 55) ∨ (71 ≤ a ∧ a ≤ 83)) → ¬ a = 34 + 2 * v1.toInt.toNat → ¬ a = 34 + 2 * v1.toInt.toNat + 1 → o.2 a k = hC a k := fun a k x y z => by
      rw [o3 a k z, y4 a k y z]; exact v8 a k x
    refine q.sheets (fun a k x => e a k (by omega) (by omega) (by omega)) (fun a k z1 z2 z3 z4 z5 => m a k z1 z2 z3 z4 (by omega) (by omega)) (fun s hs4 => ?_)
    by_cases c : s = v1.toInt.toNat
    · rw [c]
      have i0 : o.2 (34 + 2 * v1.toInt.toNat) 0 = 0 := by rw [o3 _ 0 (by omega)]; exact y1
      have i1 : o.2 (34 + 2 * v1.toInt.toNat) 1 = hC 43 2 := by rw [o3 _ 1 (by omega), y2]; exact e43
      have k2 : gm 14 v1.toInt.toNat = 1 := (low 14 _ (by omega) (by omega)).trans s2
      have k3 : gm 15 v1.toInt.toNat = 0 := (low 15 _ (by omega) (by omega)).trans s3
      have k4 : gm 16 v1.toInt.toNat = hC 43 2 := ((low 16 _ (by omega) (by omega)).trans s4).trans m13
      refine Or.inr ⟨by rw [i0]; decide, by rw [i0]; decide, by rw [k2]; decide, by rw [i0, k3], by rw [i1, k4], by rw [i1]; omega, by rw [i1]; omega, fun i hi => ?_⟩
      rw [i1] at hi
      rw [o2 i (by omega), t3 17 _ (by omega) (by omega)]
      exact (r1 i (by omega)).symm
    · exact (q.2.2.2.2.1 s hs4).at (fun k => ⟨e _ k (by omega) (by omega) (by omega), e _ k (by omega) (by omega) (by omega)⟩) (fun a _ _ => m a s (by omega) (by omega) (by omega) (by omega) (by omega) (by omega)) (fun j hj => m 17 _ (by omega) (by omega) (by omega) (by omega) (by omega) (by omega))
end
