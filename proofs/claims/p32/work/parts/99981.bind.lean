section
/-! binds, rules, the tape: on both sides -/
noncomputable section
theorem Wf.tie' {N : Nat} {st : zT2} (W : Wf N st) {i j : Nat} (hij : ¬ i = j) {v : Int32} (hv : 0 ≤ v.toInt ∧ v.toInt ≤ 99) : Wf N (tieS st i j v) := by
  refine ⟨fun a b ha hb => ?_, fun a ha => ?_⟩
  · obtain ⟨w1, w2, w3⟩ := W.1 a b ha hb
    unfold tieS
    by_cases c : (a = i ∧ b = j) ∨ (a = j ∧ b = i)
    · rw [if_pos c, if_pos (by omega)]; exact ⟨hv.1, hv.2, rfl⟩
    · rw [if_neg c, if_neg (by omega)]; exact ⟨w1, w2, w3⟩
  · unfold tieS
    rw [if_neg (by omega)]
    exact W.2 a ha
theorem w99_id {v : Int32} (hv : 0 ≤ v.toInt ∧ v.toInt ≤ 99) : w99 v = v := by
  unfold w99
  rw [if_neg (by omega), if_neg (by omega)]
theorem op_bind {hC hM : dH} (q : RR hC hM) (v1 v2 v3 : Int32) : Op2 (f_X6_bind v1 v2 v3 hC) (f_X7_bind v1 v2 v3 hM) := by
  obtain ⟨C, M, W, R, T⟩ := q.st
  have l0 := L0
  have l99 := L99
  have N8 := M.2.2.2.1
  unfold Op2 f_X6_bind
  refine al_oP (fun r1 h1 => ?_)
  have q1 := two6 C.2.2.1 r1 h1
  unfold twQ at q1
  have m1 : ∀ {P : Int32 × dH → Prop}, (∀ r5 : Int32, twQ (yN (yOf 43 hC)) v1 v2 r5 → Al (if r5.toInt = 0 then (some ((-2 : Int32), hM)) else (oP (f_X7_in (v3.toInt64) 0 99) (fun r4 => if r4.toInt = 0 then (some ((-2), hM)) else (oP (f_X7_strengthOf v1 v2 hM) (fun r7 => oV (f_X7_binds v1 v2 v3 hM) (fun g8 => some (r7, g8))))))) P) → Al (f_X7_bind v1 v2 v3 hM) P := fun k => al_oP (fun r5 h5 => k r5 (two7 M.2.2.1 M.2.2.2.1 r5 h5))
  unfold twQ at m1
  refine al_ite (fun c => al_some (m1 (fun r5 q5 => al_ite (fun _ => al_some ⟨rfl, q⟩) (fun z => by omega)))) (fun c => al_ite (fun d => al_some (m1 (fun r5 q5 => al_ite (fun z => by omega) (fun z => al_in (fun r6 q6 => al_ite (fun _ => al_some ⟨rfl, q⟩) (fun z6 => by omega)))))) (fun d => al_ite (fun d2 => al_some (m1 (fun r5 q5 => al_ite (fun z => by omega) (fun z => al_in (fun r6 q6 => al_ite (fun _ => al_some ⟨rfl, q⟩) (fun z6 => by omega)))))) (fun d2 => al_ite (fun _ => al_ite (fun _ => al_oV' (fun g hg => al_some (m1 (fun r5 q5 => al_ite (fun z => by omega) (fun z => al_in (fun r6 q6 => al_ite (fun z6 => by omega) (fun z6 => al_oP (fun r7 h7 => al_oV' (fun gm hgm => al_some ?_))))))))) (fun _ => al_none)) (fun _ => al_none))))
  have hi : v1.toInt.toNat < yN (yOf 43 hC) := by omega
  have hj : v2.toInt.toNat < yN (yOf 43 hC) := by omega
  have h1' : v1.toInt = (v1.toInt.toNat : Int) := by omega
  have h2' : v2.toInt = (v2.toInt.toNat : Int) := by omega
  obtain ⟨x1, x2⟩ := tie_ok (Or.inl rfl) C h1' h2' hi hj g hg
  obtain ⟨y1, y2⟩ := binds_ok M (v3 := v3) h1' h2' hi hj gm hgm
  rw [w99_id (by omega)] at y1
  have e7 := strengthOf_ok h1' h2' (by omega) (by omega) r7 h7
  refine ⟨?_, q.now x1 y1 (W.tie' (by omega) (by omega)) q.yr x2 y2.w⟩
  rw [e7, C.2.2.2.2.2.1 _ _ hi hj, M.2.2.2.2.2.1 _ _ hi hj]
theorem op_force {hC hM : dH} (q : RR hC hM) (v1 : Int32) : Op2 (f_X6_force v1 hC) (f_X7_force v1 hM) := by
  obtain ⟨w1, w2, w3, w4, w5, w6, w7, w8, w9, w10, w11⟩ := q.1
  obtain ⟨t1, t2, t3, t4⟩ := q.2.2.1
  have l0 := L0
  have ls : ((hM 0 3 - 1).toInt64).toInt = (hM 0 3).toInt - 1 := by
    rw [← t1, Int32.toInt_toInt64]
    exact i_sub rfl ti1 (by omega) (by omega)
  rw [← t1] at ls
  unfold Op2 f_X6_force
  have bad : (v1.toInt < 0 ∨ (hC 0 3).toInt ≤ v1.toInt) → Al (f_X7_force v1 hM) (fun o2 => (-2 : Int32) = o2.1 ∧ RR hC o2.2) := fun z => by
    unfold f_X7_force
    rw [← t1]
    exact al_in (fun r qr => al_ite (fun _ => al_some ⟨rfl, q⟩) (fun z => by omega))
  refine al_ite (fun c => al_some (bad (by omega))) (fun c => al_ite (fun d => al_ite (fun _ => al_oH' (fun g hg => al_some ?_)) (fun _ => al_none)) (fun d => al_some (bad (by omega))))
  unfold f_X7_force
  rw [← t1]
  refine al_in (fun r qr => al_ite (fun z => by omega) (fun z => al_oH' (fun gm hgm => al_some ⟨rule_eq q, ?_⟩)))
  show RR g gm
  have e : ∀ a k, ¬ (a = 43 ∧ k = 3) → g a k = hC a k := fun a k x => by rw [hg]; exact dU_ne x
  have m : ∀ a k, ¬ (a = 0 ∧ k = 4) → gm a k = hM a k := fun a k x => by rw [hgm]; exact dU_ne x
  refine q.upd ?_ (fun a k x => e a k (by omega)) (fun a k x => m a k (by omega)) (fun _ k _ => m 4 k (by omega)) (by rw [e 43 2 (by omega)]; exact Int.le_refl _)
  have g3 : g 43 3 = dti (10 + 4 * v1.toInt.toNat) := by rw [hg]; exact dU_eq
  have m4 : gm 0 4 = v1 := by rw [hgm]; exact dU_eq
  unfold nowR strR
  rw [e 43 0 (by omega), e 43 1 (by omega), e 43 2 (by omega), g3, e 0 3 (by omega), m 0 7 (by omega), m 0 8 (by omega), m 0 13 (by omega), m4]
  refine ⟨w1, w2, w3, w4, fun i hi => ?_, fun i j hi hj => ?_, ⟨dtx_dti (by unfold zT; omega), by omega, d⟩, w8, fun i hi => ?_, ⟨fun i j hi hj => ?_, fun i hi => ?_⟩, fun i j hi hj hz => ?_⟩
  · rw [e 44 i (by omega), e 45 i (by omega), e 46 i (by omega), m 4 i (by omega), m 5 i (by omega), m 6 i (by omega)]; exact w5 i hi
  · rw [e _ j (by omega), m 7 _ (by omega)]; exact w6 i j hi hj
  · rw [e 44 i (by omega), e 45 i (by omega), e 46 i (by omega)]; exact w9 i hi
  · unfold stOf; rw [e _ j (by omega), e _ i (by omega)]; exact w10.1 i j hi hj
  · unfold stOf; rw [e _ i (by omega)]; exact w10.2 i hi
  · rw [e _ j (by omega)]; exact w11 i j hi hj hz
/-- the tape is another one; all else stays -/
theorem RR.tape {hC hM gC gM : dH} (q : RR hC hM) (t : tapeR gC gM) (e : ∀ a k, ¬ (a = 1 ∧ k = 0) → ¬ a = 5 → gC a k = hC a k) (m : ∀ a k, ¬ (a = 0 ∧ k = 6) → ¬ a = 3 → gM a k = hM a k) : RR gC gM := by
  obtain ⟨q1, q2, q3, q4, q5, q6⟩ := q
  have m' : ∀ a k, ¬ (a = 0 ∧ k = 6) → ¬ a = 3 → gM a k = hM a k := m
  have e43 := e 43 2 (by omega) (by omega)
  refine ⟨?_, ?_, q3.same (fun a k x => e a k (by omega) (by omega)) (fun a k x => m' a k (by omega) (by omega)), t, fun s hs => (q5 s hs).same hs (fun a k x => e a k (by omega) (by omega)) (fun a k x => m' a k (by omega) (by omega)), ?_⟩
  · unfold nowR at q1 ⊢
    rw [e 0 3 (by omega) (by omega)]
    exact q1.same (fun b k hb => e b k (by omega) (by omega)) (m' 0 7 (by omega) (by omega)) (m' 0 8 (by omega) (by omega)) (m' 0 13 (by omega) (by omega)) (m' 0 4 (by omega) (by omega)) (fun i hi => ⟨m' 4 i (by omega) (by omega), m' 5 i (by omega) (by omega), m' 6 i (by omega) (by omega)⟩) (fun i hi => m' 7 i (by omega) (by omega)) (Int.le_refl _)
  · exact q2.same (fun a k x => e a k (by omega) (by omega)) (fun a k x => m' a k (by omega) (by omega)) (by rw [e43]; exact Int.le_refl _) (by rw [e 0 3 (by omega) (by omega)]; exact Int.le_refl _)
  · unfold mNo at q6 ⊢
    rw [m' 0 29 (by omega) (by omega), m' 0 30 (by omega) (by omega), m' 0 31 (by omega) (by omega)]
    exact q6
theorem tput_ok (v : Int32) (h : dH) : Al (f_X4_put v h) (fun o => ((h 1 0).toInt < 160 ∧ 0 ≤ (h 1 0).toInt ∧ o = (1, dU (dU h 5 ((h 1 0).toInt.toNat) v) 1 0 ((dU h 5 ((h 1 0).toInt.toNat) v) 1 0 + 1))) ∨ (¬ (h 1 0).toInt < 160 ∧ o = (0, h))) := by
  unfold f_X4_put
  exact al_ite (fun c => al_ite (fun d => al_oH' (fun g hg => al_oH' (fun g2 hg2 => al_some (Or.inl ⟨c, d.1, by rw [hg2, hg]⟩)))) (fun _ => al_none)) (fun c => al_some (Or.inr ⟨c, rfl⟩))
theorem op_feed {hC hM : dH} (q : RR hC hM) (v1 : Int32) : Op2 (f_X6_feed v1 hC) (f_X7_feed v1 hM) := by
  obtain ⟨t1, t2, t3, t4⟩ := id q.2.2.2.1
  have l0 := L0
  have l255 := L255
  unfold Op2 f_X6_feed
  have bad : (v1.toInt < 0 ∨ 255 < v1.toInt) → Al (f_X7_feed v1 hM) (fun o2 => (-2 : Int32) = o2.1 ∧ RR hC o2.2) := fun z => al_in (fun r qr => al_ite (fun _ => al_some ⟨rfl, q⟩) (fun z => by omega))
  refine al_ite (fun c => al_some (bad (by omega))) (fun c => al_ite (fun d => al_some (bad (by omega))) (fun d => al_oI (fun r5 g6 h5 => ?_)))
  rcases tput_ok v1 hC (r5, g6) h5 with ⟨f, -, h5⟩ | ⟨f, h5⟩
  · cases h5
    refine al_ite (fun z => absurd z (by decide)) (fun z => al_some ?_)
    refine al_in (fun r qr => al_ite (fun z => by omega) (fun z => ?_))
    rw [← t1]
    refine al_ite (fun z => by omega) (fun z => al_ite (fun _ => al_oH' (fun gm hgm => al_oH' (fun gm2 hgm2 => al_some ?_))) (fun _ => al_none))
    have e6 : gm 0 6 = hM 0 6 := by rw [hgm]; exact dU_ne (by omega)
    have e1 : dU hC 5 (hC 1 0).toInt.toNat v1 1 0 = hC 1 0 := dU_ne (by omega)
    rw [e1]
    rw [e6, ← t1] at hgm2
    have n1 : dU (dU hC 5 (hC 1 0).toInt.toNat v1) 1 0 (hC 1 0 + 1) 1 0 = hC 1 0 + 1 := dU_eq
    have n2 : gm2 0 6 = hC 1 0 + 1 := by rw [hgm2]; exact dU_eq
    have i1 := inc1 (v := hC 1 0) (by omega)
    refine ⟨n1.trans n2.symm, ?_⟩
    show RR (dU (dU hC 5 (hC 1 0).toInt.toNat v1) 1 0 (hC 1 0 + 1)) gm2
    have e : ∀ a k, ¬ (a = 1 ∧ k = 0) → ¬ (a = 5 ∧ k = (hC 1 0).toInt.toNat) → dU (dU hC 5 (hC 1 0).toInt.toNat v1) 1 0 (hC 1 0 + 1) a k = hC a k := fun a k x y => (dU_ne x).trans (dU_ne y)
    have m : ∀ a k, ¬ (a = 0 ∧ k = 6) → ¬ (a = 3 ∧ k = (hC 1 0).toInt.toNat) → gm2 a k = hM a k := fun a k x y => by rw [hgm2, dU_ne x, hgm, dU_ne y]
    refine q.tape ⟨n1.trans n2.symm, by rw [n1]; omega, by rw [n1]; omega, fun j hj => ?_⟩ (fun a k x y => e a k x (by omega)) (fun a k x y => m a k x (by omega))
    rw [n1, i1] at hj
    by_cases ej : j = (hC 1 0).toInt.toNat
    · have a1 : dU (dU hC 5 (hC 1 0).toInt.toNat v1) 1 0 (hC 1 0 + 1) 5 j = v1 := by rw [ej]; exact (dU_ne (by omega)).trans dU_eq
      have a2 : gm2 3 j = v1 := by rw [hgm2, dU_ne (by omega), hgm, ej]; exact dU_eq
      rw [a1, a2]
      exact ⟨rfl, by omega, by omega⟩
    · rw [e 5 j (by omega) (by omega), m 3 j (by omega) (by omega)]
      exact t4 j (by omega)
  · cases h5
    refine al_ite (fun z => al_some ?_) (fun z => absurd rfl z)
    refine al_in (fun r qr => al_ite (fun z => by omega) (fun z => ?_))
    rw [← t1]
    exact al_ite (fun z => al_some ⟨rfl, q⟩) (fun z => by omega)
end
end

section
/-! houses: on both sides -/
noncomputable section
theorem bindsRaw_ok {h : dH} {v1 v2 v3 : Int32} {i j : Nat} (h1 : v1.toInt = i) (h2 : v2.toInt = j) (hi : i < 8) (hj : j < 8) : Al (f_X7_binds v1 v2 v3 h) (fun g => g 7 (8 * i + j) = w99 v3 ∧ g 7 (8 * j + i) = w99 v3 ∧ ∀ a k, ¬ (a = 7 ∧ (k = 8 * i + j ∨ k = 8 * j + i)) → g a k = h a k) := by
  unfold f_X7_binds
  obtain ⟨-, e1⟩ := ix8 h1 h2 (by omega) (by omega)
  obtain ⟨-, e2⟩ := ix8 h2 h1 (by omega) (by omega)
  rw [e1, e2]
  refine al_oP (fun r1 hr => al_ite (fun _ => al_oH' (fun g2 q2 => al_ite (fun _ => al_oH' (fun g q4 => al_some ?_)) (fun _ => al_none))) (fun _ => al_none))
  have er := within99 r1 hr
  subst er
  refine ⟨?_, by rw [q4]; exact dU_eq, fun a k x => by rw [q4, dU_ne (by omega), q2, dU_ne (by omega)]⟩
  rw [q4]
  by_cases c : 8 * i + j = 8 * j + i
  · rw [c]; exact dU_eq
  · rw [dU_ne (by omega), q2]; exact dU_eq
theorem house_71 {h0 : dH} {N : Nat} (hN : (h0 0 13).toInt = N) (hN8 : N < 8) {k : dH → Option (Int32 × dH)} {P : Int32 × dH → Prop} (K : ∀ g : dH, (∀ a k, ¬ a = 7 → g a k = h0 a k) → (∀ i j : Nat, i < 8 → j < 8 → i = N ∨ j = N → g 7 (8 * i + j) = 0) → (∀ i j : Nat, i < 8 → j < 8 → ¬ i = N → ¬ j = N → g 7 (8 * i + j) = h0 7 (8 * i + j)) → Al (k g) P) : ∀ (n : Nat) (v3 : Int32) (h : dH), 0 ≤ v3.toInt → v3.toInt ≤ 8 → (∀ a k, ¬ a = 7 → h a k = h0 a k) → (∀ i j : Nat, i < 8 → j < 8 → (i = N ∧ (j : Int) < v3.toInt) ∨ (j = N ∧ (i : Int) < v3.toInt) → h 7 (8 * i + j) = 0) → (∀ i j : Nat, i < 8 → j < 8 → ¬ i = N → ¬ j = N → h 7 (8 * i + j) = h0 7 (8 * i + j)) → Al (l_X7_house_71 k n v3 h) P
  | 0, _, _, _, _, _, _, _ => al_none
  | n + 1, v3, h, p0, p1, H, Z, E => by
    rw [l_X7_house_71]
    refine al_ite (fun c => al_oV' (fun g hg => ?_)) (fun c => K h H (fun i j hi hj x => Z i j hi hj (by omega)) E)
    have h13 : h 0 13 = h0 0 13 := H 0 13 (by omega)
    rw [h13] at hg
    obtain ⟨x1, x2, x3⟩ := bindsRaw_ok (i := N) (j := v3.toInt.toNat) hN (by omega) (by omega) (by omega) g hg
    rw [w99_id (v := 0) (by decide)] at x1 x2
    have i1 := inc1 (v := v3) (by omega)
    refine house_71 hN hN8 K n (v3 + 1) g (by omega) (by omega) (fun a k x => by rw [x3 a k (by omega)]; exact H a k x) (fun i j hi hj x => ?_) (fun i j hi hj x y => ?_)
    · rw [i1] at x
      by_cases c1 : 8 * i + j = 8 * N + v3.toInt.toNat
      · rw [c1]; exact x1
      · by_cases c2 : 8 * i + j = 8 * v3.toInt.toNat + N
        · rw [c2]; exact x2
        · rw [x3 7 _ (by omega)]
          exact Z i j hi hj (by omega)
    · rw [x3 7 _ (by omega)]
      exact E i j hi hj x y
def OpH (t u : Option (Int32 × dH)) (hC hM : dH) : Prop := Al t (fun o => Al u (fun o2 => o.1 = o2.1 ∧ RR o.2 o2.2 ∧ (∀ a k, 34 ≤ a → a ≤ 41 → o.2 a k = hC a k) ∧ ∀ a k, 14 ≤ a → a ≤ 17 → o2.2 a k = hM a k))
theorem settles {hC hM : dH} (q : RR hC hM) (v1 v2 : Int32) : OpH (f_X6_settle v1 v2 hC) (f_X7_house v1 v2 hM) hC hM := by
  obtain ⟨w1, w2, w3, w4, w5, w6, w7, w8, w9, w10, w11⟩ := id q.1
  have l0 := L0
  have l5 := L5
  have l9 := L9
  unfold OpH f_X6_settle
  have bad : (v1.toInt < 0 ∨ 5 < v1.toInt ∨ v2.toInt < 0 ∨ 9 < v2.toInt) → Al (f_X7_house v1 v2 hM) (fun o2 => (-2 : Int32) = o2.1 ∧ RR hC o2.2 ∧ (∀ a k, 34 ≤ a → a ≤ 41 → hC a k = hC a k) ∧ ∀ a k, 14 ≤ a → a ≤ 17 → o2.2 a k = hM a k) := fun z => al_in (fun r qr => al_ite (fun _ => al_some ⟨rfl, q, fun _ _ _ _ => rfl, fun _ _ _ _ => rfl⟩) (fun z2 => al_in (fun r qr => al_ite (fun _ => al_some ⟨rfl, q, fun _ _ _ _ => rfl, fun _ _ _ _ => rfl⟩) (fun z3 => by omega))))
  refine al_ite (fun c => al_some (bad (by omega))) (fun c => al_ite (fun c2 => al_ite (fun d => al_some (bad (by omega))) (fun d => al_ite (fun d2 => al_ite (fun e => al_oV' (fun g hg => al_some ?_)) (fun e => al_some ?_)) (fun d2 => al_some (bad (by omega))))) (fun c2 => al_some (bad (by omega))))
  · have A : Al (f_X3_add 43 v1 v2 hC) (fun g => g 44 (hC 43 2).toInt.toNat = v1 ∧ g 45 (hC 43 2).toInt.toNat = v2 ∧ g 46 (hC 43 2).toInt.toNat = -1 ∧ g 43 2 = hC 43 2 + 1 ∧ ∀ a k, ¬ (a = 43 ∧ k = 2) → ¬ (44 ≤ a ∧ a ≤ 46 ∧ k = (hC 43 2).toInt.toNat) → g a k = hC a k) := by
      unfold f_X3_add
      refine al_ite (fun _ => al_ite (fun _ => al_oH' (fun g3 q3 => ?_)) (fun _ => al_none)) (fun z => absurd e z)
      have e3 : g3 43 2 = hC 43 2 := by rw [q3]; exact dU_ne (by omega)
      rw [e3]
      refine al_ite (fun _ => al_oH' (fun g5 q5 => ?_)) (fun _ => al_none)
      have e5 : g5 43 2 = hC 43 2 := by rw [q5, dU_ne (by omega)]; exact e3
      rw [e5]
      refine al_ite (fun _ => al_oH' (fun g7 q7 => ?_)) (fun _ => al_none)
      have e7 : g7 43 2 = hC 43 2 := by rw [q7, dU_ne (by omega)]; exact e5
      rw [e7]
      refine al_oH' (fun g q9 => al_some ⟨?_, ?_, ?_, ?_, fun a k x y => ?_⟩)
      · rw [q9, dU_ne (by omega), q7, dU_ne (by omega), q5, dU_ne (by omega), q3]; exact dU_eq
      · rw [q9, dU_ne (by omega), q7, dU_ne (by omega), q5]; exact dU_eq
      · rw [q9, dU_ne (by omega), q7]; exact dU_eq
      · rw [q9]; exact dU_eq
      · rw [q9, dU_ne (by omega), q7, dU_ne (by omega), q5, dU_ne (by omega), q3, dU_ne (by omega)]
    obtain ⟨a1, a2, a3, a4, a5⟩ := A g hg
    refine al_in (fun r qr => al_ite (fun z => by omega) (fun z => al_in (fun r2 qr2 => al_ite (fun z => by omega) (fun z2 => ?_))))
    rw [← w3]
    refine al_ite (fun z => by omega) (fun _ => al_ite (fun _ => al_oH' (fun g9 q9 => ?_)) (fun _ => al_none))
    have e9 : g9 0 13 = hC 43 2 := by rw [q9, dU_ne (by omega)]; exact w3.symm
    rw [e9]
    refine al_ite (fun _ => al_oH' (fun g11 q11 => ?_)) (fun _ => al_none)
    have e11 : g11 0 13 = hC 43 2 := by rw [q11, dU_ne (by omega)]; exact e9
    rw [e11]
    refine al_ite (fun _ => al_oH' (fun g13 q13 => ?_)) (fun _ => al_none)
    have e13 : g13 0 13 = hC 43 2 := by rw [q13, dU_ne (by omega)]; exact e11
    have b4 : g13 4 (hC 43 2).toInt.toNat = v1 := by rw [q13, dU_ne (by omega), q11, dU_ne (by omega), q9]; exact dU_eq
    have b5 : g13 5 (hC 43 2).toInt.toNat = v2 := by rw [q13, dU_ne (by omega), q11]; exact dU_eq
    have b6 : g13 6 (hC 43 2).toInt.toNat = -1 := by rw [q13]; exact dU_eq
    have bb : ∀ a k, ¬ (4 ≤ a ∧ a ≤ 6 ∧ k = (hC 43 2).toInt.toNat) → g13 a k = hM a k := fun a k x => by rw [q13, dU_ne (by omega), q11, dU_ne (by omega), q9, dU_ne (by omega)]
    refine house_71 (h0 := g13) (N := (hC 43 2).toInt.toNat) (by rw [e13]; omega) (by omega) (fun g19 r1 r2 r3 => ?_) _ 0 g13 (by decide) (by decide) (fun _ _ _ => rfl) (fun i j _ _ x => by rw [ti0] at x; omega) (fun _ _ _ _ _ _ => rfl)
    have e19 : g19 0 13 = hC 43 2 := by rw [r1 0 13 (by omega)]; exact e13
    rw [e19]
    refine al_oH' (fun gm hgm => al_some ?_)
    have em : gm 0 13 = hC 43 2 + 1 := by rw [hgm]; exact dU_eq
    have mm : ∀ a k, ¬ (a = 0 ∧ k = 13) → gm a k = g19 a k := fun a k x => by rw [hgm]; exact dU_ne x
    have m : ∀ a k, ¬ (a = 0 ∧ k = 13) → ¬ a = 7 → ¬ (4 ≤ a ∧ a ≤ 6 ∧ k = (hC 43 2).toInt.toNat) → gm a k = hM a k := fun a k x y z => by rw [mm a k x, r1 a k y, bb a k z]
    have m4 : gm 4 (hC 43 2).toInt.toNat = v1 := by rw [mm 4 _ (by omega), r1 4 _ (by omega)]; exact b4
    have m5 : gm 5 (hC 43 2).toInt.toNat = v2 := by rw [mm 5 _ (by omega), r1 5 _ (by omega)]; exact b5
    have m6 : gm 6 (hC 43 2).toInt.toNat = -1 := by rw [mm 6 _ (by omega), r1 6 _ (by omega)]; exact b6
    have i1 := inc1 (v := hC 43 2) (by omega)
    have neg1 : (-1 : Int32).toInt = -1 := by decide
    refine ⟨?_, ?_, fun a k x y => a5 a k (by omega) (by omega), fun a k x y => m a k (by omega) (by omega) (by omega)⟩
    · show g 43 2 - 1 = gm 0 13 - 1
      rw [a4, em]
    · show RR g gm
      refine q.upd ?_ (fun a k x => a5 a k (by omega) (by omega)) (fun a k x => m a k (by omega) (by omega) (by omega)) (fun z k hk => m 4 k (by omega) (by omega) ?_) (by rw [a4]; omega)
      · have n1 : (g 43 2).toInt.toNat = (hC 43 2).toInt.toNat + 1 := by rw [a4]; omega
        unfold nowR strR
        rw [n1, em, a4, a5 43 0 (by omega) (by omega), a5 43 1 (by omega) (by omega), a5 43 3 (by omega) (by omega), a5 0 3 (by omega) (by omega), m 0 7 (by omega) (by omega) (by omega), m 0 8 (by omega) (by omega) (by omega), m 0 4 (by omega) (by omega) (by omega)]
        refine ⟨w1, w2, rfl, by omega, fun i hi => ?_, fun i j hi hj => ?_, w7, w8, fun i hi => ?_, ⟨fun i j hi hj => ?_, fun i hi => ?_⟩, fun i j hi hj hz => ?_⟩
        · by_cases ei : i = (hC 43 2).toInt.toNat
          · rw [ei]; exact ⟨a1.trans m4.symm, a2.trans m5.symm, a3.trans m6.symm⟩
          · rw [a5 _ i (by omega) (by omega), a5 _ i (by omega) (by omega), a5 _ i (by omega) (by omega), m 4 i (by omega) (by omega) (by omega), m 5 i (by omega) (by omega) (by omega), m 6 i (by omega) (by omega) (by omega)]
            exact w5 i (by omega)
        · rw [a5 _ j (by omega) (by omega), mm 7 _ (by omega)]
          by_cases c : i = (hC 43 2).toInt.toNat ∨ j = (hC 43 2).toInt.toNat
          · rw [r2 i j (by omega) (by omega) c]
            exact w11 i j (by omega) (by omega) (by omega)
          · rw [r3 i j (by omega) (by omega) (by omega) (by omega), bb 7 _ (by omega)]
            exact w6 i j (by omega) (by omega)
        · by_cases ei : i = (hC 43 2).toInt.toNat
          · have y1 : g (43 + 1) i = v1 := by rw [ei]; exact a1
            have y2 : g (43 + 2) i = v2 := by rw [ei]; exact a2
            have y3 : g (43 + 3) i = -1 := by rw [ei]; exact a3
            rw [y1, y2, y3, neg1]
            omega
          · rw [a5 _ i (by omega) (by omega), a5 _ i (by omega) (by omega), a5 _ i (by omega) (by omega)]
            exact w9 i (by omega)
        · unfold stOf
          rw [a5 _ j (by omega) (by omega), a5 _ i (by omega) (by omega)]
          by_cases c : i = (hC 43 2).toInt.toNat ∨ j = (hC 43 2).toInt.toNat
          · rw [w11 i j (by omega) (by omega) (by omega), w11 j i (by omega) (by omega) (by omega)]
            decide
          · exact w10.1 i j (by omega) (by omega)
        · unfold stOf
          rw [a5 _ i (by omega) (by omega)]
          by_cases c : i = (hC 43 2).toInt.toNat
          · exact w11 i i (by omega) (by omega) (by omega)
          · exact w10.2 i (by omega)
        · rw [a5 _ j (by omega) (by omega)]
          exact w11 i j hi hj (by omega)
      · rcases q.2.1 with z2 | ⟨-, -, z2⟩
        · exact absurd z2.1 z
        · omega
  · refine al_in (fun r qr => al_ite (fun z => by omega) (fun z => al_in (fun r2 qr2 => al_ite (fun z => by omega) (fun z2 => ?_))))
    rw [← w3]
    exact al_ite (fun _ => al_some ⟨rfl, q, fun _ _ _ _ => rfl, fun _ _ _ _ => rfl⟩) (fun z => by omega)
theorem op_house {hC hM : dH} (q : RR hC hM) (v1 v2 : Int32) : Op2 (f_X6_house v1 v2 hC) (f_X7_house v1 v2 hM) := by
  unfold Op2 f_X6_house
  refine al_oI (fun r g hr => al_some ?_)
  intro o2 h2
  obtain ⟨x1, x2, -⟩ := settles q v1 v2 (r, g) hr o2 h2
  exact ⟨x1, x2⟩
end
end

section
/-! houses from a sheet: on both sides -/
noncomputable section
theorem al_sheet6 {α : Type} {v : Int32} {f : Int32 → Option α} {P : α → Prop} (k : ∀ r : Int32, ((r.toInt = 0 ∧ (v.toInt < 0 ∨ 4 ≤ v.toInt)) ∨ (r.toInt = 1 ∧ 0 ≤ v.toInt ∧ v.toInt < 4)) → Al (f r) P) : Al (oP (f_X6_isSheet v) f) P := by
  refine al_oP (fun r hr => k r ?_)
  revert r
  unfold f_X6_isSheet
  exact al_ite (fun c => al_some (by rw [ti0]; omega)) (fun c => al_ite (fun d => al_some (by rw [ti1]; omega)) (fun d => al_some (by rw [ti0]; omega)))
theorem al_sheet7 {α : Type} {v : Int32} {f : Int32 → Option α} {P : α → Prop} (k : ∀ r : Int32, ((r.toInt = 0 ∧ (v.toInt < 0 ∨ 4 ≤ v.toInt)) ∨ (r.toInt = 1 ∧ 0 ≤ v.toInt ∧ v.toInt < 4)) → Al (f r) P) : Al (oP (f_X7_isSheet v) f) P := by
  refine al_oP (fun r hr => k r ?_)
  have l0 := L0
  have l3 := L3
  revert r
  unfold f_X7_isSheet
  exact al_in (fun r qr => al_ite (fun _ => al_some (by omega)) (fun _ => al_none))
theorem al_sort6 {α : Type} {v : Int32} {f : Int32 → Option α} {P : α → Prop} (k : ∀ r : Int32, ((r.toInt = 0 ∧ (v.toInt < 0 ∨ 3 ≤ v.toInt)) ∨ (r.toInt = 1 ∧ 0 ≤ v.toInt ∧ v.toInt < 3)) → Al (f r) P) : Al (oP (f_X6_isSort v) f) P := by
  refine al_oP (fun r hr => k r ?_)
  revert r
  unfold f_X6_isSort
  exact al_ite (fun c => al_some (by rw [ti0]; omega)) (fun c => al_ite (fun d => al_some (by rw [ti1]; omega)) (fun d => al_some (by rw [ti0]; omega)))
theorem al_miss {α : Type} {h : dH} {a : Nat} {f : Int32 → Option α} {P : α → Prop} (k : ∀ r : Int32, ((r.toInt = 1 ∧ (h a 0).toInt = -1) ∨ (r.toInt = 0 ∧ ¬ (h a 0).toInt = -1)) → Al (f r) P) : Al (oP (f_X2_isMissing a h) f) P := by
  refine al_oP (fun r hr => k r ?_)
  revert r
  have t := show (-1 : Int32).toInt = -1 by decide
  unfold f_X2_isMissing
  exact al_ite (fun c => al_some (by rw [ti1]; omega)) (fun c => al_some (by rw [ti0]; omega))
theorem al_holds {α : Type} {h : dH} {a : Nat} {v w : Int32} {f : Int32 → Option α} {P : α → Prop} (k : ∀ r : Int32, ((r.toInt = 0 ∧ (w.toInt < 0 ∨ v.toInt < 0 ∨ (0 ≤ w.toInt ∧ (h a 1 - w).toInt < v.toInt))) ∨ (r.toInt = 1 ∧ 0 ≤ w.toInt ∧ 0 ≤ v.toInt ∧ v.toInt ≤ (h a 1 - w).toInt)) → Al (f r) P) : Al (oP (f_X2_holds a v w h) f) P := by
  refine al_oP (fun r hr => k r ?_)
  revert r
  unfold f_X2_holds
  exact al_ite (fun c => al_some (by rw [ti0]; omega)) (fun c => al_ite (fun d => al_some (by rw [ti0]; omega)) (fun d => al_ite (fun e => al_some (by rw [ti0]; omega)) (fun e => al_some (by rw [ti1]; omega))))
/-- a sheet that is there -/
theorem shR.here {hC hM : dH} {s : Nat} (q : shR hC hM s) (n : ¬ (hM 14 s).toInt = 0) : ¬ (hC (34 + 2 * s) 0).toInt = -1 ∧ hC (34 + 2 * s) 0 = hM 15 s ∧ hC (34 + 2 * s) 1 = hM 16 s ∧ 0 ≤ (hC (34 + 2 * s) 1).toInt ∧ (hC (34 + 2 * s) 1).toInt ≤ 40 ∧ ∀ i, i < (hC (34 + 2 * s) 1).toInt.toNat → hC (34 + 2 * s + 1) i = hM 17 (40 * s + i) := by
  rcases q with q | ⟨q1, q2, q3, q4, q5, q6, q7, q8⟩
  · exact absurd q.2 n
  · exact ⟨by omega, q4, q5, q6, q7, q8⟩
theorem houses_74 {v1 v3 v4 : Int32} (hs : 0 ≤ v1.toInt ∧ v1.toInt < 4) (h4 : v4.toInt ≤ 8) : ∀ (n m : Nat) (v6 v7 : Int32) (hC hM : dH), 0 ≤ v7.toInt → v7.toInt ≤ 8 → (v7.toInt = 0 ∨ (0 ≤ v3.toInt ∧ v3.toInt ≤ 38)) → RR hC hM → ¬ (hM 14 v1.toInt.toNat).toInt = 0 → Op2 (l_X6_houses_74 v3 v4 (34 + 2 * v1.toInt.toNat) (fun r g => some (r, g)) n v6 v7 hC) (l_X7_houses_75 v1 v3 v4 (fun r g => some (r, g)) m v6 v7 hM)
  | 0, _, _, _, _, _, _, _, _, _, _ => by unfold Op2; rw [l_X6_houses_74]; exact al_none
  | n + 1, 0, _, _, _, _, _, _, _, _, _ => by unfold Op2; intro o ho; rw [l_X7_houses_75]; exact al_none
  | n + 1, m + 1, v6, v7, hC, hM, p0, p8, p3, q, ne => by
    obtain ⟨s1, s2, s3, s4, s5, s6⟩ := (q.2.2.2.2.1 v1.toInt.toNat (by omega)).here ne
    unfold Op2
    rw [l_X6_houses_74, l_X7_houses_75]
    have ti2 : (2 : Int32).toInt = 2 := by decide
    have e2 : (2 * v7).toInt = 2 * v7.toInt := i_mul ti2 rfl (by omega) (by omega)
    have ewr : v7.toInt = 0 → v3 + 2 * v7 = v3 := fun z => by
      have : v7 = 0 := Int32.toInt_inj.mp (z.trans ti0.symm)
      rw [this]; simp
    have ea : v7.toInt = 0 ∨ (0 ≤ v3.toInt ∧ v3.toInt ≤ 38) → (v3 + 2 * v7).toInt = v3.toInt + 2 * v7.toInt := fun z => by
      rcases z with z | z
      · rw [ewr z, z]; omega
      · exact i_add rfl e2 (by omega) (by omega)
    have ea' := ea p3
    have el : (hC (34 + 2 * v1.toInt.toNat) 1 - 2).toInt = (hC (34 + 2 * v1.toInt.toNat) 1).toInt - 2 := i_sub rfl ti2 (by omega) (by omega)
    have em1 : (hM 16 v1.toInt.toNat - 2 * v7).toInt = (hC (34 + 2 * v1.toInt.toNat) 1).toInt - 2 * v7.toInt := by rw [← s3]; exact i_sub rfl e2 (by omega) (by omega)
    have em : (hM 16 v1.toInt.toNat - 2 * v7 - 2).toInt = (hC (34 + 2 * v1.toInt.toNat) 1).toInt - 2 * v7.toInt - 2 := i_sub em1 ti2 (by omega) (by omega)
    have bad : (v3.toInt < 0 ∨ (hC (34 + 2 * v1.toInt.toNat) 1).toInt - 2 * v7.toInt - 2 < v3.toInt) → Al (if v3.toInt < 0 then (some ((-12), hM)) else (if 0 ≤ v1.toInt ∧ v1.toInt < 4 then (if (((hM 16 (v1.toInt.toNat)) - (2 * v7)) - 2).toInt < v3.toInt then (some ((-12), hM)) else (if 0 ≤ (((40 * v1) + v3) + (2 * v7)).toInt ∧ (((40 * v1) + v3) + (2 * v7)).toInt < 160 then (if 0 ≤ ((((40 * v1) + v3) + (2 * v7)) + 1).toInt ∧ ((((40 * v1) + v3) + (2 * v7)) + 1).toInt < 160 then (oI (f_X7_house (hM 17 ((((40 * v1) + v3) + (2 * v7)).toInt.toNat)) (hM 17 (((((40 * v1) + v3) + (2 * v7)) + 1).toInt.toNat)) hM) (fun r25 g26 => if r25.toInt < 0 then (l_X7_houses_75 v1 v3 v4 (fun r g => some (r, g)) m (v6 + 0) (v7 + 1) g26) else (l_X7_houses_75 v1 v3 v4 (fun r g => some (r, g)) m (v6 + 1) (v7 + 1) g26))) else none) else none)) else none)) (fun o2 => (-12 : Int32) = o2.1 ∧ RR hC o2.2) := fun z => al_ite (fun _ => al_some ⟨rfl, q⟩) (fun z1 => al_ite (fun _ => al_ite (fun _ => al_some ⟨rfl, q⟩) (fun z2 => by omega)) (fun _ => al_none))
    refine al_ite (fun c => al_holds (fun r qr => al_ite (fun z => al_some (al_ite (fun _ => bad (by omega)) (fun z2 => absurd c z2))) (fun z => ?_))) (fun c => al_some (al_ite (fun z => absurd z c) (fun _ => al_some ⟨rfl, q⟩)))
    have f3 : 0 ≤ v3.toInt ∧ v3.toInt ≤ 38 := by omega
    have i1 : (v3 + 2 * v7 + 1).toInt = v3.toInt + 2 * v7.toInt + 1 := i_add ea' ti1 (by omega) (by omega)
    have t40 : (40 : Int32).toInt = 40 := by decide
    have j0 : (40 * v1 : Int32).toInt = 40 * v1.toInt := i_mul t40 rfl (by omega) (by omega)
    have j1 : (40 * v1 + v3).toInt = 40 * v1.toInt + v3.toInt := i_add j0 rfl (by omega) (by omega)
    have j2 : (40 * v1 + v3 + 2 * v7).toInt = 40 * v1.toInt + v3.toInt + 2 * v7.toInt := i_add j1 e2 (by omega) (by omega)
    have j3 : (40 * v1 + v3 + 2 * v7 + 1).toInt = 40 * v1.toInt + v3.toInt + 2 * v7.toInt + 1 := i_add j2 ti1 (by omega) (by omega)
    refine al_ite (fun _ => al_ite (fun _ => al_oI (fun r27 g28 h27 => ?_)) (fun _ => al_none)) (fun _ => al_none)
    have k1 : hM 17 (40 * v1 + v3 + 2 * v7).toInt.toNat = hC (34 + 2 * v1.toInt.toNat + 1) (v3 + 2 * v7).toInt.toNat := by
      rw [j2, ea', show (40 * v1.toInt + v3.toInt + 2 * v7.toInt).toNat = 40 * v1.toInt.toNat + (v3.toInt + 2 * v7.toInt).toNat by omega]
      exact (s6 _ (by omega)).symm
    have k2 : hM 17 (40 * v1 + v3 + 2 * v7 + 1).toInt.toNat = hC (34 + 2 * v1.toInt.toNat + 1) (v3 + 2 * v7 + 1).toInt.toNat := by
      rw [j3, i1, show (40 * v1.toInt + v3.toInt + 2 * v7.toInt + 1).toNat = 40 * v1.toInt.toNat + (v3.toInt + 2 * v7.toInt + 1).toNat by omega]
      exact (s6 _ (by omega)).symm
    rw [k1, k2]
    have S := settles q (hC (34 + 2 * v1.toInt.toNat + 1) (v3 + 2 * v7).toInt.toNat) (hC (34 + 2 * v1.toInt.toNat + 1) (v3 + 2 * v7 + 1).toInt.toNat) (r27, g28) h27
    have i7 := inc1 (v := v7) (by omega)
    have z0 : v6 + 0 = v6 := by simp
    rw [z0]
    have step : ∀ (w : Int32) (gm : dH), RR g28 gm → (∀ a k, 14 ≤ a → a ≤ 17 → gm a k = hM a k) → Op2 (l_X6_houses_74 v3 v4 (34 + 2 * v1.toInt.toNat) (fun r g => some (r, g)) n w (v7 + 1) g28) (l_X7_houses_75 v1 v3 v4 (fun r g => some (r, g)) m w (v7 + 1) gm) := fun w gm x y => houses_74 hs h4 n m w (v7 + 1) g28 gm (by omega) (by omega) (Or.inr f3) x (by rw [y 14 _ (by omega) (by omega)]; exact ne)
    refine al_ite (fun y o ho => ?_) (fun y o ho => ?_)
    all_goals
      refine al_ite (fun _ => al_ite (fun z => absurd z (by omega)) (fun _ => al_ite (fun _ => al_ite (fun z => absurd z (by omega)) (fun _ => al_ite (fun _ => al_ite (fun _ => al_oI (fun r25 g26 h25 => ?_)) (fun _ => al_none)) (fun _ => al_none))) (fun _ => al_none))) (fun z => absurd c z)
      obtain ⟨x1, x2, -, x3⟩ := S (r25, g26) h25
      have x1' : r27 = r25 := x1
      rw [← x1']
    · exact al_ite (fun _ => step v6 g26 x2 x3 o ho) (fun z => absurd y z)
    · exact al_ite (fun z => absurd z y) (fun _ => step (v6 + 1) g26 x2 x3 o ho)
theorem op_houses {hC hM : dH} (q : RR hC hM) (v1 v2 v3 v4 : Int32) : Op2 (f_X6_houses v1 v2 v3 v4 hC) (f_X7_houses v1 v2 v3 v4 hM) := by
  have l0 := L0
  have l2 := L2
  have l8 := L8
  unfold Op2 f_X6_houses
  have bad : ¬ (0 ≤ v1.toInt ∧ v1.toInt < 4 ∧ 0 ≤ v2.toInt ∧ v2.toInt ≤ 2 ∧ 0 ≤ v4.toInt ∧ v4.toInt ≤ 8) → Al (f_X7_houses v1 v2 v3 v4 hM) (fun o2 => (-2 : Int32) = o2.1 ∧ RR hC o2.2) := fun z => al_sheet7 (fun r qr => al_ite (fun _ => al_some ⟨rfl, q⟩) (fun z1 => al_in (fun r2 qr2 => al_ite (fun _ => al_some ⟨rfl, q⟩) (fun z2 => al_in (fun r3 qr3 => al_ite (fun _ => al_some ⟨rfl, q⟩) (fun z3 => by omega))))))
  refine al_sheet6 (fun r1 q1 => al_ite (fun z => al_some (bad (by omega))) (fun z1 => al_sort6 (fun r4 q4 => al_ite (fun z => al_some (bad (by omega))) (fun z2 => al_ite (fun z => al_some (bad (by omega))) (fun z3 => al_ite (fun z => al_some (bad (by omega))) (fun z4 => al_ite (fun hs => ?_) (fun _ => al_none)))))))
  have s := q.2.2.2.2.1 v1.toInt.toNat (by omega)
  have L := fun ne => houses_74 (v3 := v3) hs (v4 := v4) (by omega) fuel0 fuel0 0 0 hC hM (by decide) (by decide) (Or.inl (by decide)) q ne
  have w : ∀ {P : Int32 × dH → Prop}, (((hM 14 v1.toInt.toNat).toInt = 0 → P (-11, hM)) ∧ (¬ (hM 14 v1.toInt.toNat).toInt = 0 → ¬ (hM 15 v1.toInt.toNat).toInt = v2.toInt → P (-13, hM)) ∧ (¬ (hM 14 v1.toInt.toNat).toInt = 0 → (hM 15 v1.toInt.toNat).toInt = v2.toInt → Al (l_X7_houses_75 v1 v3 v4 (fun r g => some (r, g)) fuel0 0 0 hM) P)) → Al (f_X7_houses v1 v2 v3 v4 hM) P := fun k => al_sheet7 (fun r qr => al_ite (fun z => by omega) (fun _ => al_in (fun r2 qr2 => al_ite (fun z => by omega) (fun _ => al_in (fun r3 qr3 => al_ite (fun z => by omega) (fun _ => al_ite (fun _ => al_ite (fun y => al_ite (fun _ => al_ite (fun _ => al_some (k.1 y)) (fun z => absurd y z)) (fun _ => al_none)) (fun y => al_ite (fun _ => al_ite (fun x => al_ite (fun _ => al_ite (fun z => absurd z y) (fun _ => k.2.2 y x)) (fun _ => al_none)) (fun x => al_some (k.2.1 y x))) (fun _ => al_none))) (fun _ => al_none)))))))
  refine al_miss (fun r12 q12 => al_ite (fun c => ?_) (fun c => ?_))
  · have ne : ¬ (hM 14 v1.toInt.toNat).toInt = 0 := by
      rcases s with s | s
      · omega
      · exact s.2.2.1
    have e15 := (s.here ne).2.1
    refine al_ite (fun d => al_miss (fun r17 q17 => al_ite (fun _ o ho => w ⟨fun z => absurd z ne, fun _ z => absurd (by rw [← e15]; exact d) z, fun _ _ => L ne o ho⟩) (fun z => by omega))) (fun d => al_some (w ⟨fun z => absurd z ne, fun _ _ => ⟨rfl, q⟩, fun _ z => absurd (by rw [e15]; exact z) d⟩))
  · have ye : (hM 14 v1.toInt.toNat).toInt = 0 := by
      rcases s with s | s
      · exact s.2
      · omega
    exact al_miss (fun r35 q35 => al_ite (fun z => by omega) (fun _ => al_some (w ⟨fun _ => ⟨rfl, q⟩, fun z => absurd ye z, fun z => absurd ye z⟩)))
end
end

section
/-! the picture that is kept: on both sides -/
noncomputable section
theorem image_2 {h0 : dH} {k : dH → Option (Int32 × dH)} {P : Int32 × dH → Prop} : ∀ (n : Nat) (v1 : Int32) (h : dH), 0 ≤ v1.toInt → v1.toInt ≤ 8 → (∀ j, j < v1.toInt.toNat → h 11 j = h0 5 j ∧ h 12 j = h0 6 j) → (∀ a j, ¬ a = 11 → ¬ a = 12 → h a j = h0 a j) → (∀ g : dH, (∀ j, j < 8 → g 11 j = h0 5 j ∧ g 12 j = h0 6 j) → (∀ a j, ¬ a = 11 → ¬ a = 12 → g a j = h0 a j) → Al (k g) P) → Al (l_X7_image_2 k n v1 h) P
  | 0, _, _, _, _, _, _, _ => al_none
  | n + 1, v1, h, p0, p1, h1, h2, K => by
    rw [l_X7_image_2]
    have t := inc1 (v := v1) (by omega)
    refine al_ite (fun c1 => al_ite (fun _ => al_ite (fun _ => al_oH' (fun g hg => al_ite (fun _ => al_ite (fun _ => al_oH' (fun g' hg' => ?_)) (fun _ => al_none)) (fun _ => al_none))) (fun _ => al_none)) (fun _ => al_none)) (fun c1 => K h (fun j hj => h1 j (by omega)) h2)
    refine image_2 n (v1 + 1) g' (by omega) (by omega) (fun j hj => ?_) (fun a j q r => by rw [hg', dU_ne (by omega), hg, dU_ne (by omega)]; exact h2 a j q r) K
    by_cases e : j = v1.toInt.toNat
    · refine ⟨?_, ?_⟩
      · rw [e, hg', dU_ne (by omega), hg, dU_eq]; exact h2 _ _ (by omega) (by omega)
      · rw [e, hg', dU_eq, hg, dU_ne (by omega)]; exact h2 _ _ (by omega) (by omega)
    · rw [hg', dU_ne (by omega), dU_ne (by omega), hg, dU_ne (by omega), dU_ne (by omega)]; exact h1 j (by omega)
theorem image_40 {h0 : dH} {k : dH → Option (Int32 × dH)} {P : Int32 × dH → Prop} : ∀ (n : Nat) (v1 : Int32) (h : dH), 0 ≤ v1.toInt → v1.toInt ≤ 64 → (∀ j, j < v1.toInt.toNat → h 13 j = h0 7 j) → (∀ a j, ¬ a = 13 → h a j = h0 a j) → (∀ g : dH, (∀ j, j < 64 → g 13 j = h0 7 j) → (∀ a j, ¬ a = 13 → g a j = h0 a j) → Al (k g) P) → Al (l_X7_image_40 k n v1 h) P
  | 0, _, _, _, _, _, _, _ => al_none
  | n + 1, v1, h, p0, p1, h1, h2, K => by
    rw [l_X7_image_40]
    have t := inc1 (v := v1) (by omega)
    refine al_ite (fun c1 => al_ite (fun _ => al_ite (fun _ => al_oH' (fun g hg => ?_)) (fun _ => al_none)) (fun _ => al_none)) (fun c1 => K h (fun j hj => h1 j (by omega)) h2)
    refine image_40 n (v1 + 1) g (by omega) (by omega) (fun j hj => ?_) (fun a j q => by rw [hg, dU_ne (by omega)]; exact h2 a j q) K
    by_cases e : j = v1.toInt.toNat
    · rw [e, hg, dU_eq]; exact h2 _ _ (by omega)
    · rw [hg, dU_ne (by omega)]; exact h1 j (by omega)
theorem back_13 {h0 : dH} {k : dH → Option (Int32 × dH)} {P : Int32 × dH → Prop} : ∀ (n : Nat) (v1 : Int32) (h : dH), 0 ≤ v1.toInt → v1.toInt ≤ 8 → (∀ j, j < v1.toInt.toNat → h 5 j = h0 11 j ∧ h 6 j = h0 12 j) → (∀ a j, ¬ a = 5 → ¬ a = 6 → h a j = h0 a j) → (∀ g : dH, (∀ j, j < 8 → g 5 j = h0 11 j ∧ g 6 j = h0 12 j) → (∀ a j, ¬ a = 5 → ¬ a = 6 → g a j = h0 a j) → Al (k g) P) → Al (l_X7_back_13 k n v1 h) P
  | 0, _, _, _, _, _, _, _ => al_none
  | n + 1, v1, h, p0, p1, h1, h2, K => by
    rw [l_X7_back_13]
    have t := inc1 (v := v1) (by omega)
    refine al_ite (fun c1 => al_ite (fun _ => al_ite (fun _ => al_oH' (fun g hg => al_ite (fun _ => al_ite (fun _ => al_oH' (fun g' hg' => ?_)) (fun _ => al_none)) (fun _ => al_none))) (fun _ => al_none)) (fun _ => al_none)) (fun c1 => K h (fun j hj => h1 j (by omega)) h2)
    refine back_13 n (v1 + 1) g' (by omega) (by omega) (fun j hj => ?_) (fun a j q r => by rw [hg', dU_ne (by omega), hg, dU_ne (by omega)]; exact h2 a j q r) K
    by_cases e : j = v1.toInt.toNat
    · refine ⟨?_, ?_⟩
      · rw [e, hg', dU_ne (by omega), hg, dU_eq]; exact h2 _ _ (by omega) (by omega)
      · rw [e, hg', dU_eq, hg, dU_ne (by omega)]; exact h2 _ _ (by omega) (by omega)
    · rw [hg', dU_ne (by omega), dU_ne (by omega), hg, dU_ne (by omega), dU_ne (by omega)]; exact h1 j (by omega)
theorem back_51 {h0 : dH} {k : dH → Option (Int32 × dH)} {P : Int32 × dH → Prop} : ∀ (n : Nat) (v1 : Int32) (h : dH), 0 ≤ v1.toInt → v1.toInt ≤ 64 → (∀ j, j < v1.toInt.toNat → h 7 j = h0 13 j) → (∀ a j, ¬ a = 7 → h a j = h0 a j) → (∀ g : dH, (∀ j, j < 64 → g 7 j = h0 13 j) → (∀ a j, ¬ a = 7 → g a j = h0 a j) → Al (k g) P) → Al (l_X7_back_51 k n v1 h) P
  | 0, _, _, _, _, _, _, _ => al_none
  | n + 1, v1, h, p0, p1, h1, h2, K => by
    rw [l_X7_back_51]
    have t := inc1 (v := v1) (by omega)
    refine al_ite (fun c1 => al_ite (fun _ => al_ite (fun _ => al_oH' (fun g hg => ?_)) (fun _ => al_none)) (fun _ => al_none)) (fun c1 => K h (fun j hj => h1 j (by omega)) h2)
    refine back_51 n (v1 + 1) g (by omega) (by omega) (fun j hj => ?_) (fun a j q => by rw [hg, dU_ne (by omega)]; exact h2 a j q) K
    by_cases e : j = v1.toInt.toNat
    · rw [e, hg, dU_eq]; exact h2 _ _ (by omega)
    · rw [hg, dU_ne (by omega)]; exact h1 j (by omega)
theorem strR.copy {a c : Nat} {yr lm ct rl : Int32} {kd nb tb sg : Nat → Int32} {tc : Int} {g h : dH} (q : strR c yr lm ct rl kd nb tb sg tc h) (b : becQ a c g h) : strR a yr lm ct rl kd nb tb sg tc g := by
  obtain ⟨q1, q2, q3, q4, q5, q6, q7, q8, q9, q10, q11⟩ := q
  obtain ⟨b0, b1, b2, b3, b4, b5, -⟩ := b
  unfold strR
  rw [b0, b1, b2, b3]
  refine ⟨q1, q2, q3, q4, fun i hi => ?_, fun i j hi hj => ?_, q7, q8, fun i hi => ?_, ⟨fun i j hi hj => ?_, fun i hi => ?_⟩, fun i j hi hj hz => ?_⟩
  · obtain ⟨x1, x2, x3⟩ := b4 i (by omega)
    rw [x1, x2, x3]; exact q5 i hi
  · rw [b5 i j (by omega) (by omega)]; exact q6 i j hi hj
  · obtain ⟨x1, x2, x3⟩ := b4 i (by omega)
    rw [x1, x2, x3]; exact q9 i hi
  · unfold stOf
    rw [b5 i j (by omega) (by omega), b5 j i (by omega) (by omega)]; exact q10.1 i j hi hj
  · unfold stOf
    rw [b5 i i (by omega) (by omega)]; exact q10.2 i hi
  · rw [b5 i j hi hj]; exact q11 i j hi hj hz
theorem op_image {hC hM : dH} (q : RR hC hM) : Op2 (f_X6_image hC) (f_X7_image hM) := by
  obtain ⟨q1, q2, q3, q4, q5, q6⟩ := id q
  unfold Op2 f_X6_image
  refine al_oV' (fun g1 h1 => al_oH' (fun g hg => al_some ?_))
  have b := become_ok (Or.inr (Or.inr rfl)) (Or.inl rfl) (by decide) hC g1 h1
  have bf := b.2.2.2.2.2.2
  have e : ∀ a k, ¬ (71 ≤ a ∧ a ≤ 83) → ¬ (a = 0 ∧ k = 7) → g a k = hC a k := fun a k x y => by rw [hg, dU_ne y]; exact bf a k (by omega)
  have e1 : ∀ a k, ¬ (a = 0 ∧ k = 7) → g a k = g1 a k := fun a k y => by rw [hg, dU_ne y]
  have g7 : g 0 7 = 1 := by rw [hg]; exact dU_eq
  have sC : strR 71 (hM 0 7) (hM 0 8) (hM 0 13) (hM 0 4) (hM 4) (hM 5) (hM 6) (hM 7) (hC 0 3).toInt g := by
    have w : strR 71 (hM 0 7) (hM 0 8) (hM 0 13) (hM 0 4) (hM 4) (hM 5) (hM 6) (hM 7) (hC 0 3).toInt g1 := strR.copy q1 b
    exact w.same (fun b k hb => e1 b k (by omega)) rfl rfl rfl rfl (fun _ _ => ⟨rfl, rfl, rfl⟩) (fun _ _ => rfl) (Int.le_refl _)
  have c71 : g 71 2 = g 43 2 := by rw [e1 71 2 (by omega), b.2.2.1, e 43 2 (by omega) (by omega)]
  unfold f_X7_image
  refine image_2 (h0 := hM) _ 0 hM (by decide) (by decide) (fun j hj => by rw [ti0] at hj; omega) (fun _ _ _ _ => rfl) (fun g10 i1 i2 => ?_)
  refine image_40 (h0 := g10) _ 0 g10 (by decide) (by decide) (fun j hj => by rw [ti0] at hj; omega) (fun _ _ _ => rfl) (fun g17 i3 i4 => ?_)
  refine al_oH' (fun g18 j1 => al_oH' (fun g19 j2 => al_oH' (fun g20 j3 => al_oH' (fun gm j4 => al_some ?_))))
  have m17 : ∀ a k, ¬ a = 11 → ¬ a = 12 → ¬ a = 13 → g17 a k = hM a k := fun a k x y z => by rw [i4 a k z, i2 a k x y]
  have mm : ∀ a k, ¬ (a = 0 ∧ 39 ≤ k ∧ k ≤ 42) → gm a k = g17 a k := fun a k x => by rw [j4, dU_ne (by omega), j3, dU_ne (by omega), j2, dU_ne (by omega), j1, dU_ne (by omega)]
  have m : ∀ a k, ¬ (a = 0 ∧ 39 ≤ k ∧ k ≤ 42) → ¬ (11 ≤ a ∧ a ≤ 13) → gm a k = hM a k := fun a k x y => (mm a k x).trans (m17 a k (by omega) (by omega) (by omega))
  have k39 : gm 0 39 = hM 0 13 := by rw [j4, dU_ne (by omega), j3, dU_ne (by omega), j2, dU_ne (by omega), j1, dU_eq]; exact m17 0 13 (by omega) (by omega) (by omega)
  have k40 : gm 0 40 = hM 0 7 := by rw [j4, dU_ne (by omega), j3, dU_ne (by omega), j2, dU_eq, j1, dU_ne (by omega)]; exact m17 0 7 (by omega) (by omega) (by omega)
  have k41 : gm 0 41 = hM 0 8 := by rw [j4, dU_ne (by omega), j3, dU_eq, j2, dU_ne (by omega), j1, dU_ne (by omega)]; exact m17 0 8 (by omega) (by omega) (by omega)
  have k42 : gm 0 42 = hM 0 4 := by rw [j4, dU_eq, j3, dU_ne (by omega), j2, dU_ne (by omega), j1, dU_ne (by omega)]; exact m17 0 4 (by omega) (by omega) (by omega)
  have k11 : ∀ i, i < 8 → gm 11 i = hM 5 i ∧ gm 12 i = hM 6 i := fun i hi => by
    rw [mm 11 i (by omega), mm 12 i (by omega), i4 11 i (by omega), i4 12 i (by omega)]
    exact i1 i hi
  have k13 : ∀ i, i < 64 → gm 13 i = hM 7 i := fun i hi => by
    rw [mm 13 i (by omega), i3 i hi]
    exact i2 7 i (by omega) (by omega)
  refine ⟨?_, ?_, Or.inr ⟨?_, ?_, ?_⟩, q3.same (fun a k x => e a k (by omega) (by omega)) (fun a k x => m a k (by omega) (by omega)), q4.same (fun a k x => e a k (by omega) (by omega)) (fun a k x => m a k (by omega) (by omega)), fun s hs => (q5 s hs).same hs (fun a k x => e a k (by omega) (by omega)) (fun a k x => m a k (by omega) (by omega)), ?_⟩
  · show g 43 2 = gm 0 13
    rw [e 43 2 (by omega) (by omega), m 0 13 (by omega) (by omega)]
    exact q1.2.2.1
  · show nowR g gm
    unfold nowR at q1 ⊢
    rw [e 0 3 (by omega) (by omega)]
    exact q1.same (fun b k hb => e b k (by omega) (by omega)) (m 0 7 (by omega) (by omega)) (m 0 8 (by omega) (by omega)) (m 0 13 (by omega) (by omega)) (m 0 4 (by omega) (by omega)) (fun i hi => ⟨m 4 i (by omega) (by omega), m 5 i (by omega) (by omega), m 6 i (by omega) (by omega)⟩) (fun i hi => m 7 i (by omega) (by omega)) (Int.le_refl _)
  · show ¬ (g 0 7).toInt = 0
    rw [g7]; decide
  · show strR 71 (gm 0 40) (gm 0 41) (gm 0 39) (gm 0 42) (gm 4) (gm 11) (gm 12) (gm 13) (g 0 3).toInt g
    rw [e 0 3 (by omega) (by omega)]
    exact sC.same (fun _ _ _ => rfl) k40 k41 k39 k42 (fun i hi => ⟨m 4 i (by omega) (by omega), (k11 i hi).1, (k11 i hi).2⟩) (fun i hi => k13 i hi) (Int.le_refl _)
  · show (g 71 2).toInt ≤ (g 43 2).toInt
    rw [c71]; exact Int.le_refl _
  · show mNo gm
    unfold mNo at q6 ⊢
    rw [m 0 29 (by omega) (by omega), m 0 30 (by omega) (by omega), m 0 31 (by omega) (by omega)]
    exact q6
theorem op_back {hC hM : dH} (q : RR hC hM) : Op2 (f_X6_back hC) (f_X7_back hM) := by
  obtain ⟨q1, q2, q3, q4, q5, q6⟩ := id q
  have neg1 : (-1 : Int32).toInt = -1 := by decide
  unfold Op2 f_X6_back f_X7_back
  rcases q2 with ⟨z1, z2⟩ | ⟨z1, z2, z3⟩
  · exact al_ite (fun _ => al_some (al_ite (fun _ => al_some ⟨rfl, q⟩) (fun z => absurd z2 z))) (fun z => absurd z1 z)
  have c39 : hC 71 2 = hM 0 39 := z2.2.2.1
  have p39 := z2.2.2.2.1
  rw [c39] at p39
  refine al_ite (fun z => absurd z z1) (fun _ => al_oV' (fun g hg => al_some (al_ite (fun z => by omega) (fun _ => ?_))))
  have b := become_ok (Or.inl rfl) (Or.inr (Or.inr rfl)) (by decide) hC g hg
  have e : ∀ a k, ¬ (43 ≤ a ∧ a ≤ 55) → g a k = hC a k := fun a k x => b.2.2.2.2.2.2 a k (by omega)
  have sC : strR 43 (hM 0 40) (hM 0 41) (hM 0 39) (hM 0 42) (hM 4) (hM 11) (hM 12) (hM 13) (hC 0 3).toInt g := strR.copy z2 b
  refine back_13 (h0 := hM) _ 0 hM (by decide) (by decide) (fun j hj => by rw [ti0] at hj; omega) (fun _ _ _ _ => rfl) (fun g10 i1 i2 => ?_)
  refine back_51 (h0 := g10) _ 0 g10 (by decide) (by decide) (fun j hj => by rw [ti0] at hj; omega) (fun _ _ _ => rfl) (fun g17 i3 i4 => ?_)
  refine al_oH' (fun g18 j1 => al_oH' (fun g19 j2 => al_oH' (fun g20 j3 => al_oH' (fun gm j4 => al_some ?_))))
  have m17 : ∀ a k, ¬ a = 5 → ¬ a = 6 → ¬ a = 7 → g17 a k = hM a k := fun a k x y z => by rw [i4 a k z, i2 a k x y]
  have mm : ∀ a k, ¬ (a = 0 ∧ (k = 4 ∨ k = 7 ∨ k = 8 ∨ k = 13)) → gm a k = g17 a k := fun a k x => by rw [j4, dU_ne (by omega), j3, dU_ne (by omega), j2, dU_ne (by omega), j1, dU_ne (by omega)]
  have m : ∀ a k, ¬ (a = 0 ∧ (k = 4 ∨ k = 7 ∨ k = 8 ∨ k = 13)) → ¬ (5 ≤ a ∧ a ≤ 7) → gm a k = hM a k := fun a k x y => (mm a k x).trans (m17 a k (by omega) (by omega) (by omega))
  have k39 : gm 0 13 = hM 0 39 := by rw [j4, dU_ne (by omega), j3, dU_ne (by omega), j2, dU_ne (by omega), j1, dU_eq]; exact m17 0 39 (by omega) (by omega) (by omega)
  have k40 : gm 0 7 = hM 0 40 := by rw [j4, dU_ne (by omega), j3, dU_ne (by omega), j2, dU_eq, j1, dU_ne (by omega)]; exact m17 0 40 (by omega) (by omega) (by omega)
  have k41 : gm 0 8 = hM 0 41 := by rw [j4, dU_ne (by omega), j3, dU_eq, j2, dU_ne (by omega), j1, dU_ne (by omega)]; exact m17 0 41 (by omega) (by omega) (by omega)
  have k42 : gm 0 4 = hM 0 42 := by rw [j4, dU_eq, j3, dU_ne (by omega), j2, dU_ne (by omega), j1, dU_ne (by omega)]; exact m17 0 42 (by omega) (by omega) (by omega)
  have k11 : ∀ i, i < 8 → gm 5 i = hM 11 i ∧ gm 6 i = hM 12 i := fun i hi => by
    rw [mm 5 i (by omega), mm 6 i (by omega), i4 5 i (by omega), i4 6 i (by omega)]
    exact i1 i hi
  have k13 : ∀ i, i < 64 → gm 7 i = hM 13 i := fun i hi => by
    rw [mm 7 i (by omega), i3 i hi]
    exact i2 13 i (by omega) (by omega)
  refine ⟨?_, ?_, Or.inr ⟨?_, ?_, ?_⟩, q3.same (fun a k x => e a k (by omega)) (fun a k x => m a k (by omega) (by omega)), q4.same (fun a k x => e a k (by omega)) (fun a k x => m a k (by omega) (by omega)), fun s hs => (q5 s hs).same hs (fun a k x => e a k (by omega)) (fun a k x => m a k (by omega) (by omega)), ?_⟩
  · show g 43 2 = gm 0 13
    rw [b.2.2.1, k39]; exact c39
  · show strR 43 (gm 0 7) (gm 0 8) (gm 0 13) (gm 0 4) (gm 4) (gm 5) (gm 6) (gm 7) (g 0 3).toInt g
    rw [e 0 3 (by omega)]
    exact sC.same (fun _ _ _ => rfl) k40 k41 k39 k42 (fun i hi => ⟨m 4 i (by omega) (by omega), (k11 i hi).1, (k11 i hi).2⟩) (fun i hi => k13 i hi) (Int.le_refl _)
  · show ¬ (g 0 7).toInt = 0
    rw [e 0 7 (by omega)]; exact z1
  · show strR 71 (gm 0 40) (gm 0 41) (gm 0 39) (gm 0 42) (gm 4) (gm 11) (gm 12) (gm 13) (g 0 3).toInt g
    rw [e 0 3 (by omega)]
    exact z2.same (fun b k hb => e b k (by omega)) (m 0 40 (by omega) (by omega)) (m 0 41 (by omega) (by omega)) (m 0 39 (by omega) (by omega)) (m 0 42 (by omega) (by omega)) (fun i hi => ⟨m 4 i (by omega) (by omega), m 11 i (by omega) (by omega), m 12 i (by omega) (by omega)⟩) (fun i hi => m 13 i (by omega) (by omega)) (Int.le_refl _)
  · show (g 71 2).toInt ≤ (g 43 2).toInt
    rw [b.2.2.1, e 71 2 (by omega)]; exact Int.le_refl _
  · show mNo gm
    unfold mNo at q6 ⊢
    rw [m 0 29 (by omega) (by omega), m 0 30 (by omega) (by omega), m 0 31 (by omega) (by omega)]
    exact q6
end
end

section
/-! sheets: on both sides -/
noncomputable section
theorem shR.at {gC gM hC hM : dH} {s : Nat} (q : shR hC hM s) (e : ∀ k, gC (34 + 2 * s) k = hC (34 + 2 * s) k ∧ gC (34 + 2 * s + 1) k = hC (34 + 2 * s + 1) k) (m : ∀ a, 14 ≤ a → a ≤ 16 → gM a s = hM a s) (m7 : ∀ i, i < 40 → gM 17 (40 * s + i) = hM 17 (40 * s + i)) : shR gC gM s := by
  unfold shR at q ⊢
  rw [(e 0).1, (e 1).1, m 14 (by omega) (by omega), m 15 (by omega) (by omega), m 16 (by omega) (by omega)]
  rcases q with q | ⟨q1, q2, q3, q4, q5, q6, q7, q8⟩
  · exact Or.inl q
  · exact Or.inr ⟨q1, q2, q3, q4, q5, q6, q7, fun i hi => by rw [(e i).2, m7 i (by omega)]; exact q8 i hi⟩
theorem RR.sheets {hC hM gC gM : dH} (q : RR hC hM) (e : ∀ a k, (a = 0 ∧ (k = 3 ∨ k = 7)) ∨ (a = 1 ∧ k = 0) ∨ a = 5 ∨ (11 ≤ a ∧ a ≤ 32 ∧ (a % 4 = 3 ∨ a % 4 = 0)) ∨ (43 ≤ a ∧ a ≤ 55) ∨ (71 ≤ a ∧ a ≤ 83) → gC a k = hC a k) (m : ∀ a k, ¬ (a = 0 ∧ 14 ≤ k ∧ k ≤ 28) → ¬ (a = 0 ∧ k = 34) → ¬ (8 ≤ a ∧ a ≤ 10) → ¬ (a = 7 ∧ 64 ≤ k) → ¬ (14 ≤ a ∧ a ≤ 17) → gM a k = hM a k) (s : ∀ s, s < 4 → shR gC gM s) : RR gC gM := by
  obtain ⟨q1, q2, q3, q4, q5, q6⟩ := q
  refine ⟨?_, ?_, q3.same (fun a k x => e a k (by omega)) (fun a k x => m a k (by omega) (by omega) (by omega) (by omega) (by omega)), q4.same (fun a k x => e a k (by omega)) (fun a k x => m a k (by omega) (by omega) (by omega) (by omega) (by omega)), s, ?_⟩
  · unfold nowR at q1 ⊢
    rw [e 0 3 (by omega)]
    exact q1.same (fun b k hb => e b k (by omega)) (m 0 7 (by omega) (by omega) (by omega) (by omega) (by omega)) (m 0 8 (by omega) (by omega) (by omega) (by omega) (by omega)) (m 0 13 (by omega) (by omega) (by omega) (by omega) (by omega)) (m 0 4 (by omega) (by omega) (by omega) (by omega) (by omega)) (fun i hi => ⟨m 4 i (by omega) (by omega) (by omega) (by omega) (by omega), m 5 i (by omega) (by omega) (by omega) (by omega) (by omega), m 6 i (by omega) (by omega) (by omega) (by omega) (by omega)⟩) (fun i hi => m 7 i (by omega) (by omega) (by omega) (by omega) (by omega)) (Int.le_refl _)
  · exact q2.same (fun a k x => e a k (by omega)) (fun a k x => m a k (by omega) (by omega) (by omega) (by omega) (by omega)) (by rw [e 43 2 (by omega)]; exact Int.le_refl _) (by rw [e 0 3 (by omega)]; exact Int.le_refl _)
  · unfold mNo at q6 ⊢
    rw [m 0 29 (by omega) (by omega) (by omega) (by omega) (by omega), m 0 30 (by omega) (by omega) (by omega) (by omega) (by omega), m 0 31 (by omega) (by omega) (by omega) (by omega) (by omega)]
    exact q6
theorem lay_12 {a : Nat} {h0 : dH} : ∀ (n : Nat) (v3 : Int32) (h : dH), 0 ≤ v3.toInt → v3.toInt ≤ 40 → (∀ j, j < v3.toInt.toNat → h (a + 1) j = 0) → (∀ b k, ¬ b = a + 1 → h b k = h0 b k) → Al (l_X2_lay_12 a (fun g => some g) n v3 h) (fun g => (∀ j, j < 40 → g (a + 1) j = 0) ∧ ∀ b k, ¬ b = a + 1 → g b k = h0 b k)
  | 0, _, _, _, _, _, _ => al_none
  | n + 1, v3, h, p0, p1, h1, h2 => by
    rw [l_X2_lay_12]
    have t := inc1 (v := v3) (by omega)
    refine al_ite (fun c => al_ite (fun _ => al_oH' (fun g hg => ?_)) (fun _ => al_none)) (fun c => al_some ⟨fun j hj => h1 j (by omega), h2⟩)
    refine lay_12 n (v3 + 1) g (by omega) (by omega) (fun j hj => ?_) (fun b k x => by rw [hg, dU_ne (by omega)]; exact h2 b k x)
    by_cases e : j = v3.toInt.toNat
    · rw [e, hg]; exact dU_eq
    · rw [hg, dU_ne (by omega)]; exact h1 j (by omega)
theorem lay_ok (a : Nat) (v1 v2 : Int32) (h : dH) : Al (f_X2_lay a v1 v2 h) (fun g => g a 0 = v1 ∧ g a 1 = v2 ∧ (∀ j, j < 40 → g (a + 1) j = 0) ∧ ∀ b k, ¬ b = a → ¬ b = a + 1 → g b k = h b k) := by
  unfold f_X2_lay
  refine al_oH' (fun g1 q1 => al_oH' (fun g2 q2 => fun g hg => ?_))
  obtain ⟨x1, x2⟩ := lay_12 (h0 := g2) fuel0 0 g2 (by decide) (by decide) (fun j hj => by rw [ti0] at hj; omega) (fun _ _ _ => rfl) g hg
  refine ⟨?_, ?_, x1, fun b k x y => ?_⟩
  · rw [x2 a 0 (by omega), q2, dU_ne (by omega), q1]; exact dU_eq
  · rw [x2 a 1 (by omega), q2]; exact dU_eq
  · rw [x2 b k y, q2, dU_ne (by omega), q1, dU_ne (by omega)]
theorem sheet_77 {h0 : dH} {v1 v2 v3 : Int32} (hs : 0 ≤ v1.toInt ∧ v1.toInt < 4) (hv : ¬ v2.toInt < 0 → v3.toInt ≤ 40) : ∀ (n : Nat) (v4 : Int32) (h : dH), 0 ≤ v4.toInt → (v4.toInt = 0 ∨ (¬ v2.toInt < 0 ∧ v4.toInt ≤ 40)) → (∀ j, j < v4.toInt.toNat → h 17 (40 * v1.toInt.toNat + j) = 0) → (∀ a k, ¬ (a = 17 ∧ 40 * v1.toInt.toNat ≤ k ∧ k < 40 * v1.toInt.toNat + 40) → h a k = h0 a k) → Al (l_X7_sheet_77 v1 v2 v3 (fun g => some (1, g)) n v4 h) (fun o => o.1 = 1 ∧ (¬ v2.toInt < 0 → ∀ j, j < v3.toInt.toNat → o.2 17 (40 * v1.toInt.toNat + j) = 0) ∧ ∀ a k, ¬ (a = 17 ∧ 40 * v1.toInt.toNat ≤ k ∧ k < 40 * v1.toInt.toNat + 40) → o.2 a k = h0 a k)
  | 0, _, _, _, _, _, _ => al_none
  | n + 1, v4, h, p0, p1, h1, h2 => by
    rw [l_X7_sheet_77]
    refine al_ite (fun c => al_ite (fun d => al_some ⟨rfl, fun z => absurd d z, h2⟩) (fun d => ?_)) (fun c => al_some ⟨rfl, fun _ j hj => h1 j (by omega), h2⟩)
    have hv' := hv d
    have t := inc1 (v := v4) (by omega)
    have t40 : (40 : Int32).toInt = 40 := by decide
    have j0 : (40 * v1 : Int32).toInt = 40 * v1.toInt := i_mul t40 rfl (by omega) (by omega)
    have j1 : (40 * v1 + v4).toInt = 40 * v1.toInt + v4.toInt := i_add j0 rfl (by omega) (by omega)
    refine al_ite (fun _ => al_oH' (fun g hg => ?_)) (fun _ => al_none)
    rw [j1, show (40 * v1.toInt + v4.toInt).toNat = 40 * v1.toInt.toNat + v4.toInt.toNat by omega] at hg
    refine sheet_77 hs hv n (v4 + 1) g (by omega) (Or.inr ⟨d, by omega⟩) (fun j hj => ?_) (fun a k x => by rw [hg, dU_ne (by omega)]; exact h2 a k x)
    by_cases e : j = v4.toInt.toNat
    · rw [e, hg]; exact dU_eq
    · rw [hg, dU_ne (by omega)]; exact h1 j (by omega)
def mlQ (v1 v2 v3 b : Int32) (h : dH) (o : Int32 × dH) : Prop := o.1 = 1 ∧ o.2 14 v1.toInt.toNat = b ∧ o.2 15 v1.toInt.toNat = v2 ∧ o.2 16 v1.toInt.toNat = v3 ∧ (¬ v2.toInt < 0 → ∀ j, j < v3.toInt.toNat → o.2 17 (40 * v1.toInt.toNat + j) = 0) ∧ ∀ a k, ¬ (a = 17 ∧ 40 * v1.toInt.toNat ≤ k ∧ k < 40 * v1.toInt.toNat + 40) → ¬ (14 ≤ a ∧ a ≤ 16 ∧ k = v1.toInt.toNat) → o.2 a k = h a k
theorem mlay_ok {v1 v2 v3 b : Int32} {h : dH} (hs : 0 ≤ v1.toInt ∧ v1.toInt < 4) (hv : ¬ v2.toInt < 0 → v3.toInt ≤ 40) : Al (if 0 ≤ v1.toInt ∧ v1.toInt < 4 then (oH (dU h 14 (v1.toInt.toNat) b) (fun g13 => if 0 ≤ v1.toInt ∧ v1.toInt < 4 then (oH (dU g13 15 (v1.toInt.toNat) v2) (fun g15 => if 0 ≤ v1.toInt ∧ v1.toInt < 4 then (oH (dU g15 16 (v1.toInt.toNat) v3) (fun g17 => l_X7_sheet_77 v1 v2 v3 (fun g26 => some (1, g26)) fuel0 0 g17)) else none)) else none)) else none) (mlQ v1 v2 v3 b h) := by
  refine al_ite (fun _ => al_oH' (fun g1 q1 => al_ite (fun _ => al_oH' (fun g2 q2 => al_ite (fun _ => al_oH' (fun g3 q3 => fun o ho => ?_)) (fun _ => al_none))) (fun _ => al_none))) (fun _ => al_none)
  obtain ⟨x1, x2, x3⟩ := sheet_77 (h0 := g3) hs hv fuel0 0 g3 (by decide) (Or.inl (by decide)) (fun j hj => by rw [ti0] at hj; omega) (fun _ _ _ => rfl) o ho
  refine ⟨x1, ?_, ?_, ?_, x2, fun a k x y => ?_⟩
  · rw [x3 14 _ (by omega), q3, dU_ne (by omega), q2, dU_ne (by omega), q1]; exact dU_eq
  · rw [x3 15 _ (by omega), q3, dU_ne (by omega), q2]; exact dU_eq
  · rw [x3 16 _ (by omega), q3]; exact dU_eq
  · rw [x3 a k x, q3, dU_ne (by omega), q2, dU_ne (by omega), q1, dU_ne (by omega)]
theorem msheet_ok {v1 v2 v3 : Int32} {h : dH} {P : Int32 × dH → Prop} (b2 : (¬ (0 ≤ v1.toInt ∧ v1.toInt < 4) ∨ ¬ (-1 ≤ v2.toInt ∧ v2.toInt ≤ 2) ∨ (0 ≤ v2.toInt ∧ 40 < v3.toInt)) → P (-2, h)) (b14 : 0 ≤ v1.toInt ∧ v1.toInt < 4 → 0 ≤ v2.toInt ∧ v2.toInt ≤ 2 → v3.toInt < 0 → P (-14, h)) (no : 0 ≤ v1.toInt ∧ v1.toInt < 4 → v2.toInt = -1 → ∀ o, mlQ v1 v2 v3 0 h o → P o) (yes : 0 ≤ v1.toInt ∧ v1.toInt < 4 → 0 ≤ v2.toInt ∧ v2.toInt ≤ 2 → 0 ≤ v3.toInt ∧ v3.toInt ≤ 40 → ∀ o, mlQ v1 v2 v3 1 h o → P o) : Al (f_X7_sheet v1 v2 v3 h) P := by
  have lm := Lm1
  have l2 := L2
  have n0 : vp_nar .boolean 0 = 0 := by decide
  have n1 : vp_nar .boolean 1 = 1 := by decide
  unfold f_X7_sheet
  rw [n0, n1]
  exact al_sheet7 (fun r qr => al_ite (fun z => al_some (b2 (by omega))) (fun z1 => al_in (fun r2 qr2 => al_ite (fun z => al_some (b2 (by omega))) (fun z2 => al_ite (fun c => al_ite (fun _ => al_ite (fun _ o ho => no (by omega) (by omega) o (mlay_ok (by omega) (fun z => absurd c z) o ho)) (fun z => absurd c z)) (fun z => absurd c z)) (fun c => al_ite (fun d => al_some (b2 (by omega))) (fun d => al_ite (fun z => absurd z c) (fun _ => al_ite (fun e => al_some (b14 (by omega) (by omega) e)) (fun e => al_ite (fun z => absurd z c) (fun _ o ho => yes (by omega) (by omega) (by omega) o (mlay_ok (by omega) (fun _ => by omega) o ho))))))))))
theorem lays_no {hC hM g : dH} (q : RR hC hM) {v1 v2 v3 : Int32} (hs : 0 ≤ v1.toInt ∧ v1.toInt < 4) (L : g (34 + 2 * v1.toInt.toNat) 0 = -1 ∧ ∀ b k, ¬ b = 34 + 2 * v1.toInt.toNat → ¬ b = 34 + 2 * v1.toInt.toNat + 1 → g b k = hC b k) (o : Int32 × dH) (ho : mlQ v1 v2 v3 0 hM o) : RR g o.2 := by
  obtain ⟨x1, x2, x3, x4, x5, x6⟩ := ho
  obtain ⟨y1, y4⟩ := L
  refine q.sheets (fun a k x => y4 a k (by omega) (by omega)) (fun a k _ _ _ _ x => x6 a k (by omega) (by omega)) (fun s hs4 => ?_)
  by_cases e : s = v1.toInt.toNat
  · rw [e]
    refine Or.inl ⟨by rw [y1]; decide, by rw [x2]; decide⟩
  · exact (q.2.2.2.2.1 s hs4).at (fun k => ⟨y4 _ k (by omega) (by omega), y4 _ k (by omega) (by omega)⟩) (fun a _ _ => x6 a s (by omega) (by omega)) (fun i hi => x6 17 _ (by omega) (by omega))
theorem lays_yes {hC hM g : dH} (q : RR hC hM) {v1 v2 v3 : Int32} (hs : 0 ≤ v1.toInt ∧ v1.toInt < 4) (h2 : 0 ≤ v2.toInt ∧ v2.toInt ≤ 2) (h3 : 0 ≤ v3.toInt ∧ v3.toInt ≤ 40) (L : g (34 + 2 * v1.toInt.toNat) 0 = v2 ∧ g (34 + 2 * v1.toInt.toNat) 1 = v3 ∧ (∀ j, j < 40 → g (34 + 2 * v1.toInt.toNat + 1) j = 0) ∧ ∀ b k, ¬ b = 34 + 2 * v1.toInt.toNat → ¬ b = 34 + 2 * v1.toInt.toNat + 1 → g b k = hC b k) (o : Int32 × dH) (ho : mlQ v1 v2 v3 1 hM o) : RR g o.2 := by
  obtain ⟨x1, x2, x3, x4, x5, x6⟩ := ho
  obtain ⟨y1, y2, y3, y4⟩ := L
  refine q.sheets (fun a k x => y4 a k (by omega) (by omega)) (fun a k _ _ _ _ x => x6 a k (by omega) (by omega)) (fun s hs4 => ?_)
  by_cases e : s = v1.toInt.toNat
  · rw [e]
    refine Or.inr ⟨by rw [y1]; omega, by rw [y1]; omega, by rw [x2]; decide, by rw [y1, x3], by rw [y2, x4], by rw [y2]; omega, by rw [y2]; omega, fun i hi => ?_⟩
    rw [y2] at hi
    rw [y3 i (by omega), x5 (by omega) i hi]
  · exact (q.2.2.2.2.1 s hs4).at (fun k => ⟨y4 _ k (by omega) (by omega), y4 _ k (by omega) (by omega)⟩) (fun a _ _ => x6 a s (by omega) (by omega)) (fun i hi => x6 17 _ (by omega) (by omega))
theorem op_sheet {hC hM : dH} (q : RR hC hM) (v1 v2 v3 : Int32) : Op2 (f_X6_sheet v1 v2 v3 hC) (f_X7_sheet v1 v2 v3 hM) := by
  unfold Op2 f_X6_sheet
  have bad : (¬ (0 ≤ v1.toInt ∧ v1.toInt < 4) ∨ ¬ (-1 ≤ v2.toInt ∧ v2.toInt ≤ 2) ∨ (0 ≤ v2.toInt ∧ 40 < v3.toInt)) → Al (f_X7_sheet v1 v2 v3 hM) (fun o2 => (-2 : Int32) = o2.1 ∧ RR hC o2.2) := fun z => msheet_ok (fun _ => ⟨rfl, q⟩) (fun a b c => by exfalso; omega) (fun a b => by exfalso; omega) (fun a b c => by exfalso; omega)
  refine al_sheet6 (fun r1 q1 => al_ite (fun z => al_some (bad (by omega))) (fun z1 => al_ite (fun c => al_ite (fun _ => al_ite (fun hs => al_oV' (fun g hg => al_some ?_)) (fun _ => al_none)) (fun z => absurd c z)) (fun c => al_sort6 (fun r4 q4 => al_ite (fun z => al_some (bad (by omega))) (fun z2 => al_ite (fun z => absurd z c) (fun _ => al_ite (fun d => al_some (bad (by omega))) (fun d => al_ite (fun e => al_some ?_) (fun e => al_ite (fun hs => al_oV' (fun g hg => al_some ?_)) (fun _ => al_none)))))))))
  · obtain ⟨y1, y2, y3, y4⟩ := lay_ok _ _ _ _ g hg
    refine msheet_ok (fun z => by exfalso; omega) (fun a b c => by exfalso; omega) (fun a b o ho => ⟨ho.1.symm, lays_no q hs ⟨y1, y4⟩ o ho⟩) (fun a b c => by exfalso; omega)
  · exact msheet_ok (fun z => by exfalso; omega) (fun a b c => ⟨rfl, q⟩) (fun a b => by exfalso; omega) (fun a b c => by exfalso; omega)
  · exact msheet_ok (fun z => by exfalso; omega) (fun a b c => by exfalso; omega) (fun a b => by exfalso; omega) (fun a b c o ho => ⟨ho.1.symm, lays_yes q hs b c (lay_ok _ _ _ _ g hg) o ho⟩)
end
end

section
/-! cells, copies: on both sides -/
noncomputable section
theorem put_ok {a : Nat} {h : dH} {v1 v2 : Int32} : Al (f_X2_put a v1 v2 h) (fun g => 0 ≤ v1.toInt ∧ v1.toInt < 40 ∧ ∃ x : Int32, ((h a 0).toInt = 0 → x = v2.toInt8.toInt32) ∧ ((h a 0).toInt = 1 → x = v2.toInt16.toInt32) ∧ (¬ (h a 0).toInt = 0 → ¬ (h a 0).toInt = 1 → x = v2) ∧ g = dU h (a + 1) v1.toInt.toNat x) := by
  unfold f_X2_put
  exact al_ite (fun c => al_ite (fun d => al_oH' (fun g hg => al_some ⟨d.1, d.2, _, fun _ => rfl, fun z => by omega, fun z => absurd c z, hg⟩)) (fun _ => al_none)) (fun c => al_ite (fun c1 => al_ite (fun d => al_oH' (fun g hg => al_some ⟨d.1, d.2, _, fun z => absurd z c, fun _ => rfl, fun _ z => absurd c1 z, hg⟩)) (fun _ => al_none)) (fun c1 => al_ite (fun d => al_oH' (fun g hg => al_some ⟨d.1, d.2, _, fun z => absurd z c, fun z => absurd z c1, fun _ _ => rfl, hg⟩)) (fun _ => al_none)))
theorem one_item {hC hM gC gM : dH} (q : RR hC hM) {s i : Nat} {x : Int32} (hs : s < 4) (hi : i < 40) (eC : gC = dU hC (34 + 2 * s + 1) i x) (eM : gM = dU hM 17 (40 * s + i) x) : RR gC gM := by
  have e : ∀ a k, ¬ (a = 34 + 2 * s + 1 ∧ k = i) → gC a k = hC a k := fun a k z => by rw [eC]; exact dU_ne z
  have m : ∀ a k, ¬ (a = 17 ∧ k = 40 * s + i) → gM a k = hM a k := fun a k z => by rw [eM]; exact dU_ne z
  refine q.sheets (fun a k z => e a k (by omega)) (fun a k _ _ _ _ z => m a k (by omega)) (fun s' hs4 => ?_)
  by_cases c : s' = s
  · have S := q.2.2.2.2.1 s hs
    rw [c]
    unfold shR at S ⊢
    rw [e (34 + 2 * s) 0 (by omega), e (34 + 2 * s) 1 (by omega), m 14 s (by omega), m 15 s (by omega), m 16 s (by omega)]
    rcases S with S | ⟨q1, q2, q3, q4, q5, q6, q7, q8⟩
    · exact Or.inl S
    · refine Or.inr ⟨q1, q2, q3, q4, q5, q6, q7, fun j hj => ?_⟩
      by_cases d : j = i
      · rw [d, eC, eM, dU_eq, dU_eq]
      · rw [e _ j (by omega), m 17 _ (by omega)]; exact q8 j hj
  · exact (q.2.2.2.2.1 s' hs4).at (fun k => ⟨e _ k (by omega), e _ k (by omega)⟩) (fun a _ _ => m a s' (by omega)) (fun j hj => m 17 _ (by omega))
theorem miss_iff {hC hM : dH} {s : Nat} (q : shR hC hM s) : (hC (34 + 2 * s) 0).toInt = -1 ↔ (hM 14 s).toInt = 0 := by
  rcases q with q | q
  · exact ⟨fun _ => q.2, fun _ => q.1⟩
  · exact ⟨fun z => by omega, fun z => absurd z q.2.2.1⟩
theorem op_cell {hC hM : dH} (q : RR hC hM) (v1 v2 v3 : Int32) : Op2 (f_X6_cell v1 v2 v3 hC) (f_X7_cell v1 v2 v3 hM) := by
  have l0 := L0
  unfold Op2 f_X6_cell
  have bad : ¬ (0 ≤ v1.toInt ∧ v1.toInt < 4) → Al (f_X7_cell v1 v2 v3 hM) (fun o2 => (-2 : Int32) = o2.1 ∧ RR hC o2.2) := fun z => al_sheet7 (fun r qr => al_ite (fun _ => al_some ⟨rfl, q⟩) (fun z1 => by omega))
  refine al_sheet6 (fun r1 q1 => al_ite (fun z => al_some (bad (by omega))) (fun z1 => al_ite (fun hs => ?_) (fun _ => al_none)))
  have s := q.2.2.2.2.1 v1.toInt.toNat (by omega)
  have mi := miss_iff s
  refine al_miss (fun r5 q5 => al_ite (fun c => ?_) (fun c => ?_))
  · have ne : ¬ (hM 14 v1.toInt.toNat).toInt = 0 := fun z => by have := mi.mpr z; omega
    obtain ⟨s1, s2, s3, s4, s5, s6⟩ := s.here ne
    have el : (hC (34 + 2 * v1.toInt.toNat) 1 - 1).toInt = (hC (34 + 2 * v1.toInt.toNat) 1).toInt - 1 := i_sub rfl ti1 (by omega) (by omega)
    have em : ((hM 16 v1.toInt.toNat - 1).toInt64).toInt = (hC (34 + 2 * v1.toInt.toNat) 1).toInt - 1 := by rw [Int32.toInt_toInt64, ← s3]; exact el
    have t40 : (40 : Int32).toInt = 40 := by decide
    have j0 : (40 * v1 : Int32).toInt = 40 * v1.toInt := i_mul t40 rfl (by omega) (by omega)
    refine al_holds (fun r8 q8 => al_ite (fun z => al_some ?_) (fun z => al_oV' (fun g hg => al_some ?_)))
    · exact al_sheet7 (fun r qr => al_ite (fun z => by omega) (fun _ => al_ite (fun _ => al_ite (fun z => absurd z ne) (fun _ => al_ite (fun _ => al_in (fun r2 qr2 => al_ite (fun _ => al_some ⟨rfl, q⟩) (fun z => by rw [ti1] at q8; omega))) (fun _ => al_none))) (fun _ => al_none)))
    · obtain ⟨x0, x1, x, x2, x3, x4, x5⟩ := put_ok g hg
      have j1 : (40 * v1 + v2).toInt = 40 * v1.toInt + v2.toInt := i_add j0 rfl (by omega) (by omega)
      have j2 : (40 * v1 + v2).toInt.toNat = 40 * v1.toInt.toNat + v2.toInt.toNat := by rw [j1]; omega
      have fin : ∀ (y : Int32), y = x → RR g (dU hM 17 (40 * v1 + v2).toInt.toNat y) := fun y hy => one_item q (s := v1.toInt.toNat) (i := v2.toInt.toNat) (by omega) (by omega) x5 (by rw [j2, hy])
      rw [s2] at x2 x3 x4
      exact al_sheet7 (fun r qr => al_ite (fun z => by omega) (fun _ => al_ite (fun _ => al_ite (fun z => absurd z ne) (fun _ => al_ite (fun _ => al_in (fun r2 qr2 => al_ite (fun z => by rw [ti1] at q8; omega) (fun z => al_ite (fun _ => al_ite (fun a => al_ite (fun _ => al_oH' (fun gm hgm => al_some ⟨rfl, by rw [hgm]; exact fin _ (x2 a).symm⟩)) (fun _ => al_none)) (fun a => al_ite (fun _ => al_ite (fun b => al_ite (fun _ => al_oH' (fun gm hgm => al_some ⟨rfl, by rw [hgm]; exact fin _ (x3 b).symm⟩)) (fun _ => al_none)) (fun b => al_ite (fun _ => al_oH' (fun gm hgm => al_some ⟨rfl, by rw [hgm]; exact fin _ (x4 a b).symm⟩)) (fun _ => al_none))) (fun _ => al_none))) (fun _ => al_none)))) (fun _ => al_none))) (fun _ => al_none)))
  · have ye : (hM 14 v1.toInt.toNat).toInt = 0 := mi.mp (by omega)
    exact al_some (al_sheet7 (fun r qr => al_ite (fun z => by omega) (fun _ => al_ite (fun _ => al_ite (fun _ => al_some ⟨rfl, q⟩) (fun z => absurd ye z)) (fun _ => al_none))))
def cpQ (D n S : Nat) (r r0 : Nat → Int32) : Prop := ∀ k : Nat, r k = if D ≤ k ∧ k < D + n then r0 (S + (k - D)) else r0 k
def cqQ (D n S m : Nat) (r r0 : Nat → Int32) : Prop := ∀ k : Nat, r k = if D + n ≤ k + m ∧ k < D + n then r0 (S + (k - D)) else r0 k
theorem cp_step {D S m n : Nat} {r r0 : Nat → Int32} (ok : D ≤ S ∨ S + n ≤ D) (hm : m < n) (H : cpQ D m S r r0) {r' : Nat → Int32} (h1 : r' (D + m) = r (S + m)) (h2 : ∀ k, ¬ k = D + m → r' k = r k) : cpQ D (m + 1) S r' r0 := by
  intro k
  by_cases e : k = D + m
  · rw [e, h1, H (S + m), if_neg (by omega), if_pos (by omega), show D + m - D = m by omega]
  · rw [h2 k e, H k]
    by_cases f : D ≤ k ∧ k < D + m
    · rw [if_pos f, if_pos (by omega)]
    · rw [if_neg f, if_neg (by omega)]
theorem cq_step {D S m n : Nat} {r r0 : Nat → Int32} (ok : S ≤ D) (hm : m < n) (H : cqQ D n S m r r0) {r' : Nat → Int32} (h1 : r' (D + (n - 1 - m)) = r (S + (n - 1 - m))) (h2 : ∀ k, ¬ k = D + (n - 1 - m) → r' k = r k) : cqQ D n S (m + 1) r' r0 := by
  intro k
  by_cases e : k = D + (n - 1 - m)
  · rw [e, h1, H (S + (n - 1 - m)), if_neg (by omega), if_pos (by omega), show D + (n - 1 - m) - D = n - 1 - m by omega]
  · rw [h2 k e, H k]
    by_cases f : D + n ≤ k + m ∧ k < D + n
    · rw [if_pos f, if_pos (by omega)]
    · rw [if_neg f, if_neg (by omega)]
theorem at40 {v1 v2 w : Int32} {s a k : Nat} (h1 : v1.toInt = s) (h2 : v2.toInt = a) (h3 : w.toInt = k) (hs : s < 4) (ha : a ≤ 40) (hk : k ≤ 40) : (40 * v1 + v2 + w).toInt.toNat = 40 * s + a + k := by
  have t40 : (40 : Int32).toInt = 40 := by decide
  have j0 : (40 * v1 : Int32).toInt = 40 * (s : Int) := i_mul t40 h1 (by omega) (by omega)
  have j1 : (40 * v1 + v2).toInt = 40 * (s : Int) + a := i_add j0 h2 (by omega) (by omega)
  have j2 : (40 * v1 + v2 + w).toInt = 40 * (s : Int) + a + k := i_add j1 h3 (by omega) (by omega)
  rw [j2]; omega
theorem copy_up {v1 v2 v3 v4 v5 v6 : Int32} {s1 a1 s3 a3 N : Nat} (h1 : v1.toInt = s1) (h2 : v2.toInt = a1) (h3 : v3.toInt = s3) (h4 : v4.toInt = a3) (h5 : v5.toInt = N) (l1 : s1 < 4) (l2 : a1 + N ≤ 40) (l3 : s3 < 4) (l4 : a3 + N ≤ 40) (h6 : v6.toInt = 0) {h0 : dH} (ok : 40 * s3 + a3 ≤ 40 * s1 + a1 ∨ 40 * s1 + a1 + N ≤ 40 * s3 + a3) : ∀ (n : Nat) (v7 : Int32) (h : dH) (m : Nat), v7.toInt = m → m ≤ N → (∀ a k, ¬ a = 17 → h a k = h0 a k) → cpQ (40 * s3 + a3) m (40 * s1 + a1) (h 17) (h0 17) → Al (l_X7_copy_121 v1 v2 v3 v4 v5 v6 (fun g => some (v5, g)) n v7 h) (fun o => o.1 = v5 ∧ (∀ a k, ¬ a = 17 → o.2 a k = h0 a k) ∧ cpQ (40 * s3 + a3) N (40 * s1 + a1) (o.2 17) (h0 17))
  | 0, _, _, _, _, _, _, _ => al_none
  | n + 1, v7, h, m, p0, p1, E, H => by
    rw [l_X7_copy_121]
    have e1 := at40 h1 h2 p0 l1 (by omega) (by omega)
    have e3 := at40 h3 h4 p0 l3 (by omega) (by omega)
    refine al_ite (fun c => al_ite (fun d => al_ite (fun _ => al_ite (fun _ => al_oH' (fun g hg => ?_)) (fun _ => al_none)) (fun _ => al_none)) (fun d => absurd h6 d)) (fun c => al_some ⟨rfl, E, ?_⟩)
    · rw [e1, e3] at hg
      have t := inc1 (v := v7) (by omega)
      refine copy_up h1 h2 h3 h4 h5 l1 l2 l3 l4 h6 ok n (v7 + 1) g (m + 1) (by omega) (by omega) (fun a k x => by rw [hg, dU_ne (fun z => x z.1)]; exact E a k x) (cp_step ok (by omega) H ?_ (fun k x => ?_))
      · rw [hg]; exact dU_eq
      · rw [hg]; exact dU_ne (fun z => x z.2)
    · have : m = N := by omega
      rw [← this]; exact H
theorem copy_dn {v1 v2 v3 v4 v5 v6 : Int32} {s1 a1 s3 a3 N : Nat} (h1 : v1.toInt = s1) (h2 : v2.toInt = a1) (h3 : v3.toInt = s3) (h4 : v4.toInt = a3) (h5 : v5.toInt = N) (l1 : s1 < 4) (l2 : a1 + N ≤ 40) (l3 : s3 < 4) (l4 : a3 + N ≤ 40) (h6 : v6.toInt = 1) {h0 : dH} (ok : 40 * s1 + a1 ≤ 40 * s3 + a3) : ∀ (n : Nat) (v7 : Int32) (h : dH) (m : Nat), v7.toInt = m → m ≤ N → (∀ a k, ¬ a = 17 → h a k = h0 a k) → cqQ (40 * s3 + a3) N (40 * s1 + a1) m (h 17) (h0 17) → Al (l_X7_copy_121 v1 v2 v3 v4 v5 v6 (fun g => some (v5, g)) n v7 h) (fun o => o.1 = v5 ∧ (∀ a k, ¬ a = 17 → o.2 a k = h0 a k) ∧ cpQ (40 * s3 + a3) N (40 * s1 + a1) (o.2 17) (h0 17))
  | 0, _, _, _, _, _, _, _ => al_none
  | n + 1, v7, h, m, p0, p1, E, H => by
    rw [l_X7_copy_121]
    refine al_ite (fun c => al_ite (fun d => by omega) (fun d => al_ite (fun _ => al_ite (fun _ => al_oH' (fun g hg => ?_)) (fun _ => al_none)) (fun _ => al_none))) (fun c => al_some ⟨rfl, E, ?_⟩)
    · have m1 : (v5 - 1).toInt = (N : Int) - 1 := i_sub h5 ti1 (by omega) (by omega)
      have m2 : (v5 - 1 - v7).toInt = (N : Int) - 1 - m := i_sub m1 p0 (by omega) (by omega)
      have m3 : (v5 - 1 - v7).toInt = ((N - 1 - m : Nat) : Int) := by rw [m2]; omega
      have e1 := at40 h1 h2 m3 l1 (by omega) (by omega)
      have e3 := at40 h3 h4 m3 l3 (by omega) (by omega)
      rw [e1, e3] at hg
      have t := inc1 (v := v7) (by omega)
      refine copy_dn h1 h2 h3 h4 h5 l1 l2 l3 l4 h6 ok n (v7 + 1) g (m + 1) (by omega) (by omega) (fun a k x => by rw [hg, dU_ne (fun z => x z.1)]; exact E a k x) (cq_step ok (by omega) H ?_ (fun k x => ?_))
      · rw [hg]; exact dU_eq
      · rw [hg]; exact dU_ne (fun z => x z.2)
    · have : m = N := by omega
      intro k
      show h 17 k = _
      rw [H k, this]
      by_cases f : 40 * s3 + a3 ≤ k ∧ k < 40 * s3 + a3 + N
      · rw [if_pos f, if_pos (by omega)]
      · rw [if_neg f, if_neg (by omega)]
end
end

section
/-! copies: on both sides -/
noncomputable section
theorem copied {hC hM gM : dH} (q : RR hC hM) {s1 a1 s3 a3 N : Nat} (l1 : s1 < 4) (l3 : s3 < 4) (n1 : ¬ (hM 14 s1).toInt = 0) (n3 : ¬ (hM 14 s3).toInt = 0) (b1 : ((a1 + N : Nat) : Int) ≤ (hC (34 + 2 * s1) 1).toInt) (b3 : ((a3 + N : Nat) : Int) ≤ (hC (34 + 2 * s3) 1).toInt) (E : ∀ a k, ¬ a = 17 → gM a k = hM a k) (K : cpQ (40 * s3 + a3) N (40 * s1 + a1) (gM 17) (hM 17)) : RR (dcopy hC (34 + 2 * s1 + 1) a1 (34 + 2 * s3 + 1) a3 N) gM := by
  have S1 := (q.2.2.2.2.1 s1 l1).here n1
  have S3 := (q.2.2.2.2.1 s3 l3).here n3
  have e : ∀ a k, ¬ (a = 34 + 2 * s3 + 1) → dcopy hC (34 + 2 * s1 + 1) a1 (34 + 2 * s3 + 1) a3 N a k = hC a k := fun a k z => if_neg (fun x => z x.1)
  have m17 : ∀ k, ¬ (40 * s3 + a3 ≤ k ∧ k < 40 * s3 + a3 + N) → gM 17 k = hM 17 k := fun k z => (K k).trans (if_neg z)
  refine q.sheets (fun a k z => e a k (by omega)) (fun a k _ _ _ _ z => E a k (by omega)) (fun s' hs4 => ?_)
  by_cases c : s' = s3
  · rw [c]
    have S := q.2.2.2.2.1 s3 l3
    unfold shR at S ⊢
    rw [e (34 + 2 * s3) 0 (by omega), e (34 + 2 * s3) 1 (by omega), E 14 s3 (by omega), E 15 s3 (by omega), E 16 s3 (by omega)]
    rcases S with S | ⟨q1, q2, q3, q4, q5, q6, q7, q8⟩
    · exact Or.inl S
    · refine Or.inr ⟨q1, q2, q3, q4, q5, q6, q7, fun j hj => ?_⟩
      by_cases d : a3 ≤ j ∧ j < a3 + N
      · have x1 : dcopy hC (34 + 2 * s1 + 1) a1 (34 + 2 * s3 + 1) a3 N (34 + 2 * s3 + 1) j = hC (34 + 2 * s1 + 1) (a1 + (j - a3)) := if_pos ⟨rfl, d⟩
        rw [x1, K (40 * s3 + j), if_pos (by omega), show 40 * s1 + a1 + (40 * s3 + j - (40 * s3 + a3)) = 40 * s1 + (a1 + (j - a3)) by omega]
        exact S1.2.2.2.2.2 _ (by omega)
      · have x1 : dcopy hC (34 + 2 * s1 + 1) a1 (34 + 2 * s3 + 1) a3 N (34 + 2 * s3 + 1) j = hC (34 + 2 * s3 + 1) j := if_neg (fun z => d z.2)
        rw [x1, m17 _ (by omega)]
        exact q8 j hj
  · exact (q.2.2.2.2.1 s' hs4).at (fun k => ⟨e _ k (by omega), e _ k (by omega)⟩) (fun a _ _ => E a s' (by omega)) (fun j hj => m17 _ (by omega))
theorem op_copy {hC hM : dH} (q : RR hC hM) (v1 v2 v3 v4 v5 : Int32) : Op2 (f_X6_copy v1 v2 v3 v4 v5 hC) (f_X7_copy v1 v2 v3 v4 v5 hM) := by
  unfold Op2 f_X6_copy
  have bad : ¬ (0 ≤ v1.toInt ∧ v1.toInt < 4 ∧ 0 ≤ v3.toInt ∧ v3.toInt < 4) → Al (f_X7_copy v1 v2 v3 v4 v5 hM) (fun o2 => (-2 : Int32) = o2.1 ∧ RR hC o2.2) := fun z => al_sheet7 (fun r qr => al_ite (fun _ => al_some ⟨rfl, q⟩) (fun z1 => al_sheet7 (fun r2 qr2 => al_ite (fun _ => al_some ⟨rfl, q⟩) (fun z2 => by omega))))
  refine al_sheet6 (fun r1 q1 => al_ite (fun z => al_some (bad (by omega))) (fun z1 => al_sheet6 (fun r4 q4 => al_ite (fun z => al_some (bad (by omega))) (fun z4 => al_ite (fun h1 => al_ite (fun h3 => ?_) (fun _ => al_none)) (fun _ => al_none)))))
  have s1 := q.2.2.2.2.1 v1.toInt.toNat (by omega)
  have s3 := q.2.2.2.2.1 v3.toInt.toNat (by omega)
  have mi1 := miss_iff s1
  have mi3 := miss_iff s3
  -- the reference, case by case
  have M : ∀ {P : Int32 × dH → Prop}, ((hM 14 v1.toInt.toNat).toInt = 0 ∨ (hM 14 v3.toInt.toNat).toInt = 0 → P (-11, hM)) → (¬ (hM 14 v1.toInt.toNat).toInt = 0 → ¬ (hM 14 v3.toInt.toNat).toInt = 0 → ¬ (hM 15 v1.toInt.toNat).toInt = (hM 15 v3.toInt.toNat).toInt → P (-13, hM)) → (¬ (hM 14 v1.toInt.toNat).toInt = 0 → ¬ (hM 14 v3.toInt.toNat).toInt = 0 → (hM 15 v1.toInt.toNat).toInt = (hM 15 v3.toInt.toNat).toInt → v5.toInt < 0 ∨ v2.toInt < 0 ∨ v4.toInt < 0 ∨ (0 ≤ v5.toInt ∧ ((hM 16 v1.toInt.toNat - v5).toInt < v2.toInt ∨ (hM 16 v3.toInt.toNat - v5).toInt < v4.toInt)) → P (-12, hM)) → (¬ (hM 14 v1.toInt.toNat).toInt = 0 → ¬ (hM 14 v3.toInt.toNat).toInt = 0 → (hM 15 v1.toInt.toNat).toInt = (hM 15 v3.toInt.toNat).toInt → 0 ≤ v5.toInt → 0 ≤ v2.toInt → 0 ≤ v4.toInt → v2.toInt ≤ (hM 16 v1.toInt.toNat - v5).toInt → v4.toInt ≤ (hM 16 v3.toInt.toNat - v5).toInt → Al (if v1.toInt = v3.toInt then (if v2.toInt < v4.toInt then (l_X7_copy_121 v1 v2 v3 v4 v5 1 (fun g45 => some (v5, g45)) fuel0 0 hM) else (l_X7_copy_121 v1 v2 v3 v4 v5 0 (fun g48 => some (v5, g48)) fuel0 0 hM)) else (l_X7_copy_121 v1 v2 v3 v4 v5 0 (fun g51 => some (v5, g51)) fuel0 0 hM)) P) → Al (f_X7_copy v1 v2 v3 v4 v5 hM) P := fun k11 k13 k12 k => al_sheet7 (fun r qr => al_ite (fun z => by omega) (fun _ => al_sheet7 (fun r2 qr2 => al_ite (fun z => by omega) (fun _ => al_ite (fun _ => al_ite (fun a => al_some (k11 (Or.inl a))) (fun a => al_ite (fun _ => al_ite (fun b => al_some (k11 (Or.inr b))) (fun b => al_ite (fun _ => al_ite (fun _ => al_ite (fun c => al_ite (fun d => al_some (k12 a b c (by omega))) (fun d => al_ite (fun d2 => al_some (k12 a b c (by omega))) (fun d2 => al_ite (fun d3 => al_some (k12 a b c (by omega))) (fun d3 => al_ite (fun _ => al_ite (fun d4 => al_some (k12 a b c (by omega))) (fun d4 => al_ite (fun _ => al_ite (fun d5 => al_some (k12 a b c (by omega))) (fun d5 => k a b c (by omega) (by omega) (by omega) (by omega) (by omega))) (fun _ => al_none))) (fun _ => al_none))))) (fun c => al_some (k13 a b c))) (fun _ => al_none)) (fun _ => al_none))) (fun _ => al_none))) (fun _ => al_none)))))
  have ref11 : ((hM 14 v1.toInt.toNat).toInt = 0 ∨ (hM 14 v3.toInt.toNat).toInt = 0) → Al (f_X7_copy v1 v2 v3 v4 v5 hM) (fun o2 => (-11 : Int32) = o2.1 ∧ RR hC o2.2) := fun z => M (fun _ => ⟨rfl, q⟩) (fun a b _ => absurd z (by omega)) (fun a b _ _ => absurd z (by omega)) (fun a b _ _ _ _ _ _ => absurd z (by omega))
  refine al_miss (fun r9 q9 => al_ite (fun c1 => al_miss (fun r12 q12 => al_ite (fun c3 => ?_) (fun c3 => al_some (ref11 (Or.inr (mi3.mp (by omega))))))) (fun c1 => al_some (ref11 (Or.inl (mi1.mp (by omega))))))
  have n1 : ¬ (hM 14 v1.toInt.toNat).toInt = 0 := fun z => by have := mi1.mpr z; omega
  have n3 : ¬ (hM 14 v3.toInt.toNat).toInt = 0 := fun z => by have := mi3.mpr z; omega
  obtain ⟨x1, x2, x3, x4, x5, x6⟩ := s1.here n1
  obtain ⟨y1, y2, y3, y4, y5, y6⟩ := s3.here n3
  rw [x2, y2]
  refine al_ite (fun d => ?_) (fun d => al_some (M (fun z => absurd z (by omega)) (fun _ _ _ => ⟨rfl, q⟩) (fun _ _ c _ => absurd c d) (fun _ _ c _ _ _ _ _ => absurd c d)))
  have ref12 : (v5.toInt < 0 ∨ v2.toInt < 0 ∨ v4.toInt < 0 ∨ (0 ≤ v5.toInt ∧ ((hM 16 v1.toInt.toNat - v5).toInt < v2.toInt ∨ (hM 16 v3.toInt.toNat - v5).toInt < v4.toInt))) → Al (f_X7_copy v1 v2 v3 v4 v5 hM) (fun o2 => (-12 : Int32) = o2.1 ∧ RR hC o2.2) := fun z => M (fun w => absurd w (by omega)) (fun _ _ c => absurd d c) (fun _ _ _ _ => ⟨rfl, q⟩) (fun _ _ _ a b c e f => by exfalso; omega)
  refine al_holds (fun r17 q17 => al_ite (fun z => al_some (ref12 (by rw [← x3]; omega))) (fun z17 => al_holds (fun r20 q20 => al_ite (fun z => al_some (ref12 (by rw [← y3]; omega))) (fun z20 => al_ite (fun _ => al_oH' (fun g hg => al_some ?_)) (fun _ => al_none)))))
  have f1 : (hC (34 + 2 * v1.toInt.toNat) 1 - v5).toInt = (hC (34 + 2 * v1.toInt.toNat) 1).toInt - v5.toInt := i_sub rfl rfl (by have := lt32 v5; omega) (by omega)
  have f3 : (hC (34 + 2 * v3.toInt.toNat) 1 - v5).toInt = (hC (34 + 2 * v3.toInt.toNat) 1).toInt - v5.toInt := i_sub rfl rfl (by have := lt32 v5; omega) (by omega)
  have p5 : 0 ≤ v5.toInt := by omega
  have p2 : 0 ≤ v2.toInt := by omega
  have p4 : 0 ≤ v4.toInt := by omega
  have b1 : v2.toInt + v5.toInt ≤ (hC (34 + 2 * v1.toInt.toNat) 1).toInt := by omega
  have b3 : v4.toInt + v5.toInt ≤ (hC (34 + 2 * v3.toInt.toNat) 1).toInt := by omega
  have e1 : v1.toInt = (v1.toInt.toNat : Int) := by omega
  have e2 : v2.toInt = (v2.toInt.toNat : Int) := by omega
  have e3 : v3.toInt = (v3.toInt.toNat : Int) := by omega
  have e4 : v4.toInt = (v4.toInt.toNat : Int) := by omega
  have e5 : v5.toInt = (v5.toInt.toNat : Int) := by omega
  have fin : ∀ o : Int32 × dH, (o.1 = v5 ∧ (∀ a k, ¬ a = 17 → o.2 a k = hM a k) ∧ cpQ (40 * v3.toInt.toNat + v4.toInt.toNat) v5.toInt.toNat (40 * v1.toInt.toNat + v2.toInt.toNat) (o.2 17) (hM 17)) → v5 = o.1 ∧ RR g o.2 := fun o ho => ⟨ho.1.symm, by
    rw [hg]
    exact copied q (by omega) (by omega) n1 n3 (by omega) (by omega) ho.2.1 ho.2.2⟩
  have c0 : ∀ r0 : Nat → Int32, cpQ (40 * v3.toInt.toNat + v4.toInt.toNat) 0 (40 * v1.toInt.toNat + v2.toInt.toNat) r0 r0 := fun r0 k => (if_neg (by omega)).symm
  have d0 : ∀ r0 : Nat → Int32, cqQ (40 * v3.toInt.toNat + v4.toInt.toNat) v5.toInt.toNat (40 * v1.toInt.toNat + v2.toInt.toNat) 0 r0 r0 := fun r0 k => (if_neg (by omega)).symm
  have up : (40 * v3.toInt.toNat + v4.toInt.toNat ≤ 40 * v1.toInt.toNat + v2.toInt.toNat ∨ 40 * v1.toInt.toNat + v2.toInt.toNat + v5.toInt.toNat ≤ 40 * v3.toInt.toNat + v4.toInt.toNat) → Al (l_X7_copy_121 v1 v2 v3 v4 v5 0 (fun g => some (v5, g)) fuel0 0 hM) (fun o2 => v5 = o2.1 ∧ RR g o2.2) := fun ok o ho => fin o (copy_up e1 e2 e3 e4 e5 (by omega) (by omega) (by omega) (by omega) ti0 ok fuel0 0 hM 0 ti0 (by omega) (fun _ _ _ => rfl) (c0 _) o ho)
  refine M (fun w => absurd w (by omega)) (fun _ _ c => absurd d c) (fun _ _ _ w => by exfalso; rw [← x3, ← y3] at w; omega) (fun _ _ _ _ _ _ _ _ => ?_)
  refine al_ite (fun i => al_ite (fun j o ho => ?_) (fun j => up (by omega))) (fun i => up (by omega))
  exact fin o (copy_dn e1 e2 e3 e4 e5 (by omega) (by omega) (by omega) (by omega) ti1 (by omega) fuel0 0 hM 0 ti0 (by omega) (fun _ _ _ => rfl) (d0 _) o ho)
end
end

section
/-! films: on both sides -/
noncomputable section
theorem i8_99 {x : Int32} (h : 0 ≤ x.toInt ∧ x.toInt ≤ 99) : x.toInt8.toInt32 = x := by
  apply Int32.toInt_inj.mp
  rw [Int8.toInt_toInt32, Int32.toInt_toInt8]
  rw [Int.bmod_def, show ((2 ^ 8 : Nat) : Int) = 256 from rfl, Int.emod_eq_of_lt (by omega) (by omega), if_pos (by omega)]
theorem SM.e {Y : zY} {y : Int32} {st : zT2} {g h : dH} (H : SM Y y st h) (e : ∀ a k, a ≤ 7 → ¬ (a = 0 ∧ 14 ≤ k ∧ k ≤ 42) → g a k = h a k) : SM Y y st g := by
  obtain ⟨h0, h1', h2', h3, h4, h5, h6⟩ := H
  refine ⟨by rw [e 0 7 (by omega) (by omega)]; exact h0, by rw [e 0 8 (by omega) (by omega)]; exact h1', by rw [e 0 13 (by omega) (by omega)]; exact h2', h3, fun p hp => ?_, fun p q hp hq => ?_, h6.same (fun k => e 1 k (by omega) (by omega)) (fun k => e 2 k (by omega) (by omega)) (e 0 4 (by omega) (by omega))⟩
  · rw [e 4 p (by omega) (by omega), e 5 p (by omega) (by omega), e 6 p (by omega) (by omega)]; exact h4 p hp
  · rw [e 7 _ (by omega) (by omega)]; exact h5 p q hp hq
theorem film_58 {s N : Nat} {F : Nat → Int32} {h0 : dH} {v2 : Int32} (hs : s < 4) (hN : (h0 43 2).toInt = N) (hN8 : N ≤ 8) (hv : 0 ≤ v2.toInt ∧ v2.toInt < N) (hz : (h0 (34 + 2 * s) 0).toInt = 0) (hF : ∀ j, j < N → h0 (62 + v2.toInt.toNat) j = F j ∧ 0 ≤ (F j).toInt ∧ (F j).toInt ≤ 99) : ∀ (n : Nat) (v4 : Int32) (h : dH), 0 ≤ v4.toInt → v4.toInt ≤ N → (∀ j, j < v4.toInt.toNat → h (34 + 2 * s + 1) j = F j) → (∀ b k, ¬ b = 34 + 2 * s + 1 → h b k = h0 b k) → Al (l_X6_film_58 v2 (34 + 2 * s) (fun g17 => some (g17 43 2, g17)) n v4 h) (fun o => o.1 = h0 43 2 ∧ (∀ j, j < N → o.2 (34 + 2 * s + 1) j = F j) ∧ ∀ b k, ¬ b = 34 + 2 * s + 1 → o.2 b k = h0 b k)
  | 0, _, _, _, _, _, _ => al_none
  | n + 1, v4, h, p0, p1, h1, h2 => by
    rw [l_X6_film_58, h2 43 2 (by omega)]
    have t := inc1 (v := v4) (by omega)
    refine al_ite (fun c => al_ite (fun _ => al_ite (fun _ => al_oV' (fun g hg => ?_)) (fun _ => al_none)) (fun _ => al_none)) (fun c => al_some ⟨rfl, fun j hj => h1 j (by omega), h2⟩)
    obtain ⟨-, -, x, x2, -, -, x5⟩ := put_ok g hg
    rw [h2 _ 0 (by omega), h2 (57 + 5 + v2.toInt.toNat) _ (by omega)] at x2
    have e := hF v4.toInt.toNat (by omega)
    have x2' := x2 hz
    rw [show 57 + 5 + v2.toInt.toNat = 62 + v2.toInt.toNat by omega, e.1, i8_99 e.2] at x2'
    refine film_58 hs hN hN8 hv hz hF n (v4 + 1) g (by omega) (by omega) (fun j hj => ?_) (fun b k z => by rw [x5, dU_ne (fun w => z w.1)]; exact h2 b k z)
    by_cases d : j = v4.toInt.toNat
    · rw [d, x5, dU_eq]; exact x2'
    · rw [x5, dU_ne (fun w => d w.2)]; exact h1 j (by omega)
theorem film_39 {s i N : Nat} {F : Nat → Int32} {h0 : dH} {v1 v2 : Int32} {k : dH → Option (Int32 × dH)} {P : Int32 × dH → Prop} (hs : v1.toInt = s) (hs4 : s < 4) (hi : v2.toInt = i) (hi8 : i < 8) (hN : (h0 0 13).toInt = N) (hN8 : N ≤ 8) (hF : ∀ j, j < N → h0 7 (8 * i + j) = F j) (K : ∀ g : dH, (∀ j, j < N → g 17 (40 * s + j) = F j) → (∀ b k, ¬ (b = 17 ∧ 40 * s ≤ k ∧ k < 40 * s + 40) → g b k = h0 b k) → Al (k g) P) : ∀ (n : Nat) (v3 : Int32) (h : dH), 0 ≤ v3.toInt → v3.toInt ≤ N → (∀ j, j < v3.toInt.toNat → h 17 (40 * s + j) = F j) → (∀ b k, ¬ (b = 17 ∧ 40 * s ≤ k ∧ k < 40 * s + 40) → h b k = h0 b k) → Al (l_X7_film_39 v1 v2 k n v3 h) P
  | 0, _, _, _, _, _, _ => al_none
  | n + 1, v3, h, p0, p1, h1, h2 => by
    rw [l_X7_film_39, h2 0 13 (by omega)]
    have t := inc1 (v := v3) (by omega)
    have t40 : (40 : Int32).toInt = 40 := by decide
    have j0 : (40 * v1 : Int32).toInt = 40 * (s : Int) := i_mul t40 hs (by omega) (by omega)
    have j1 : (40 * v1 + v3).toInt = 40 * (s : Int) + v3.toInt := i_add j0 rfl (by omega) (by omega)
    refine al_ite (fun c => al_oP (fun r hr => al_ite (fun _ => al_oH' (fun g hg => ?_)) (fun _ => al_none))) (fun c => K h (fun j hj => h1 j (by omega)) h2)
    have es := strengthOf_ok hi (j := v3.toInt.toNat) (by omega) hi8 (by omega) r hr
    rw [h2 7 _ (by omega), hF _ (by omega)] at es
    rw [j1, show (40 * (s : Int) + v3.toInt).toNat = 40 * s + v3.toInt.toNat by omega, es] at hg
    refine film_39 hs hs4 hi hi8 hN hN8 hF K n (v3 + 1) g (by omega) (by omega) (fun j hj => ?_) (fun b k z => by rw [hg, dU_ne (by omega)]; exact h2 b k z)
    by_cases d : j = v3.toInt.toNat
    · rw [d, hg]; exact dU_eq
    · rw [hg, dU_ne (by omega)]; exact h1 j (by omega)
theorem op_film {hC hM : dH} (q : RR hC hM) (v1 v2 : Int32) : Op2 (f_X6_film v1 v2 hC) (f_X7_film v1 v2 hM) := by
  obtain ⟨C, M, W, R, T⟩ := q.st
  have N8 := M.2.2.2.1
  have M2 := M.2.2.1
  have C2 := C.2.2.1
  unfold Op2 f_X6_film
  refine al_sheet6 (fun r1 q1 => al_ite (fun z => al_some (al_sheet7 (fun r qr => al_ite (fun _ => al_some ⟨rfl, q⟩) (fun z1 => by omega)))) (fun z1 => al_house6 C2 (fun r4 q4 => al_ite (fun z => al_some (al_sheet7 (fun r qr => al_ite (fun w => by omega) (fun _ => al_house7 M2 N8 (fun r5 q5 => al_ite (fun _ => al_some ⟨rfl, q⟩) (fun w => by omega)))))) (fun z4 => al_oV' (fun g7 h7 => al_oV' (fun g8 h8 => al_ite (fun hs => al_oV' (fun g10 h10 => fun o ho => ?_)) (fun _ => al_none)))))))
  have b := become_ok (Or.inr (Or.inl rfl)) (Or.inl rfl) (by decide) hC g7 h7
  have C7 := b.sc (Or.inr (Or.inl rfl)) (Or.inl rfl) C
  obtain ⟨x1, x2, x3⟩ := holdFeast_ok (Or.inr (Or.inl rfl)) R C7 W g8 h8
  have v8 : cV g8 hC := (fFr.v x3 N8).trans b.v
  have L := lay_ok _ _ _ _ g10 h10
  obtain ⟨y1, y2, y3, y4⟩ := L
  have e43 : g8 43 2 = hC 43 2 := v8 43 2 (by omega)
  have e10 : (g10 43 2).toInt = yN (yOf 43 hC) := by rw [y4 43 2 (by omega) (by omega), e43]; exact C2
  have ok := film_58 (s := v1.toInt.toNat) (F := feastS (yOf 43 hC) (hC 43 0) (stOf 43 hC) v2.toInt.toNat) (h0 := g10) (v2 := v2) (by omega) e10 N8 (by omega) (by rw [y1]; decide) (fun j hj => ⟨by rw [y4 _ j (by omega) (by omega)]; exact x1.2.2.2.2.2.1 _ _ (by omega) hj, (x2.1 _ _ (by omega) hj).1, (x2.1 _ _ (by omega) hj).2.1⟩) fuel0 0 g10 (by decide) (by rw [ti0]; omega) (fun j hj => by rw [ti0] at hj; omega) (fun _ _ _ => rfl) o ho
  obtain ⟨o1, o2, o3⟩ := ok
  refine al_sheet7 (fun r qr => al_ite (fun w => by omega) (fun _ => al_house7 M2 N8 (fun r5 q5 => al_ite (fun w => by omega) (fun _ => al_oI (fun r7 k8 hk8 => al_oV' (fun k9 hk9 => al_oV' (fun k10 hk10 => ?_)))))))
  have m13 : hM 0 13 = hC 43 2 := q.1.2.2.1.symm
  have S8 := msheet_ok (h := hM) (P := mlQ v1 0 (hM 0 13) 1 hM) (v1 := v1) (v2 := 0) (v3 := hM 0 13) (fun z => by rw [ti0] at z; omega) (fun _ _ z => by omega) (fun _ z => by rw [ti0] at z; omega) (fun _ _ _ o ho => ho) (r7, k8) hk8
  obtain ⟨s1, s2, s3, s4, s5, s6⟩ := S8
  have s6' : ∀ a k, ¬ (a = 17 ∧ 40 * v1.toInt.toNat ≤ k ∧ k < 40 * v1.toInt.toNat + 40) → ¬ (14 ≤ a ∧ a ≤ 16 ∧ k = v1.toInt.toNat) → k8 a k = hM a k := s6
  have A := laysAside_ok k8 k9 hk9
  obtain ⟨a1, a2, a3⟩ := A
  have M8 : SM (yOf 43 hC) (hC 43 0) (stOf 43 hC) k8 := M.e (fun a k x y => s6' a k (by omega) (by omega))
  have M9 : SM (yOf 43 hC) (hC 43 0) (stOf 43 hC) k9 := M8.e (fun a k x y => a3 a k (by omega) (by omega))
  obtain ⟨f1, f2⟩ := feasts_ok M9 k10 hk10
  have f2' : ∀ a k, ¬ (a = 0 ∧ 14 ≤ k ∧ k ≤ 28) → ¬ (a = 0 ∧ k = 7) → ¬ a = 7 → k10 a k = k9 a k := f2
  refine film_39 (h0 := k10) (s := v1.toInt.toNat) (i := v2.toInt.toNat) (F := feastS (yOf 43 hC) (hC 43 0) (stOf 43 hC) v2.toInt.toNat) (by omega) (by omega) (by omega) (by omega) f1.2.2.1 N8 (fun j hj => f1.2.2.2.2.2.1 _ _ (by omega) hj) (fun g17 r1 r2 => al_oV' (fun gm hgm => al_some ?_)) fuel0 0 k10 (by decide) (by rw [ti0]; omega) (fun j hj => by rw [ti0] at hj; omega) (fun _ _ _ => rfl)
  obtain ⟨t1, t2, t3⟩ := laysBack_ok g17 gm hgm
  have m : ∀ a k, ¬ (a = 0 ∧ 14 ≤ k ∧ k ≤ 28) → ¬ (a = 0 ∧ k = 34) → ¬ (8 ≤ a ∧ a ≤ 10) → ¬ (a = 7 ∧ 64 ≤ k) → ¬ (14 ≤ a ∧ a ≤ 16 ∧ k = v1.toInt.toNat) → ¬ (a = 17 ∧ 40 * v1.toInt.toNat ≤ k ∧ k < 40 * v1.toInt.toNat + 40) → gm a k = hM a k := by
    intro a k z1 z2 z3 z4 z5 z6
    by_cases c7 : a = 7
    · rw [c7, t1 k (by omega), r2 9 k (by omega), f2' 9 k (by omega) (by omega) (by omega), a1 k (by omega)]
      exact s6' 7 k (by omega) (by omega)
    · by_cases c0 : a = 0 ∧ k = 7
      · rw [c0.1, c0.2, t2, r2 0 34 (by omega), f2' 0 34 (by omega) (by omega) (by omega), a2]
        exact s6' 0 7 (by omega) (by omega)
      · rw [t3 a k c7 c0, r2 a k (by omega), f2' a k z1 c0 c7, a3 a k (by omega) z2]
        exact s6' a k (by omega) (by omega)
  have low : ∀ a k, 14 ≤ a → a ≤ 16 → gm a k = k8 a k := fun a k z1 z2 => by
    rw [t3 a k (by omega) (by omega), r2 a k (by omega), f2' a k (by omega) (by omega) (by omega), a3 a k (by omega) (by omega)]
  refine ⟨?_, ?_⟩
  · rw [o1, y4 43 2 (by omega) (by omega), e43]
    show hC 43 2 = gm 0 13
    rw [m 0 13 (by omega) (by omega) (by omega) (by omega) (by omega) (by omega), m13]
  · show RR o.2 gm
    have e : ∀ a k, ((a = 0 ∧ (k = 3 ∨ k = 7)) ∨ (a = 1 ∧ k = 0) ∨ a = 5 ∨ (11 ≤ a ∧ a ≤ 32 ∧ (a % 4 = 3 ∨ a % 4 = 0)) ∨ (34 ≤ a ∧ a ≤ 41) ∨ (43 ≤ a ∧ a ≤ 55) ∨ (71 ≤ a ∧ a ≤ 83)) → ¬ a = 34 + 2 * v1.toInt.toNat → ¬ a = 34 + 2 * v1.toInt.toNat + 1 → o.2 a k = hC a k := fun a k x y z => by
      rw [o3 a k z, y4 a k y z]; exact v8 a k x
    refine q.sheets (fun a k x => e a k (by omega) (by omega) (by omega)) (fun a k z1 z2 z3 z4 z5 => m a k z1 z2 z3 z4 (by omega) (by omega)) (fun s hs4 => ?_)
    by_cases c : s = v1.toInt.toNat
    · rw [c]
      have i0 : o.2 (34 + 2 * v1.toInt.toNat) 0 = 0 := by rw [o3 _ 0 (by omega)]; exact y1
      have i1 : o.2 (34 + 2 * v1.toInt.toNat) 1 = hC 43 2 := by rw [o3 _ 1 (by omega), y2]; exact e43
      have k2 : gm 14 v1.toInt.toNat = 1 := (low 14 _ (by omega) (by omega)).trans s2
      have k3 : gm 15 v1.toInt.toNat = 0 := (low 15 _ (by omega) (by omega)).trans s3
      have k4 : gm 16 v1.toInt.toNat = hC 43 2 := ((low 16 _ (by omega) (by omega)).trans s4).trans m13
      refine Or.inr ⟨by rw [i0]; decide, by rw [i0]; decide, by rw [k2]; decide, by rw [i0, k3], by rw [i1, k4], by rw [i1]; omega, by rw [i1]; omega, fun i hi => ?_⟩
      rw [i1] at hi
      rw [o2 i (by omega), t3 17 _ (by omega) (by omega)]
      exact (r1 i (by omega)).symm
    · exact (q.2.2.2.2.1 s hs4).at (fun k => ⟨e _ k (by omega) (by omega) (by omega), e _ k (by omega) (by omega) (by omega)⟩) (fun a _ _ => m a s (by omega) (by omega) (by omega) (by omega) (by omega) (by omega)) (fun j hj => m 17 _ (by omega) (by omega) (by omega) (by omega) (by omega) (by omega))
end
end

section
/-! what a sheet tells: what stays of it -/
noncomputable section
theorem cFr.u {g h h0 : dH} (q : cFr 57 h h0) {a k : Nat} {x : Int32} (ha : (57 ≤ a ∧ a ≤ 70) ∨ (13 ≤ a ∧ a ≤ 33 ∧ a % 4 = 1)) (hg : g = dU h a k x) : cFr 57 g h0 := fun b j y z => by
  rw [hg, dU_ne (by omega)]; exact q b j y z
theorem zTm {a : Nat} (ha : zT a) : 13 ≤ a + 3 ∧ a + 3 ≤ 33 ∧ (a + 3) % 4 = 1 := by unfold zT at ha; omega
theorem value_23_f {a : Nat} (ha : zT a) {v1 : Int32} {a2 : Nat} {h0 : dH} {k : Int32 → dH → Option (Int32 × dH)} {P : Int32 × dH → Prop} (K : ∀ v g, cFr 57 g h0 → Al (k v g) P) : ∀ (n : Nat) (v4 v5 : Int32) (h : dH), cFr 57 h h0 → Al (l_X5_value_23 a v1 a2 k n v4 v5 h) P
  | 0, _, _, _, _ => al_none
  | n + 1, v4, v5, h, q => by
    have z := zTm ha
    rw [l_X5_value_23]
    have R : ∀ w4 w5 g, cFr 57 g h0 → Al (l_X5_value_23 a v1 a2 k n w4 w5 g) P := value_23_f ha K n
    have W : ∀ w4 w5 j x, Al (oH (dU h (a + 3) j x) (fun g => l_X5_value_23 a v1 a2 k n w4 w5 g)) P := fun w4 w5 j x => al_oH' (fun g hg => R _ _ g (q.u (Or.inr z) hg))
    exact al_ite (fun _ => al_ite (fun _ => al_ite (fun _ => al_ite (fun _ => al_ite (fun _ => al_ite (fun _ => al_ite (fun _ => al_ite (fun _ => al_oP (fun _ _ => al_ite (fun _ => W _ _ _ _) (fun _ => al_none))) (fun _ => al_none)) (fun _ => al_none)) (fun _ => R _ _ _ q)) (fun _ => al_ite (fun _ => al_ite (fun _ => al_oP (fun _ _ => al_ite (fun _ => W _ _ _ _) (fun _ => al_none))) (fun _ => al_none)) (fun _ => R _ _ _ q))) (fun _ => al_ite (fun _ => al_ite (fun _ => al_ite (fun _ => al_ite (fun _ => W _ _ _ _) (fun _ => al_none)) (fun _ => al_none)) (fun _ => al_ite (fun _ => W _ _ _ _) (fun _ => al_none))) (fun _ => R _ _ _ q))) (fun _ => al_none)) (fun _ => K _ _ q)) (fun _ => al_none)
theorem value_f {a : Nat} (ha : zT a) {v1 : Int32} {a2 : Nat} {h h0 : dH} (q : cFr 57 h h0) : Al (f_X5_value a v1 a2 h) (fun o => cFr 57 o.2 h0) := by
  unfold f_X5_value
  exact al_ite (fun _ => value_23_f ha (fun v g x => al_ite (fun _ => al_some x) (fun _ => al_some x)) _ _ _ h q) (fun _ => al_ite (fun _ => value_23_f ha (fun v g x => al_ite (fun _ => al_some x) (fun _ => al_some x)) _ _ _ h q) (fun _ => al_none))
theorem look_f {v1 v2 : Int32} {h h0 : dH} (q : cFr 57 h h0) : Al (f_X3_look 57 v1 v2 h) (fun g => cFr 57 g h0) := by
  unfold f_X3_look
  have L : (57 ≤ 57 + 13 ∧ 57 + 13 ≤ 70) ∨ (13 ≤ 57 + 13 ∧ 57 + 13 ≤ 33 ∧ (57 + 13) % 4 = 1) := by omega
  exact al_ite (fun _ => al_ite (fun _ => al_oH' (fun g3 q3 => al_ite (fun _ => al_oH' (fun g5 q5 => al_ite (fun _ => al_oH' (fun g7 q7 => al_ite (fun _ => al_oP (fun r9 _ => al_oH' (fun g10 q10 => al_oH' (fun g11 q11 => al_oH' (fun g12 q12 => al_some ((((((q.u L q3).u L q5).u L q7).u L q10).u L q11).u L q12)))))) (fun _ => al_none))) (fun _ => al_none))) (fun _ => al_none))) (fun _ => al_none)) (fun _ => al_none)
theorem meets_f {v1 v2 : Int32} {h h0 : dH} (q : cFr 57 h h0) : Al (f_X3_meets 57 v1 v2 h) (fun o => cFr 57 o.2 h0) := by
  unfold f_X3_meets
  refine al_oV' (fun g1 h1 => al_oI (fun r2 g3 h3 => ?_))
  have x1 := look_f q g1 h1
  have x3 : cFr 57 g3 h0 := value_f (zT_dtx _) x1 (r2, g3) h3
  repeat' (first | exact al_none | exact al_some x3 | refine al_ite (fun _ => ?_) (fun _ => ?_))
theorem tie_f {v1 v2 v3 : Int32} {h h0 : dH} (q : cFr 57 h h0) : Al (f_X3_tie 57 v1 v2 v3 h) (fun g => cFr 57 g h0) := by
  unfold f_X3_tie
  exact al_ite (fun c => al_ite (fun d => al_oH' (fun g2 q2 => al_ite (fun _ => al_ite (fun _ => al_oH' (fun g5 q5 => al_some ((q.u (Or.inl (by omega)) q2).u (Or.inl (by omega)) q5))) (fun _ => al_none)) (fun _ => al_none))) (fun _ => al_none)) (fun _ => al_none)
theorem holdFeast_14_f {v1 : Int32} {h0 : dH} {k : dH → Option dH} {P : dH → Prop} (K : ∀ g, cFr 57 g h0 → Al (k g) P) : ∀ (n : Nat) (v2 : Int32) (h : dH), cFr 57 h h0 → Al (l_X3_holdFeast_14 57 v1 k n v2 h) P
  | 0, _, _, _ => al_none
  | n + 1, v2, h, q => by
    rw [l_X3_holdFeast_14]
    have R : ∀ w2 g, cFr 57 g h0 → Al (l_X3_holdFeast_14 57 v1 k n w2 g) P := holdFeast_14_f K n
    exact al_ite (fun _ => al_ite (fun _ => al_ite (fun _ => R _ _ q) (fun _ => al_ite (fun _ => al_ite (fun _ => al_ite (fun _ => al_oI (fun r12 g13 h13 => al_oI (fun r14 g15 h15 => al_ite (fun _ => al_ite (fun _ => al_oV' (fun g18 h18 => R _ _ (tie_f (meets_f (meets_f q (r12, g13) h13) (r14, g15) h15) g18 h18))) (fun _ => al_none)) (fun _ => al_none)))) (fun _ => R _ _ q)) (fun _ => al_none)) (fun _ => al_none))) (fun _ => al_none)) (fun _ => K _ q)
theorem holdFeast_2_f {h0 : dH} {k : dH → Option dH} {P : dH → Prop} (K : ∀ g, cFr 57 g h0 → Al (k g) P) : ∀ (n : Nat) (v1 : Int32) (h : dH), cFr 57 h h0 → Al (l_X3_holdFeast_2 57 k n v1 h) P
  | 0, _, _, _ => al_none
  | n + 1, v1, h, q => by
    rw [l_X3_holdFeast_2]
    have R : ∀ w1 g, cFr 57 g h0 → Al (l_X3_holdFeast_2 57 k n w1 g) P := holdFeast_2_f K n
    exact al_ite (fun _ => holdFeast_14_f (fun g x => R _ g x) _ _ h q) (fun _ => K _ q)
theorem holdFeast_f {h h0 : dH} (q : cFr 57 h h0) : Al (f_X3_holdFeast 57 h) (fun g => cFr 57 g h0) := holdFeast_2_f (fun g x => al_some x) _ _ h q
theorem become_f {h h0 : dH} (q : cFr 57 h h0) : Al (f_X3_become 57 43 h) (fun g => cFr 57 g h0) := fun g hg b k y z => by
  rw [(become_ok (Or.inr (Or.inl rfl)) (Or.inl rfl) (by decide) h g hg).2.2.2.2.2.2 b k (by omega)]
  exact q b k y z
theorem suppose_f {v1 v2 v3 : Int32} {h h0 : dH} (q : cFr 57 h h0) : Al (f_X6_suppose v1 v2 v3 h) (fun g => cFr 57 g h0) := by
  unfold f_X6_suppose
  exact al_ite (fun _ => al_ite (fun _ => al_oH' (fun g hg => al_some (q.u (Or.inl (by omega)) hg))) (fun _ => al_none)) (fun _ => al_ite (fun _ => al_ite (fun _ => al_oH' (fun g hg => al_some (q.u (Or.inl (by omega)) hg))) (fun _ => al_none)) (fun _ => al_ite (fun _ => al_ite (fun _ => al_oH' (fun g hg => al_some (q.u (Or.inl (by omega)) hg))) (fun _ => al_none)) (fun _ => al_ite (fun _ => al_oH' (fun g hg => al_some (q.u (Or.inl (by omega)) hg))) (fun _ => al_none))))
theorem possible_13_f {a1 : Nat} {v2 v3 v5 : Int32} {h0 : dH} {k : Int32 → dH → Option (Int32 × dH)} {P : Int32 × dH → Prop} (K : ∀ v g, cFr 57 g h0 → Al (k v g) P) : ∀ (n : Nat) (v4 v6 : Int32) (h : dH), cFr 57 h h0 → Al (l_X6_possible_13 a1 v2 v3 v5 k n v4 v6 h) P
  | 0, _, _, _, _ => al_none
  | n + 1, v4, v6, h, q => by
    rw [l_X6_possible_13]
    have R : ∀ w4 w6 g, cFr 57 g h0 → Al (l_X6_possible_13 a1 v2 v3 v5 k n w4 w6 g) P := possible_13_f K n
    exact al_ite (fun _ => al_oV' (fun g4 h4 => al_oV' (fun g5 h5 => al_oV' (fun g6 h6 => al_ite (fun _ => al_oP (fun r8 _ => al_ite (fun _ => R _ _ _ (holdFeast_f (suppose_f (become_f q g4 h4) g5 h5) g6 h6)) (fun _ => R _ _ _ (holdFeast_f (suppose_f (become_f q g4 h4) g5 h5) g6 h6)))) (fun _ => al_none))))) (fun _ => K _ _ q)
theorem tells6 (v1 v2 v3 : Int32) (h : dH) : Al (f_X6_tells v1 v2 v3 h) (fun o => cV o.2 h) := by
  have q := cFr.refl 57 h
  unfold f_X6_tells
  refine al_oP (fun r1 _ => al_ite (fun _ => al_some (cV.refl h)) (fun _ => al_oP (fun r4 _ => al_ite (fun _ => al_some (cV.refl h)) (fun _ => al_ite (fun _ => al_some (cV.refl h)) (fun _ => al_ite (fun _ => al_some (cV.refl h)) (fun _ => al_ite (fun _ => al_oP (fun r12 _ => al_ite (fun _ => al_ite (fun _ => al_ite (fun _ => al_oI (fun r g hr => al_some ?_)) (fun _ => al_ite (fun _ => al_oP (fun _ _ => al_some (cV.refl h))) (fun _ => al_ite (fun _ => al_oP (fun _ _ => al_some (cV.refl h))) (fun _ => al_oI (fun r g hr => al_some ?_))))) (fun _ => al_some (cV.refl h))) (fun _ => al_some (cV.refl h)))) (fun _ => al_none)))))))
  · refine (show Al (f_X6_otherwise (34 + 2 * v1.toInt.toNat) v2 h) (fun o => cV o.2 h) from ?_) (r, g) hr
    unfold f_X6_otherwise
    exact al_oV' (fun g1 h1 => al_oV' (fun g2 h2 => al_ite (fun _ => al_oP (fun _ _ => al_some (holdFeast_f (become_f q g1 h1) g2 h2).v)) (fun _ => al_none)))
  · refine (show Al (f_X6_possible (34 + 2 * v1.toInt.toNat) v2 v3 h) (fun o => cV o.2 h) from ?_) (r, g) hr
    unfold f_X6_possible
    exact al_oP (fun r1 _ => possible_13_f (fun v g x => al_some x.v) _ _ _ h q)
/-! the reference -/
theorem unlike_13_f {v1 v2 : Int32} {h : dH} {k : Int32 → Option (Int32 × dH)} {P : Int32 × dH → Prop} (K : ∀ v, Al (k v) P) : ∀ (n : Nat) (v3 v4 : Int32), Al (l_X7_unlike_13 v1 v2 h k n v3 v4) P
  | 0, _, _ => al_none
  | n + 1, v3, v4 => by
    rw [l_X7_unlike_13]
    have R : ∀ w3 w4, Al (l_X7_unlike_13 v1 v2 h k n w3 w4) P := unlike_13_f K n
    exact al_ite (fun _ => al_oP (fun _ _ => al_ite (fun _ => al_ite (fun _ => R _ _) (fun _ => R _ _)) (fun _ => al_none))) (fun _ => K _)
theorem unlike_f {Y : zY} {y : Int32} {st : zT2} {h : dH} (M : SM Y y st h) (v1 v2 : Int32) : Al (f_X7_unlike v1 v2 h) (fun o => bFr o.2 h) := by
  unfold f_X7_unlike
  refine al_oV' (fun g1 h1 => al_oV' (fun g2 h2 => unlike_13_f (fun v => al_oV' (fun g h3 => al_some ?_)) _ _ _))
  have q1 := laysAside_ok h g1 h1
  obtain ⟨-, f2⟩ := feasts_ok (aside_sm M q1) g2 h2
  exact back_b q1 f2.w (laysBack_ok g2 g h3)
theorem limitsBy_31_f {v1 v2 : Int32} {h : dH} {k : Int32 → Option (Int32 × dH)} {P : Int32 × dH → Prop} (K : ∀ v, Al (k v) P) : ∀ (n : Nat) (v7 v8 : Int32), Al (l_X7_limitsBy_31 v1 v2 h k n v7 v8) P
  | 0, _, _ => al_none
  | n + 1, v7, v8 => by
    rw [l_X7_limitsBy_31]
    have R : ∀ w3 w4, Al (l_X7_limitsBy_31 v1 v2 h k n w3 w4) P := limitsBy_31_f K n
    exact al_ite (fun _ => al_ite (fun _ => R _ _) (fun _ => al_ite (fun _ => R _ _) (fun _ => al_oP (fun _ _ => al_ite (fun _ => al_ite (fun _ => al_ite (fun _ => R _ _) (fun _ => R _ _)) (fun _ => al_ite (fun _ => R _ _) (fun _ => R _ _))) (fun _ => al_none))))) (fun _ => K _)
theorem limitsBy_18_f {v1 v2 : Int32} {h0 : dH} {k : Int32 → Int32 → dH → Option (Int32 × dH)} {P : Int32 × dH → Prop} (K : ∀ v w g, (∀ a j, ¬ (a = 0 ∧ j = 8) → g a j = h0 a j) → Al (k v w g) P) : ∀ (n : Nat) (v5 v6 : Int32) (h : dH), (∀ a j, ¬ (a = 0 ∧ j = 8) → h a j = h0 a j) → Al (l_X7_limitsBy_18 v1 v2 k n v5 v6 h) P
  | 0, _, _, _, _ => al_none
  | n + 1, v5, v6, h, q => by
    rw [l_X7_limitsBy_18]
    have R : ∀ w3 w4 g x, g = dU h 0 8 x → Al (l_X7_limitsBy_18 v1 v2 k n w3 w4 g) P := fun w3 w4 g x e => limitsBy_18_f K n w3 w4 g (fun a j z => by rw [e, dU_ne z]; exact q a j z)
    exact al_ite (fun _ => limitsBy_31_f (fun v => al_ite (fun _ => al_ite (fun _ => al_oH' (fun g hg => R _ _ g _ hg)) (fun _ => al_oH' (fun g hg => R _ _ g _ hg))) (fun _ => al_ite (fun _ => al_oH' (fun g hg => R _ _ g _ hg)) (fun _ => al_oH' (fun g hg => R _ _ g _ hg)))) _ _ _) (fun _ => K _ _ _ q)
theorem limitsBy_f (v1 v2 v3 : Int32) (h : dH) : Al (f_X7_limitsBy v1 v2 v3 h) (fun o => bFr o.2 h) := by
  unfold f_X7_limitsBy
  refine al_oH' (fun g1 q1 => limitsBy_18_f (h0 := h) (fun v w g x => al_oH' (fun g35 q35 => ?_)) _ _ _ g1 (fun a j z => by rw [q1]; exact dU_ne z))
  have e : bFr g35 h := fun a k _ _ _ _ => by
    by_cases c : a = 0 ∧ k = 8
    · rw [c.1, c.2, q35]; exact dU_eq
    · rw [q35, dU_ne c]; exact x a k c
  exact al_ite (fun _ => al_some e) (fun _ => al_some e)
def cA (v : Int32) : Nat := if v.toInt = 2 then 5 else if v.toInt = 3 then 6 else if v.toInt = 4 then 4 else 0
def cK (v w : Int32) : Nat := if v.toInt = 5 then 4 else w.toInt.toNat
theorem lays_f {v1 v2 v3 : Int32} (h2 : 2 ≤ v1.toInt ∧ v1.toInt ≤ 5) {h : dH} : Al (f_X7_lays v1 v2 v3 h) (fun g => g = dU h (cA v1) (cK v1 v2) v3) := by
  unfold f_X7_lays cA cK
  refine al_ite (fun z => by omega) (fun _ => al_ite (fun z => by omega) (fun _ => al_ite (fun z => al_ite (fun _ => al_oH' (fun g hg => al_some ?_)) (fun _ => al_none)) (fun z2 => al_ite (fun z => al_ite (fun _ => al_oH' (fun g hg => al_some ?_)) (fun _ => al_none)) (fun z3 => al_ite (fun z => al_ite (fun _ => al_oH' (fun g hg => al_some ?_)) (fun _ => al_none)) (fun z4 => al_oH' (fun g hg => al_some ?_))))))
  · rw [if_pos z, if_neg (by omega)]; exact hg
  · rw [if_neg z2, if_pos z, if_neg (by omega)]; exact hg
  · rw [if_neg z2, if_neg z3, if_pos z, if_neg (by omega)]; exact hg
  · rw [if_neg z2, if_neg z3, if_neg z4, if_pos (by omega)]; exact hg
def tF (ca ck : Nat) (g h : dH) : Prop := ∀ a k, ¬ (a = 0 ∧ 14 ≤ k ∧ k ≤ 28) → ¬ (a = 0 ∧ k = 34) → ¬ (8 ≤ a ∧ a ≤ 10) → ¬ (a = 7 ∧ 64 ≤ k) → ¬ (a = ca ∧ k = ck) → g a k = h a k
theorem tells_175_f {v1 v2 v4 v6 : Int32} (h2 : 2 ≤ v4.toInt ∧ v4.toInt ≤ 5) (h6 : v6.toInt ≤ 10) {h0 : dH} {y : Int32} {st : zT2} (G : ∀ (x : Int32) (g : dH), 0 ≤ x.toInt → x.toInt < v6.toInt → tF (cA v4) (cK v4 v2) g h0 → g (cA v4) (cK v4 v2) = x → ∃ Y, SM Y y st g) {k : Int32 → dH → Option (Int32 × dH)} {P : Int32 × dH → Prop} (K : ∀ v g, tF (cA v4) (cK v4 v2) g h0 → Al (k v g) P) : ∀ (n : Nat) (v7 v8 : Int32) (h : dH), 0 ≤ v8.toInt → tF (cA v4) (cK v4 v2) h h0 → Al (l_X7_tells_175 v1 v2 v4 v6 k n v7 v8 h) P
  | 0, _, _, _, _, _ => al_none
  | n + 1, v7, v8, h, p0, q => by
    rw [l_X7_tells_175]
    refine al_ite (fun c => al_oV' (fun g36 h36 => al_oI (fun r37 g38 h38 => ?_))) (fun c => K _ _ q)
    have x1 := lays_f h2 g36 h36
    have q36 : tF (cA v4) (cK v4 v2) g36 h0 := fun a k z1 z2 z3 z4 z5 => by rw [x1, dU_ne z5]; exact q a k z1 z2 z3 z4 z5
    obtain ⟨Y, M⟩ := G v8 g36 p0 c q36 (by rw [x1]; exact dU_eq)
    have b : bFr g38 g36 := unlike_f M v1 v2 (r37, g38) h38
    have t := inc1 (v := v8) (by omega)
    have R : ∀ w, Al (l_X7_tells_175 v1 v2 v4 v6 k n w (v8 + 1) g38) P := fun w => tells_175_f h2 h6 G K n w (v8 + 1) g38 (by omega) (fun a k z1 z2 z3 z4 z5 => (b a k z1 z2 z3 z4).trans (q36 a k z1 z2 z3 z4 z5))
    exact al_ite (fun _ => R _) (fun _ => R _)
end
end

section
/-! what a sheet tells: on both sides -/
noncomputable section
def Op2s (t u : Option (Int32 × dH)) : Prop := Al t (fun o => Al u (fun o2 => RR o.2 o2.2))
theorem Op2.s {t u : Option (Int32 × dH)} (q : Op2 t u) : Op2s t u := fun o ho o2 ho2 => (q o ho o2 ho2).2
theorem SM.cell {Y : zY} {y : Int32} {st : zT2} {g h : dH} (M : SM Y y st h) {ca ck : Nat} (hc : ca = 4 ∨ ca = 5 ∨ ca = 6) (q : tF ca ck g h) : ∃ Y', SM Y' y st g := by
  obtain ⟨h0, h1, h2, h3, h4, h5, h6⟩ := M
  have e : ∀ a k, ¬ (a = 0 ∧ 14 ≤ k ∧ k ≤ 28) → ¬ (a = 0 ∧ k = 34) → ¬ (8 ≤ a ∧ a ≤ 10) → ¬ (a = 7 ∧ 64 ≤ k) → ¬ (a = ca ∧ k = ck) → g a k = h a k := q
  refine ⟨(yN Y, yL Y, g 4, g 5, g 6, yE Y), ?_, ?_, ?_, h3, fun _ _ => ⟨rfl, rfl, rfl⟩, fun i j hi hj => ?_, h6.same (fun k => e 1 k (by omega) (by omega) (by omega) (by omega) (by omega)) (fun k => e 2 k (by omega) (by omega) (by omega) (by omega) (by omega)) (e 0 4 (by omega) (by omega) (by omega) (by omega) (by omega))⟩
  · rw [e 0 7 (by omega) (by omega) (by omega) (by omega) (by omega)]; exact h0
  · rw [e 0 8 (by omega) (by omega) (by omega) (by omega) (by omega)]; exact h1
  · rw [e 0 13 (by omega) (by omega) (by omega) (by omega) (by omega)]; exact h2
  · have hi' : i < 8 := Nat.lt_of_lt_of_le hi h3
    have hj' : j < 8 := Nat.lt_of_lt_of_le hj h3
    rw [e 7 _ (by omega) (by omega) (by omega) (by omega) (by omega)]; exact h5 i j hi hj
theorem RR.ruleSM {hC hM : dH} (q : RR hC hM) {x : Int32} (hx : 0 ≤ x.toInt) (hx2 : x.toInt < (hM 0 3).toInt) {g : dH} (F : tF 0 4 g hM) (e4 : g 0 4 = x) : ∃ Y, SM Y (hC 43 0) (stOf 43 hC) g := by
  obtain ⟨C, M, W, R, T⟩ := q.st
  obtain ⟨h0, h1, h2, h3, h4, h5, h6⟩ := M
  obtain ⟨t1, t2, t3, t4⟩ := q.2.2.1
  obtain ⟨s1, s2, s3⟩ := t4 x.toInt.toNat (by rw [t1]; omega)
  have e : ∀ a k, ¬ (a = 0 ∧ 14 ≤ k ∧ k ≤ 28) → ¬ (a = 0 ∧ k = 34) → ¬ (8 ≤ a ∧ a ≤ 10) → ¬ (a = 7 ∧ 64 ≤ k) → ¬ (a = 0 ∧ k = 4) → g a k = hM a k := F
  refine ⟨(yN (yOf 43 hC), yL (yOf 43 hC), g 4, g 5, g 6, evF hC (10 + 4 * x.toInt.toNat)), ?_, ?_, ?_, h3, fun _ _ => ⟨rfl, rfl, rfl⟩, fun i j hi hj => ?_, fun h' v1 v2 o pt a1 a2 a3 a4 a5 a6 => ?_⟩
  · rw [e 0 7 (by omega) (by omega) (by omega) (by omega) (by omega)]; exact h0
  · rw [e 0 8 (by omega) (by omega) (by omega) (by omega) (by omega)]; exact h1
  · rw [e 0 13 (by omega) (by omega) (by omega) (by omega) (by omega)]; exact h2
  · have hi' : i < 8 := Nat.lt_of_lt_of_le hi h3
    have hj' : j < 8 := Nat.lt_of_lt_of_le hj h3
    rw [e 7 _ (by omega) (by omega) (by omega) (by omega) (by omega)]; exact h5 i j hi hj
  · obtain ⟨y1, y2⟩ := s3 h' v1 v2 o pt (fun j _ => (a1 _).trans (e 1 _ (by omega) (by omega) (by omega) (by omega) (by omega))) ((a2 _).trans (e 2 _ (by omega) (by omega) (by omega) (by omega) (by omega))) a3 (by rw [a4, e4]; omega) a5 a6
    exact ⟨y1, (evF_of y2).symm⟩
theorem tells7 {hC hM : dH} (q : RR hC hM) (v1 v2 v3 : Int32) : Al (f_X7_tells v1 v2 v3 hM) (fun o => bFr o.2 hM) := by
  obtain ⟨C, M, W, R, T⟩ := q.st
  have N8 := M.2.2.2.1
  have l0 := L0
  have l6 := L6
  have n0 := q.2.2.2.2.2
  have ti2 : (2 : Int32).toInt = 2 := by decide
  have ti3 : (3 : Int32).toInt = 3 := by decide
  have ti4 : (4 : Int32).toInt = 4 := by decide
  have ti5 : (5 : Int32).toInt = 5 := by decide
  have ti6 : (6 : Int32).toInt = 6 := by decide
  have ti10 : (10 : Int32).toInt = 10 := by decide
  have b0 : bFr hM hM := fun _ _ _ _ _ _ => rfl
  have hc3 : (hM 0 3).toInt ≤ 6 := by rw [← q.2.2.1.1]; exact q.2.2.1.2.2.1
  have tF0 : ∀ {ca ck : Nat} {g : dH}, mFr g hM → tF ca ck g hM := fun F a k z1 _ _ _ _ => F a k z1
  -- a loop over one cell of it, laid back at the end
  have L : ∀ (v4 v6 r : Int32) (g : dH), 2 ≤ v4.toInt ∧ v4.toInt ≤ 5 → v6.toInt ≤ 10 → (∀ (x : Int32) (g : dH), 0 ≤ x.toInt → x.toInt < v6.toInt → tF (cA v4) (cK v4 v2) g hM → g (cA v4) (cK v4 v2) = x → ∃ Y, SM Y (hC 43 0) (stOf 43 hC) g) → mFr g hM → r = hM (cA v4) (cK v4 v2) → Al (l_X7_tells_175 v1 v2 v4 v6 (fun w g43 => oV (f_X7_lays v4 v2 r g43) (fun g44 => some (w, g44))) fuel0 0 0 g) (fun o => bFr o.2 hM) := fun v4 v6 r g h2 h6 G F er => tells_175_f h2 h6 G (fun w g43 x => al_oV' (fun g44 h44 => al_some (fun a k z1 z2 z3 z4 => by
      have e := lays_f h2 g44 h44
      show g44 a k = hM a k
      by_cases c : a = cA v4 ∧ k = cK v4 v2
      · rw [c.1, c.2, e, dU_eq]; exact er
      · rw [e, dU_ne c]; exact x a k z1 z2 z3 z4 c))) fuel0 0 0 g (by decide) (tF0 F)
  -- of a kind, a number, a table
  have G1 : ∀ (v4 v6 : Int32), 2 ≤ v4.toInt ∧ v4.toInt ≤ 4 → ∀ (x : Int32) (g : dH), 0 ≤ x.toInt → x.toInt < v6.toInt → tF (cA v4) (cK v4 v2) g hM → g (cA v4) (cK v4 v2) = x → ∃ Y, SM Y (hC 43 0) (stOf 43 hC) g := fun v4 v6 h x g _ _ F _ => M.cell (by
    unfold cA
    have : v4.toInt = 2 ∨ v4.toInt = 3 ∨ v4.toInt = 4 := by omega
    rcases this with e | e | e
    · exact Or.inr (Or.inl (if_pos e))
    · exact Or.inr (Or.inr ((if_neg (by omega)).trans (if_pos e)))
    · exact Or.inl ((if_neg (by omega)).trans ((if_neg (by omega)).trans (if_pos e)))) F
  have c5 : cA 5 = 0 ∧ cK 5 v2 = 4 := ⟨by decide, if_pos ti5⟩
  have c4 : cA 4 = 4 ∧ cK 4 v2 = v2.toInt.toNat := ⟨by decide, if_neg (by decide)⟩
  unfold f_X7_tells
  refine al_sheet7 (fun r1 q1 => al_ite (fun _ => al_some b0) (fun z1 => al_house7 M.2.2.1 N8 (fun r4 q4 => al_ite (fun _ => al_some b0) (fun z4 => al_in (fun r7 q7 => al_ite (fun _ => al_some b0) (fun z7 => al_ite (fun _ => al_ite (fun _ => al_some b0) (fun _ => al_ite (fun _ => al_ite (fun _ => al_ite (fun c0 => al_oI (fun r g hr => al_some (unlike_f M v1 v2 (r, g) hr))) (fun c0 => al_ite (fun c4' => al_ite (fun _ => al_oI (fun r g hr => al_some (limitsBy_f _ _ _ _ (r, g) hr))) (fun _ => al_oI (fun r g hr => al_some (limitsBy_f _ _ _ _ (r, g) hr)))) (fun c4' => ?_))) (fun _ => al_some b0)) (fun _ => al_none))) (fun _ => al_none)))))))
  refine al_ite (fun d1 => al_oI (fun r30 g31 h30 => al_ite (fun _ => ?_) (fun z => absurd d1 z))) (fun d1 => al_ite (fun d4 => al_ite (fun z => absurd z d1) (fun _ => al_ite (fun z => by omega) (fun _ => al_ite (fun z => by omega) (fun _ => ?_)))) (fun d4 => al_ite (fun z => by omega) (fun _ => al_oI (fun r109 g110 h109 => al_ite (fun z => absurd z d1) (fun _ => al_ite (fun d2 => ?_) (fun d2 => al_ite (fun d3 => ?_) (fun d3 => by omega)))))))
  · obtain ⟨x1, x2⟩ := mtold_ok M n0 (r30, g31) h30
    have x1' : r30 = _ := x1
    rw [td4 ti4 (by omega)] at x1'
    refine L 4 6 r30 g31 (by omega) (by omega) (G1 4 6 (by omega)) x2 ?_
    rw [c4.1, c4.2, x1']
    exact ((M.2.2.2.2.1 _ (by omega)).1).symm
  · refine L 5 (hM 0 3) (hM 0 4) hM (by omega) (by omega) (fun x g p0 p1 F e => ?_) (mFr.refl hM) (by rw [c5.1, c5.2])
    rw [c5.1, c5.2] at F e
    exact q.ruleSM p0 p1 F e
  · obtain ⟨x1, x2⟩ := mtold_ok M n0 (r109, g110) h109
    have x1' : r109 = _ := x1
    rw [td2 d2 (by omega)] at x1'
    refine L v3 10 r109 g110 (by omega) (by omega) (G1 v3 10 (by omega)) x2 ?_
    have e1 : cA v3 = 5 := if_pos d2
    have e2 : cK v3 v2 = v2.toInt.toNat := if_neg (by omega)
    rw [e1, e2, x1']
    exact ((M.2.2.2.2.1 _ (by omega)).2.1).symm
  · obtain ⟨x1, x2⟩ := mtold_ok M n0 (r109, g110) h109
    have x1' : r109 = _ := x1
    rw [td3 d3 (by omega)] at x1'
    refine L v3 4 r109 g110 (by omega) (by omega) (G1 v3 4 (by omega)) x2 ?_
    have e1 : cA v3 = 6 := (if_neg (by omega)).trans (if_pos d3)
    have e2 : cK v3 v2 = v2.toInt.toNat := if_neg (by omega)
    rw [e1, e2, x1']
    exact ((M.2.2.2.2.1 _ (by omega)).2.2).symm
theorem op_tells {hC hM : dH} (q : RR hC hM) (v1 v2 v3 : Int32) : Op2s (f_X6_tells v1 v2 v3 hC) (f_X7_tells v1 v2 v3 hM) := fun o ho o2 ho2 => q.keep (tells6 v1 v2 v3 hC o ho) (tells7 q v1 v2 v3 o2 ho2)
end
end

section
/-! texts: on both sides -/
noncomputable section
theorem ex1_nm {nm nm' : Nat → Int32} (e : ∀ k, k < 6 → nm k = nm' k) (x : Int32) (st : List Int32) : ex1 nm x st = ex1 nm' x st := by
  unfold ex1
  by_cases c : -6 ≤ x.toInt
  · rw [if_pos c, if_pos c]
    by_cases d : 0 ≤ x.toInt
    · rw [if_pos d, if_pos d]
    · rw [if_neg d, if_neg d, e _ (by omega)]
  · rw [if_neg c, if_neg c]
theorem exR_nm {nm nm' : Nat → Int32} (e : ∀ k, k < 6 → nm k = nm' k) (f : Nat → Int32) : ∀ (m a : Nat) (st : List Int32), exR nm f m a st = exR nm' f m a st
  | 0, _, _ => rfl
  | m + 1, a, st => by
    rw [exR, exR, ex1_nm e]
    cases ex1 nm' (f a) st with
    | none => rfl
    | some st' => exact exR_nm e f m (a + 1) st'
theorem i32_ofN {n : Nat} (h : n < 1000) : (Int32.ofNat n).toInt = n := by
  have e := Int32.toInt_ofNat_of_lt (n := n) (by omega)
  exact e
/-- a text that was read says what its bytes say -/
theorem sem_new {t : Nat} (ht : t < 6) {hC : dH} (c0 : 0 ≤ (hC 1 0).toInt) (c1 : (hC 1 0).toInt ≤ 160) (cb : ∀ j, j < cN hC → 0 ≤ cB hC j ∧ cB hC j ≤ 255) {r : Int32} {g : dH} (hr : f_X1_readInto (10 + 4 * t) hC = some (r, g)) (hok : r.toInt = -1) {gM : dH} (I : InvM gM) (x : mTx gM t (cB hC) (cN hC)) : Sem g gM t := by
  have vt := i32_ofN (n := t) (by omega)
  have B := read_both (zT6 ht) ht vt c0 c1 cb (r, g) hr
  have go : ∀ (h : dH) (v2 : Int32) (o : Int32 × dH), mTx h t (cB hC) (cN hC) → f_X7_read (Int32.ofNat t) v2 h = some o → mRd o.2 h ∧ tOk g (10 + 4 * t) ∧ ∀ pt : Nat, pt < 3 → v2.toInt = pt → tEv g (10 + 4 * t) (nmF h) pt = some [o.1] := fun h v2 o a b => by
    obtain ⟨-, y2, y3⟩ := B h v2 o a b
    rcases y3 with ⟨-, -, y4, y5⟩ | ⟨y4, -⟩
    · exact ⟨y2, y4, y5⟩
    · exact absurd hok y4
  refine ⟨?_, fun nm pt hp => ?_, fun h' v1 v2 o pt a1 a2 a3 a4 a5 a6 => ?_⟩
  · obtain ⟨o, ho, -⟩ := s_X7_read gM I (Int32.ofNat t) 0 (by omega)
    exact (go gM 0 o x ho).2.1
  · have I' : InvM (fun a k => if a = 0 ∧ 14 ≤ k ∧ k < 20 then nm (k - 14) else gM a k) := by
      refine ⟨fun a k lo hi hb => ?_, fun s hs hn => ?_⟩
      · by_cases c : a = 0 ∧ 14 ≤ k ∧ k < 20
        · exfalso
          unfold bndM at hb
          rw [if_pos c.1, if_neg (by omega), if_neg (by omega), if_neg (by omega), if_neg (by omega), if_neg (by omega), if_neg (by omega)] at hb
          cases hb
        · simp only
          rw [if_neg c]; exact I.1 a k lo hi hb
      · simp only at hn ⊢
        rw [if_neg (by omega)] at hn ⊢
        exact I.2 s hs hn
    have vp := i32_ofN (n := pt) (by omega)
    obtain ⟨o, ho, -⟩ := s_X7_read _ I' (Int32.ofNat t) (Int32.ofNat pt) (by omega)
    have x' : mTx (fun a k => if a = 0 ∧ 14 ≤ k ∧ k < 20 then nm (k - 14) else gM a k) t (cB hC) (cN hC) := ⟨by simp only; rw [if_neg (by omega)]; exact x.1, fun j hj => by simp only; rw [if_neg (by omega)]; exact x.2 j hj⟩
    have y := (go _ _ o x' ho).2.2 pt hp vp
    refine ⟨o.1, ?_⟩
    rw [← y]
    unfold tEv
    refine exR_nm (fun k hk => ?_) _ _ _ _
    unfold nmF
    rw [if_pos hk]
    simp only
    rw [if_pos ⟨trivial, by omega, by omega⟩, show 14 + k - 14 = k by omega]
  · have e : v1 = Int32.ofNat t := Int32.toInt_inj.mp (a4.trans vt.symm)
    rw [e] at a6
    have x' : mTx h' t (cB hC) (cN hC) := ⟨by rw [a2]; exact x.1, fun j hj => by
      have : cN hC ≤ 160 := by unfold cN; omega
      rw [a1 j (by omega)]; exact x.2 j hj⟩
    obtain ⟨y1, -, y3⟩ := go h' v2 o x' a6
    exact ⟨y1, y3 pt a3 a5⟩
theorem text_14 {t N : Nat} {h0 : dH} (ht : (h0 0 3).toInt = t) (ht6 : t < 6) (hN : (h0 0 6).toInt = N) (hN2 : N ≤ 160) {k : dH → Option (Int32 × dH)} {P : Int32 × dH → Prop} (K : ∀ g : dH, (∀ j, j < N → g 1 (160 * t + j) = h0 3 j) → (∀ a j, ¬ (a = 1 ∧ 160 * t ≤ j ∧ j < 160 * t + 160) → g a j = h0 a j) → (∀ j, g 1 j = h0 1 j ∨ ∃ i, i < N ∧ g 1 j = h0 3 i) → Al (k g) P) : ∀ (n : Nat) (v1 : Int32) (h : dH), 0 ≤ v1.toInt → v1.toInt ≤ N → (∀ j, j < v1.toInt.toNat → h 1 (160 * t + j) = h0 3 j) → (∀ a j, ¬ (a = 1 ∧ 160 * t ≤ j ∧ j < 160 * t + 160) → h a j = h0 a j) → (∀ j, h 1 j = h0 1 j ∨ ∃ i, i < N ∧ h 1 j = h0 3 i) → Al (l_X7_text_14 k n v1 h) P
  | 0, _, _, _, _, _, _, _ => al_none
  | n + 1, v1, h, p0, p1, h1, h2, h3 => by
    rw [l_X7_text_14, h2 0 6 (by omega), h2 0 3 (by omega), h2 3 _ (by omega)]
    have tt := inc1 (v := v1) (by omega)
    have t160 : (160 : Int32).toInt = 160 := by decide
    have j0 : (160 * h0 0 3 : Int32).toInt = 160 * (t : Int) := i_mul t160 ht (by omega) (by omega)
    have j1 : (160 * h0 0 3 + v1).toInt = 160 * (t : Int) + v1.toInt := i_add j0 rfl (by omega) (by omega)
    refine al_ite (fun c => al_ite (fun _ => al_ite (fun _ => al_oH' (fun g hg => ?_)) (fun _ => al_none)) (fun _ => al_none)) (fun c => K h (fun j hj => h1 j (by omega)) h2 h3)
    rw [j1, show (160 * (t : Int) + v1.toInt).toNat = 160 * t + v1.toInt.toNat by omega] at hg
    refine text_14 ht ht6 hN hN2 K n (v1 + 1) g (by omega) (by omega) (fun j hj => ?_) (fun a j z => by rw [hg, dU_ne (by omega)]; exact h2 a j z) (fun j => ?_)
    · by_cases d : j = v1.toInt.toNat
      · rw [d, hg]; exact dU_eq
      · rw [hg, dU_ne (by omega)]; exact h1 j (by omega)
    · by_cases d : j = 160 * t + v1.toInt.toNat
      · exact Or.inr ⟨v1.toInt.toNat, by omega, by rw [d, hg]; exact dU_eq⟩
      · rw [hg, dU_ne (fun z => d z.2)]; exact h3 j
end
end
