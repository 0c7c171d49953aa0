/-! binds, rules, the tape: on both sides -/
noncomputable section
theorem Wf.tie' {N : Nat} {st : zT2} (W : Wf N st) {i j : Nat} (hij : ¬ i = j) {v : Int32} (hv : 0 ≤ v.toInt ∧ v.toInt ≤ 99) : Wf N (tieS st i j v) := by
  refine ⟨fun a b ha hb => ?_, fun a ha => ?_⟩
  · obtain ⟨w1, w2, w3⟩ := W.1 a b ha hb
    unfold tieS
    by_cases c : (a = i ∧ b = j) ∨ (a = j ∧ b = i)
    · rw [if_pos c, if_pos (by omega)]; exact ⟨hv.1, hv.2, rfl⟩
    · rw [if_neg c, if_neg (by omega)]; exact ⟨w1, w2, w3⟩
  · unfold tieS
    rw [if_neg (by omega)]
    exact W.2 a ha
theorem w99_id {v : Int32} (hv : 0 ≤ v.toInt ∧ v.toInt ≤ 99) : w99 v = v := by
  unfold w99
  rw [if_neg (by omega), if_neg (by omega)]
theorem op_bind {hC hM : dH} (q : RR hC hM) (v1 v2 v3 : Int32) : Op2 (f_X6_bind v1 v2 v3 hC) (f_X7_bind v1 v2 v3 hM) := by
  obtain ⟨C, M, W, R, T⟩ := q.st
  have l0 := L0
  have l99 := L99
  have N8 := M.2.2.2.1
  unfold Op2 f_X6_bind
  refine al_oP (fun r1 h1 => ?_)
  have q1 := two6 C.2.2.1 r1 h1
  unfold twQ at q1
  have m1 : ∀ {P : Int32 × dH → Prop}, (∀ r5 : Int32, twQ (yN (yOf 43 hC)) v1 v2 r5 → Al (if r5.toInt = 0 then (some ((-2 : Int32), hM)) else (oP (f_X7_in (v3.toInt64) 0 99) (fun r4 => if r4.toInt = 0 then (some ((-2), hM)) else (oP (f_X7_strengthOf v1 v2 hM) (fun r7 => oV (f_X7_binds v1 v2 v3 hM) (fun g8 => some (r7, g8))))))) P) → Al (f_X7_bind v1 v2 v3 hM) P := fun k => al_oP (fun r5 h5 => k r5 (two7 M.2.2.1 M.2.2.2.1 r5 h5))
  unfold twQ at m1
  refine al_ite (fun c => al_some (m1 (fun r5 q5 => al_ite (fun _ => al_some ⟨rfl, q⟩) (fun z => by omega)))) (fun c => al_ite (fun d => al_some (m1 (fun r5 q5 => al_ite (fun z => by omega) (fun z => al_in (fun r6 q6 => al_ite (fun _ => al_some ⟨rfl, q⟩) (fun z6 => by omega)))))) (fun d => al_ite (fun d2 => al_some (m1 (fun r5 q5 => al_ite (fun z => by omega) (fun z => al_in (fun r6 q6 => al_ite (fun _ => al_some ⟨rfl, q⟩) (fun z6 => by omega)))))) (fun d2 => al_ite (fun _ => al_ite (fun _ => al_oV' (fun g hg => al_some (m1 (fun r5 q5 => al_ite (fun z => by omega) (fun z => al_in (fun r6 q6 => al_ite (fun z6 => by omega) (fun z6 => al_oP (fun r7 h7 => al_oV' (fun gm hgm => al_some ?_))))))))) (fun _ => al_none)) (fun _ => al_none))))
  have hi : v1.toInt.toNat < yN (yOf 43 hC) := by omega
  have hj : v2.toInt.toNat < yN (yOf 43 hC) := by omega
  have h1' : v1.toInt = (v1.toInt.toNat : Int) := by omega
  have h2' : v2.toInt = (v2.toInt.toNat : Int) := by omega
  obtain ⟨x1, x2⟩ := tie_ok (Or.inl rfl) C h1' h2' hi hj g hg
  obtain ⟨y1, y2⟩ := binds_ok M (v3 := v3) h1' h2' hi hj gm hgm
  rw [w99_id (by omega)] at y1
  have e7 := strengthOf_ok h1' h2' (by omega) (by omega) r7 h7
  refine ⟨?_, q.now x1 y1 (W.tie' (by omega) (by omega)) q.yr x2 y2.w⟩
  rw [e7, C.2.2.2.2.2.1 _ _ hi hj, M.2.2.2.2.2.1 _ _ hi hj]
theorem op_force {hC hM : dH} (q : RR hC hM) (v1 : Int32) : Op2 (f_X6_force v1 hC) (f_X7_force v1 hM) := by
  obtain ⟨w1, w2, w3, w4, w5, w6, w7, w8, w9, w10, w11⟩ := q.1
  obtain ⟨t1, t2, t3, t4⟩ := q.2.2.1
  have l0 := L0
  have ls : ((hM 0 3 - 1).toInt64).toInt = (hM 0 3).toInt - 1 := by
    rw [← t1, Int32.toInt_toInt64]
    exact i_sub rfl ti1 (by omega) (by omega)
  rw [← t1] at ls
  unfold Op2 f_X6_force
  have bad : (v1.toInt < 0 ∨ (hC 0 3).toInt ≤ v1.toInt) → Al (f_X7_force v1 hM) (fun o2 => (-2 : Int32) = o2.1 ∧ RR hC o2.2) := fun z => by
    unfold f_X7_force
    rw [← t1]
    exact al_in (fun r qr => al_ite (fun _ => al_some ⟨rfl, q⟩) (fun z => by omega))
  refine al_ite (fun c => al_some (bad (by omega))) (fun c => al_ite (fun d => al_ite (fun _ => al_oH' (fun g hg => al_some ?_)) (fun _ => al_none)) (fun d => al_some (bad (by omega))))
  unfold f_X7_force
  rw [← t1]
  refine al_in (fun r qr => al_ite (fun z => by omega) (fun z => al_oH' (fun gm hgm => al_some ⟨rule_eq q, ?_⟩)))
  show RR g gm
  have e : ∀ a k, ¬ (a = 43 ∧ k = 3) → g a k = hC a k := fun a k x => by rw [hg]; exact dU_ne x
  have m : ∀ a k, ¬ (a = 0 ∧ k = 4) → gm a k = hM a k := fun a k x => by rw [hgm]; exact dU_ne x
  refine q.upd ?_ (fun a k x => e a k (by omega)) (fun a k x => m a k (by omega)) (fun _ k _ => m 4 k (by omega)) (by rw [e 43 2 (by omega)]; exact Int.le_refl _)
  have g3 : g 43 3 = dti (10 + 4 * v1.toInt.toNat) := by rw [hg]; exact dU_eq
  have m4 : gm 0 4 = v1 := by rw [hgm]; exact dU_eq
  unfold nowR strR
  rw [e 43 0 (by omega), e 43 1 (by omega), e 43 2 (by omega), g3, e 0 3 (by omega), m 0 7 (by omega), m 0 8 (by omega), m 0 13 (by omega), m4]
  refine ⟨w1, w2, w3, w4, fun i hi => ?_, fun i j hi hj => ?_, ⟨dtx_dti (by unfold zT; omega), by omega, d⟩, w8, fun i hi => ?_, ⟨fun i j hi hj => ?_, fun i hi => ?_⟩, fun i j hi hj hz => ?_⟩
  · rw [e 44 i (by omega), e 45 i (by omega), e 46 i (by omega), m 4 i (by omega), m 5 i (by omega), m 6 i (by omega)]; exact w5 i hi
  · rw [e _ j (by omega), m 7 _ (by omega)]; exact w6 i j hi hj
  · rw [e 44 i (by omega), e 45 i (by omega), e 46 i (by omega)]; exact w9 i hi
  · unfold stOf; rw [e _ j (by omega), e _ i (by omega)]; exact w10.1 i j hi hj
  · unfold stOf; rw [e _ i (by omega)]; exact w10.2 i hi
  · rw [e _ j (by omega)]; exact w11 i j hi hj hz
/-- the tape is another one; all else stays -/
theorem RR.tape {hC hM gC gM : dH} (q : RR hC hM) (t : tapeR gC gM) (e : ∀ a k, ¬ (a = 1 ∧ k = 0) → ¬ a = 5 → gC a k = hC a k) (m : ∀ a k, ¬ (a = 0 ∧ k = 6) → ¬ a = 3 → gM a k = hM a k) : RR gC gM := by
  obtain ⟨q1, q2, q3, q4, q5, q6⟩ := q
  have m' : ∀ a k, ¬ (a = 0 ∧ k = 6) → ¬ a = 3 → gM a k = hM a k := m
  have e43 := e 43 2 (by omega) (by omega)
  refine ⟨?_, ?_, q3.same (fun a k x => e a k (by omega) (by omega)) (fun a k x => m' a k (by omega) (by omega)), t, fun s hs => (q5 s hs).same hs (fun a k x => e a k (by omega) (by omega)) (fun a k x => m' a k (by omega) (by omega)), ?_⟩
  · unfold nowR at q1 ⊢
    rw [e 0 3 (by omega) (by omega)]
    exact q1.same (fun b k hb => e b k (by omega) (by omega)) (m' 0 7 (by omega) (by omega)) (m' 0 8 (by omega) (by omega)) (m' 0 13 (by omega) (by omega)) (m' 0 4 (by omega) (by omega)) (fun i hi => ⟨m' 4 i (by omega) (by omega), m' 5 i (by omega) (by omega), m' 6 i (by omega) (by omega)⟩) (fun i hi => m' 7 i (by omega) (by omega)) (Int.le_refl _)
  · exact q2.same (fun a k x => e a k (by omega) (by omega)) (fun a k x => m' a k (by omega) (by omega)) (by rw [e43]; exact Int.le_refl _) (by rw [e 0 3 (by omega) (by omega)]; exact Int.le_refl _)
  · unfold mNo at q6 ⊢
    rw [m' 0 29 (by omega) (by omega), m' 0 30 (by omega) (by omega), m' 0 31 (by omega) (by omega)]
    exact q6
theorem tput_ok (v : Int32) (h : dH) : Al (f_X4_put v h) (fun o => ((h 1 0).toInt < 160 ∧ 0 ≤ (h 1 0).toInt ∧ o = (1, dU (dU h 5 ((h 1 0).toInt.toNat) v) 1 0 ((dU h 5 ((h 1 0).toInt.toNat) v) 1 0 + 1))) ∨ (¬ (h 1 0).toInt < 160 ∧ o = (0, h))) := by
  unfold f_X4_put
  exact al_ite (fun c => al_ite (fun d => al_oH' (fun g hg => al_oH' (fun g2 hg2 => al_some (Or.inl ⟨c, d.1, by rw [hg2, hg]⟩)))) (fun _ => al_none)) (fun c => al_some (Or.inr ⟨c, rfl⟩))
theorem op_feed {hC hM : dH} (q : RR hC hM) (v1 : Int32) : Op2 (f_X6_feed v1 hC) (f_X7_feed v1 hM) := by
  obtain ⟨t1, t2, t3, t4⟩ := id q.2.2.2.1
  have l0 := L0
  have l255 := L255
  unfold Op2 f_X6_feed
  have bad : (v1.toInt < 0 ∨ 255 < v1.toInt) → Al (f_X7_feed v1 hM) (fun o2 => (-2 : Int32) = o2.1 ∧ RR hC o2.2) := fun z => al_in (fun r qr => al_ite (fun _ => al_some ⟨rfl, q⟩) (fun z => by omega))
  refine al_ite (fun c => al_some (bad (by omega))) (fun c => al_ite (fun d => al_some (bad (by omega))) (fun d => al_oI (fun r5 g6 h5 => ?_)))
  rcases tput_ok v1 hC (r5, g6) h5 with ⟨f, -, h5⟩ | ⟨f, h5⟩
  · cases h5
    refine al_ite (fun z => absurd z (by decide)) (fun z => al_some ?_)
    refine al_in (fun r qr => al_ite (fun z => by omega) (fun z => ?_))
    rw [← t1]
    refine al_ite (fun z => by omega) (fun z => al_ite (fun _ => al_oH' (fun gm hgm => al_oH' (fun gm2 hgm2 => al_some ?_))) (fun _ => al_none))
    have e6 : gm 0 6 = hM 0 6 := by rw [hgm]; exact dU_ne (by omega)
    have e1 : dU hC 5 (hC 1 0).toInt.toNat v1 1 0 = hC 1 0 := dU_ne (by omega)
    rw [e1]
    rw [e6, ← t1] at hgm2
    have n1 : dU (dU hC 5 (hC 1 0).toInt.toNat v1) 1 0 (hC 1 0 + 1) 1 0 = hC 1 0 + 1 := dU_eq
    have n2 : gm2 0 6 = hC 1 0 + 1 := by rw [hgm2]; exact dU_eq
    have i1 := inc1 (v := hC 1 0) (by omega)
    refine ⟨n1.trans n2.symm, ?_⟩
    show RR (dU (dU hC 5 (hC 1 0).toInt.toNat v1) 1 0 (hC 1 0 + 1)) gm2
    have e : ∀ a k, ¬ (a = 1 ∧ k = 0) → ¬ (a = 5 ∧ k = (hC 1 0).toInt.toNat) → dU (dU hC 5 (hC 1 0).toInt.toNat v1) 1 0 (hC 1 0 + 1) a k = hC a k := fun a k x y => (dU_ne x).trans (dU_ne y)
    have m : ∀ a k, ¬ (a = 0 ∧ k = 6) → ¬ (a = 3 ∧ k = (hC 1 0).toInt.toNat) → gm2 a k = hM a k := fun a k x y => by rw [hgm2, dU_ne x, hgm, dU_ne y]
    refine q.tape ⟨n1.trans n2.symm, by rw [n1]; omega, by rw [n1]; omega, fun j hj => ?_⟩ (fun a k x y => e a k x (by omega)) (fun a k x y => m a k x (by omega))
    rw [n1, i1] at hj
    by_cases ej : j = (hC 1 0).toInt.toNat
    · have a1 : dU (dU hC 5 (hC 1 0).toInt.toNat v1) 1 0 (hC 1 0 + 1) 5 j = v1 := by rw [ej]; exact (dU_ne (by omega)).trans dU_eq
      have a2 : gm2 3 j = v1 := by rw [hgm2, dU_ne (by omega), hgm, ej]; exact dU_eq
      rw [a1, a2]
      exact ⟨rfl, by omega, by omega⟩
    · rw [e 5 j (by omega) (by omega), m 3 j (by omega) (by omega)]
      exact t4 j (by omega)
  · cases h5
    refine al_ite (fun z => al_some ?_) (fun z => absurd rfl z)
    refine al_in (fun r qr => al_ite (fun z => by omega) (fun z => ?_))
    rw [← t1]
    exact al_ite (fun z => al_some ⟨rfl, q⟩) (fun z => by omega)
end
