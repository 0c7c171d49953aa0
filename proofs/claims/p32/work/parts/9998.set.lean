/-! what is set: on both sides -/
noncomputable section
theorem keptR.same2 {gC hC gM hM : dH} (q : keptR hC hM) (e : ∀ a k, (a = 0 ∧ k = 7) ∨ (71 ≤ a ∧ a ≤ 83) → gC a k = hC a k) (m : ∀ a k : Nat, (a = 0 ∧ 39 ≤ k ∧ k ≤ 42) ∨ (11 ≤ a ∧ a ≤ 13) → gM a k = hM a k) (m4 : ¬ (hC 0 7).toInt = 0 → ∀ k : Nat, (k : Int) < (hC 71 2).toInt → gM 4 k = hM 4 k) (hc : (hC 43 2).toInt ≤ (gC 43 2).toInt) (ht : (hC 0 3).toInt ≤ (gC 0 3).toInt) : keptR gC gM := by
  have q0 := q
  rcases q with q | ⟨q1, q2, q3⟩
  · unfold keptR
    rw [e 0 7 (by omega), m 0 39 (by omega)]
    exact Or.inl q
  · refine q0.same e (fun a k x => ?_) hc ht
    by_cases c : a = 4
    · rw [c]; exact m4 q1 k (by omega)
    · exact m a k (by omega)
/-- the street of now is another one; all else stays -/
theorem RR.upd {hC hM gC gM : dH} (q : RR hC hM) (nw : nowR gC gM) (e : ∀ a k, (a = 0 ∧ (k = 3 ∨ k = 7)) ∨ (a = 1 ∧ k = 0) ∨ a = 5 ∨ (11 ≤ a ∧ a ≤ 32 ∧ (a % 4 = 3 ∨ a % 4 = 0)) ∨ (34 ≤ a ∧ a ≤ 41) ∨ (71 ≤ a ∧ a ≤ 83) → gC a k = hC a k) (m : ∀ a k : Nat, (a = 0 ∧ (k = 3 ∨ k = 6 ∨ (29 ≤ k ∧ k ≤ 31) ∨ (39 ≤ k ∧ k ≤ 42))) ∨ (1 ≤ a ∧ a ≤ 3) ∨ (11 ≤ a ∧ a ≤ 17) → gM a k = hM a k) (m4 : ¬ (hC 0 7).toInt = 0 → ∀ k : Nat, (k : Int) < (hC 71 2).toInt → gM 4 k = hM 4 k) (hc : (hC 43 2).toInt ≤ (gC 43 2).toInt) : RR gC gM := by
  obtain ⟨q1, q2, q3, q4, q5, q6⟩ := q
  refine ⟨nw, q2.same2 (fun a k x => e a k (by omega)) (fun a k x => m a k (by omega)) m4 hc (by rw [e 0 3 (by omega)]; exact Int.le_refl _), q3.same (fun a k x => e a k (by omega)) (fun a k x => m a k (by omega)), q4.same (fun a k x => e a k (by omega)) (fun a k x => m a k (by omega)), fun s hs => (q5 s hs).same hs (fun a k x => e a k (by omega)) (fun a k x => m a k (by omega)), ?_⟩
  unfold mNo at q6 ⊢
  rw [m 0 29 (by omega), m 0 30 (by omega), m 0 31 (by omega)]
  exact q6
theorem dt1 : (dtab 1 0).toInt = 0 ∧ (dtab 1 1).toInt = 1 ∧ (dtab 1 2).toInt = 0 ∧ (dtab 1 3).toInt = -1 := by decide
theorem dt2 : (dtab 2 0).toInt = 999 ∧ (dtab 2 1).toInt = 99 ∧ (dtab 2 2).toInt = 9 ∧ (dtab 2 3).toInt = 3 := by decide
theorem isValue_ok {w v : Int32} (hw : 0 ≤ w.toInt ∧ w.toInt ≤ 3) : Al (f_X7_isValue w v) (fun r => (r.toInt = 1 ∧ (w.toInt = 0 → 0 ≤ v.toInt ∧ v.toInt ≤ 999) ∧ (w.toInt = 1 → 1 ≤ v.toInt ∧ v.toInt ≤ 99) ∧ (w.toInt = 2 → 0 ≤ v.toInt ∧ v.toInt ≤ 9) ∧ (w.toInt = 3 → -1 ≤ v.toInt ∧ v.toInt ≤ 3)) ∨ (r.toInt = 0 ∧ ((w.toInt = 0 ∧ ¬ (0 ≤ v.toInt ∧ v.toInt ≤ 999)) ∨ (w.toInt = 1 ∧ ¬ (1 ≤ v.toInt ∧ v.toInt ≤ 99)) ∨ (w.toInt = 2 ∧ ¬ (0 ≤ v.toInt ∧ v.toInt ≤ 9)) ∨ (w.toInt = 3 ∧ ¬ (-1 ≤ v.toInt ∧ v.toInt ≤ 3))))) := by
  unfold f_X7_isValue
  have l0 := L0
  have l1 := L1
  have l3 := L3
  have l9 := L9
  have l99 := L99
  have l999 := L999
  have lm := Lm1
  refine al_ite (fun c => al_in (fun r qr => al_ite (fun _ => al_some (by omega)) (fun _ => al_none))) (fun c => al_ite (fun d => al_ite (fun e => absurd e (by omega)) (fun e => al_ite (fun f => al_in (fun r qr => al_ite (fun _ => al_some (by omega)) (fun _ => al_none))) (fun f => absurd d f))) (fun d => al_ite (fun e => al_in (fun r qr => al_ite (fun _ => al_some (by omega)) (fun _ => al_none))) (fun e => al_ite (fun f => absurd f d) (fun f => al_in (fun r qr => al_ite (fun _ => al_some (by omega)) (fun _ => al_none))))))
/-- the model's set, case by case -/
theorem mset_ok {Y : zY} {y : Int32} {st : zT2} {h : dH} (M : SM Y y st h) (n : mNo h) {v1 v2 v3 : Int32} {P : Int32 × dH → Prop}
  (bad : (¬ (0 ≤ v1.toInt ∧ v1.toInt ≤ 3) ∨ (2 ≤ v1.toInt ∧ ¬ (0 ≤ v2.toInt ∧ v2.toInt < yN Y)) ∨ (v1.toInt = 0 ∧ ¬ (0 ≤ v3.toInt ∧ v3.toInt ≤ 999)) ∨ (v1.toInt = 1 ∧ ¬ (1 ≤ v3.toInt ∧ v3.toInt ≤ 99)) ∨ (v1.toInt = 2 ∧ ¬ (0 ≤ v3.toInt ∧ v3.toInt ≤ 9)) ∨ (v1.toInt = 3 ∧ ¬ (-1 ≤ v3.toInt ∧ v3.toInt ≤ 3))) → P (-2, h))
  (s0 : ∀ g, mFr g h → v1.toInt = 0 → 0 ≤ v3.toInt ∧ v3.toInt ≤ 999 → P (y, dU g 0 7 v3))
  (s1 : ∀ g, mFr g h → v1.toInt = 1 → 1 ≤ v3.toInt ∧ v3.toInt ≤ 99 → P (yL Y, dU g 0 8 v3))
  (s2 : ∀ g, mFr g h → v1.toInt = 2 → 0 ≤ v2.toInt ∧ v2.toInt < yN Y → 0 ≤ v3.toInt ∧ v3.toInt ≤ 9 → P (yB Y v2.toInt.toNat, dU g 5 v2.toInt.toNat v3))
  (s3 : ∀ g, mFr g h → v1.toInt = 3 → 0 ≤ v2.toInt ∧ v2.toInt < yN Y → -1 ≤ v3.toInt ∧ v3.toInt ≤ 3 → P (yT Y v2.toInt.toNat, dU g 6 v2.toInt.toNat v3)) : Al (f_X7_set v1 v2 v3 h) P := by
  unfold f_X7_set
  have l0 := L0
  have l3 := L3
  have lays : ∀ (r : Int32) (g : dH), r = toldS Y y st v2.toInt v1.toInt → mFr g h → 0 ≤ v1.toInt ∧ v1.toInt ≤ 3 → (2 ≤ v1.toInt → 0 ≤ v2.toInt ∧ v2.toInt < yN Y) → ((v1.toInt = 0 → 0 ≤ v3.toInt ∧ v3.toInt ≤ 999) ∧ (v1.toInt = 1 → 1 ≤ v3.toInt ∧ v3.toInt ≤ 99) ∧ (v1.toInt = 2 → 0 ≤ v3.toInt ∧ v3.toInt ≤ 9) ∧ (v1.toInt = 3 → -1 ≤ v3.toInt ∧ v3.toInt ≤ 3)) → Al (oV (f_X7_lays v1 v2 v3 g) (fun g14 => some (r, g14))) P := by
    intro r g hr F hw hh hv
    refine al_oV' (fun g14 h14 => al_some ?_)
    unfold f_X7_lays at h14
    revert g14
    refine al_ite (fun c => al_oH' (fun g3 h3 => al_some ?_)) (fun c0 => al_ite (fun c => al_oH' (fun g3 h3 => al_some ?_)) (fun c1 => al_ite (fun c => al_ite (fun _ => al_oH' (fun g3 h3 => al_some ?_)) (fun _ => al_none)) (fun c2 => al_ite (fun c => al_ite (fun _ => al_oH' (fun g3 h3 => al_some ?_)) (fun _ => al_none)) (fun c3 => absurd hw (by omega)))))
    · rw [hr, td0 c, h3]; exact s0 g F c (hv.1 c)
    · rw [hr, td1 c, h3]; exact s1 g F c (hv.2.1 c)
    · rw [hr, td2 c (hh (by omega)), h3]; exact s2 g F c (hh (by omega)) (hv.2.2.1 c)
    · rw [hr, td3 c (hh (by omega)), h3]; exact s3 g F c (hh (by omega)) (hv.2.2.2 c)
  refine al_in (fun r1 q1 => al_ite (fun z => al_some (bad (by omega))) (fun z => al_ite (fun c => al_house7 M.2.2.1 M.2.2.2.1 (fun r6 q6 => al_ite (fun z6 => al_some (bad (by omega))) (fun z6 => al_oP (fun r9 h9 => ?_)))) (fun c => al_oP (fun r9 h9 => ?_))))
  · have q9 := isValue_ok (by omega) r9 h9
    refine al_ite (fun z9 => al_some (bad (by omega))) (fun z9 => al_oI (fun r12 g13 h12 => ?_))
    obtain ⟨x1, x2⟩ := mtold_ok M n (r12, g13) h12
    exact lays r12 g13 x1 x2 (by omega) (by omega) (by omega)
  · have q9 := isValue_ok (by omega) r9 h9
    refine al_ite (fun z9 => al_some (bad (by omega))) (fun z9 => al_oI (fun r12 g13 h12 => ?_))
    obtain ⟨x1, x2⟩ := mtold_ok M n (r12, g13) h12
    exact lays r12 g13 x1 x2 (by omega) (by omega) (by omega)
theorem op_set {hC hM : dH} (q : RR hC hM) (v1 v2 v3 : Int32) : Op2 (f_X6_set v1 v2 v3 hC) (f_X7_set v1 v2 v3 hM) := by
  obtain ⟨C, M, W, R, T⟩ := q.st
  have eN : yN (yOf 43 hC) = (hC 43 2).toInt.toNat := rfl
  obtain ⟨w1, w2, w3, w4, w5, w6, w7, w8, w9, w10, w11⟩ := q.1
  obtain ⟨t10, t11, t12, t13⟩ := dt1
  obtain ⟨t20, t21, t22, t23⟩ := dt2
  have C2 := C.2.2.1
  unfold Op2 f_X6_set
  -- a refusal
  have ref : (¬ (0 ≤ v1.toInt ∧ v1.toInt ≤ 3) ∨ (2 ≤ v1.toInt ∧ ¬ (0 ≤ v2.toInt ∧ v2.toInt < yN (yOf 43 hC))) ∨ (v1.toInt = 0 ∧ ¬ (0 ≤ v3.toInt ∧ v3.toInt ≤ 999)) ∨ (v1.toInt = 1 ∧ ¬ (1 ≤ v3.toInt ∧ v3.toInt ≤ 99)) ∨ (v1.toInt = 2 ∧ ¬ (0 ≤ v3.toInt ∧ v3.toInt ≤ 9)) ∨ (v1.toInt = 3 ∧ ¬ (-1 ≤ v3.toInt ∧ v3.toInt ≤ 3))) → Al (some ((-2 : Int32), hC)) (fun o => Al (f_X7_set v1 v2 v3 hM) (fun o2 => o.1 = o2.1 ∧ RR o.2 o2.2)) := by
    intro w
    refine al_some (mset_ok M q.2.2.2.2.2 (fun _ => ⟨rfl, q⟩) (fun g F a b => ?_) (fun g F a b => ?_) (fun g F a b c => ?_) (fun g F a b c => ?_)) <;> (exfalso; omega)
  -- the values' bounds
  have lo : 0 ≤ v1.toInt → v1.toInt ≤ 3 → (v3.toInt < (dtab 1 v1.toInt.toNat).toInt ↔ ((v1.toInt = 0 ∧ v3.toInt < 0) ∨ (v1.toInt = 1 ∧ v3.toInt < 1) ∨ (v1.toInt = 2 ∧ v3.toInt < 0) ∨ (v1.toInt = 3 ∧ v3.toInt < -1))) := by
    intro a b
    have : v1.toInt = 0 ∨ v1.toInt = 1 ∨ v1.toInt = 2 ∨ v1.toInt = 3 := by omega
    rcases this with e | e | e | e <;> rw [e]
    · show v3.toInt < (dtab 1 0).toInt ↔ _
      rw [t10]; omega
    · show v3.toInt < (dtab 1 1).toInt ↔ _
      rw [t11]; omega
    · show v3.toInt < (dtab 1 2).toInt ↔ _
      rw [t12]; omega
    · show v3.toInt < (dtab 1 3).toInt ↔ _
      rw [t13]; omega
  have hi : 0 ≤ v1.toInt → v1.toInt ≤ 3 → ((dtab 2 v1.toInt.toNat).toInt < v3.toInt ↔ ((v1.toInt = 0 ∧ 999 < v3.toInt) ∨ (v1.toInt = 1 ∧ 99 < v3.toInt) ∨ (v1.toInt = 2 ∧ 9 < v3.toInt) ∨ (v1.toInt = 3 ∧ 3 < v3.toInt))) := by
    intro a b
    have : v1.toInt = 0 ∨ v1.toInt = 1 ∨ v1.toInt = 2 ∨ v1.toInt = 3 := by omega
    rcases this with e | e | e | e <;> rw [e]
    · show (dtab 2 0).toInt < v3.toInt ↔ _
      rw [t20]; omega
    · show (dtab 2 1).toInt < v3.toInt ↔ _
      rw [t21]; omega
    · show (dtab 2 2).toInt < v3.toInt ↔ _
      rw [t22]; omega
    · show (dtab 2 3).toInt < v3.toInt ↔ _
      rw [t23]; omega
  -- four rebuilds
  have mE : ∀ {g : dH}, mFr g hM → ∀ a k, ¬ (a = 0 ∧ 14 ≤ k ∧ k ≤ 28) → g a k = hM a k := fun F => F
  have u0 : v1.toInt = 0 → 0 ≤ v3.toInt ∧ v3.toInt ≤ 999 → Al (f_X7_set v1 v2 v3 hM) (fun o2 => hC 43 0 = o2.1 ∧ RR (dU hC 43 0 v3) o2.2) := by
    intro a b
    refine mset_ok M q.2.2.2.2.2 (fun _ => by exfalso; omega) (fun g F _ _ => ⟨rfl, ?_⟩) (fun g F a b => by exfalso; omega) (fun g F a b c => by exfalso; omega) (fun g F a b c => by exfalso; omega)
    exact q.now (C.year isZ43) ((M.n F).year) W b (fun b k _ _ _ x => dU_ne x) (fun a k x y _ _ => by show dU g 0 7 v3 a k = _; rw [dU_ne y]; exact F a k x)
  have u1 : v1.toInt = 1 → 1 ≤ v3.toInt ∧ v3.toInt ≤ 99 → Al (f_X7_set v1 v2 v3 hM) (fun o2 => hC 43 1 = o2.1 ∧ RR (dU hC 43 1 v3) o2.2) := by
    intro a b
    refine mset_ok M q.2.2.2.2.2 (fun _ => by exfalso; omega) (fun g F a b => by exfalso; omega) (fun g F _ _ => ⟨rfl, ?_⟩) (fun g F a b c => by exfalso; omega) (fun g F a b c => by exfalso; omega)
    have e : ∀ a k, ¬ (a = 43 ∧ k = 1) → dU hC 43 1 v3 a k = hC a k := fun a k x => dU_ne x
    have m : ∀ a k, ¬ (a = 0 ∧ k = 8) → ¬ (a = 0 ∧ 14 ≤ k ∧ k ≤ 28) → dU g 0 8 v3 a k = hM a k := fun a k x y => (dU_ne x).trans (F a k y)
    show RR (dU hC 43 1 v3) (dU g 0 8 v3)
    refine q.upd ?_ (fun a k x => e a k (by omega)) (fun a k x => m a k (by omega) (by omega)) (fun _ k _ => m 4 k (by omega) (by omega)) (by rw [e 43 2 (by omega)]; exact Int.le_refl _)
    unfold nowR strR
    rw [e 43 0 (by omega), e 43 2 (by omega), e 43 3 (by omega), e 0 3 (by omega), m 0 7 (by omega) (by omega), m 0 13 (by omega) (by omega), m 0 4 (by omega) (by omega)]
    refine ⟨w1, ?_, w3, w4, fun i hi => ?_, fun i j hi hj => ?_, w7, w8, fun i hi => ?_, ⟨fun i j hi hj => ?_, fun i hi => ?_⟩, fun i j hi hj hz => ?_⟩
    · rw [dU_eq]; exact dU_eq.symm
    · rw [e 44 i (by omega), e 45 i (by omega), e 46 i (by omega), m 4 i (by omega) (by omega), m 5 i (by omega) (by omega), m 6 i (by omega) (by omega)]; exact w5 i hi
    · rw [e _ j (by omega), m 7 _ (by omega) (by omega)]; exact w6 i j hi hj
    · rw [e 44 i (by omega), e 45 i (by omega), e 46 i (by omega)]; exact w9 i hi
    · unfold stOf; rw [e _ j (by omega), e _ i (by omega)]; exact w10.1 i j hi hj
    · unfold stOf; rw [e _ i (by omega)]; exact w10.2 i hi
    · rw [e _ j (by omega)]; exact w11 i j hi hj hz
  have u2 : v1.toInt = 2 → 0 ≤ v2.toInt ∧ v2.toInt < yN (yOf 43 hC) → 0 ≤ v3.toInt ∧ v3.toInt ≤ 9 → Al (f_X7_set v1 v2 v3 hM) (fun o2 => hC 45 v2.toInt.toNat = o2.1 ∧ RR (dU hC 45 v2.toInt.toNat v3) o2.2) := by
    intro a b c
    refine mset_ok M q.2.2.2.2.2 (fun _ => by exfalso; omega) (fun g F a b => by exfalso; omega) (fun g F a b => by exfalso; omega) (fun g F _ _ _ => ⟨rfl, ?_⟩) (fun g F a b c => by exfalso; omega)
    have e : ∀ a k, ¬ a = 45 → dU hC 45 v2.toInt.toNat v3 a k = hC a k := fun a k x => dU_ne (by omega)
    have m : ∀ a k, ¬ a = 5 → ¬ (a = 0 ∧ 14 ≤ k ∧ k ≤ 28) → dU g 5 v2.toInt.toNat v3 a k = hM a k := fun a k x y => (dU_ne (by omega)).trans (F a k y)
    show RR (dU hC 45 v2.toInt.toNat v3) (dU g 5 v2.toInt.toNat v3)
    refine q.upd ?_ (fun a k x => e a k (by omega)) (fun a k x => m a k (by omega) (by omega)) (fun _ k _ => m 4 k (by omega) (by omega)) (by rw [e 43 2 (by omega)]; exact Int.le_refl _)
    have n5 : ∀ i, (dU hC 45 v2.toInt.toNat v3 45 i = if i = v2.toInt.toNat then v3 else hC 45 i) ∧ (dU g 5 v2.toInt.toNat v3 5 i = if i = v2.toInt.toNat then v3 else hM 5 i) := by
      intro i
      by_cases ei : i = v2.toInt.toNat
      · rw [if_pos ei, if_pos ei, ei, dU_eq, dU_eq]; exact ⟨rfl, rfl⟩
      · rw [if_neg ei, if_neg ei, dU_ne (by omega), dU_ne (by omega)]; exact ⟨rfl, F 5 i (by omega)⟩
    unfold nowR strR
    rw [e 43 0 (by omega), e 43 1 (by omega), e 43 2 (by omega), e 43 3 (by omega), e 0 3 (by omega), m 0 7 (by omega) (by omega), m 0 8 (by omega) (by omega), m 0 13 (by omega) (by omega), m 0 4 (by omega) (by omega)]
    refine ⟨w1, w2, w3, w4, fun i hi => ?_, fun i j hi hj => ?_, w7, w8, fun i hi => ?_, ⟨fun i j hi hj => ?_, fun i hi => ?_⟩, fun i j hi hj hz => ?_⟩
    · obtain ⟨a1, a2, a3⟩ := w5 i hi
      rw [e 44 i (by omega), e 46 i (by omega), m 4 i (by omega) (by omega), m 6 i (by omega) (by omega)]
      refine ⟨a1, ?_, a3⟩
      show dU hC 45 _ v3 45 i = _
      rw [(n5 i).1, (n5 i).2]
      by_cases ei : i = v2.toInt.toNat
      · rw [if_pos ei, if_pos ei]
      · rw [if_neg ei, if_neg ei]; exact a2
    · rw [e _ j (by omega), m 7 _ (by omega) (by omega)]; exact w6 i j hi hj
    · obtain ⟨a1, a2, a3⟩ := w9 i hi
      rw [e 44 i (by omega), e 46 i (by omega)]
      refine ⟨a1, ?_, a3⟩
      show 0 ≤ (dU hC 45 _ v3 45 i).toInt ∧ (dU hC 45 _ v3 45 i).toInt ≤ 9
      rw [(n5 i).1]
      by_cases ei : i = v2.toInt.toNat
      · rw [if_pos ei]; exact c
      · rw [if_neg ei]; exact a2
    · unfold stOf; rw [e _ j (by omega), e _ i (by omega)]; exact w10.1 i j hi hj
    · unfold stOf; rw [e _ i (by omega)]; exact w10.2 i hi
    · rw [e _ j (by omega)]; exact w11 i j hi hj hz
  have u3 : v1.toInt = 3 → 0 ≤ v2.toInt ∧ v2.toInt < yN (yOf 43 hC) → -1 ≤ v3.toInt ∧ v3.toInt ≤ 3 → Al (f_X7_set v1 v2 v3 hM) (fun o2 => hC 46 v2.toInt.toNat = o2.1 ∧ RR (dU hC 46 v2.toInt.toNat v3) o2.2) := by
    intro a b c
    refine mset_ok M q.2.2.2.2.2 (fun _ => by exfalso; omega) (fun g F a b => by exfalso; omega) (fun g F a b => by exfalso; omega) (fun g F a b c => by exfalso; omega) (fun g F _ _ _ => ⟨rfl, ?_⟩)
    have e : ∀ a k, ¬ a = 46 → dU hC 46 v2.toInt.toNat v3 a k = hC a k := fun a k x => dU_ne (by omega)
    have m : ∀ a k, ¬ a = 6 → ¬ (a = 0 ∧ 14 ≤ k ∧ k ≤ 28) → dU g 6 v2.toInt.toNat v3 a k = hM a k := fun a k x y => (dU_ne (by omega)).trans (F a k y)
    show RR (dU hC 46 v2.toInt.toNat v3) (dU g 6 v2.toInt.toNat v3)
    refine q.upd ?_ (fun a k x => e a k (by omega)) (fun a k x => m a k (by omega) (by omega)) (fun _ k _ => m 4 k (by omega) (by omega)) (by rw [e 43 2 (by omega)]; exact Int.le_refl _)
    have n5 : ∀ i, (dU hC 46 v2.toInt.toNat v3 46 i = if i = v2.toInt.toNat then v3 else hC 46 i) ∧ (dU g 6 v2.toInt.toNat v3 6 i = if i = v2.toInt.toNat then v3 else hM 6 i) := by
      intro i
      by_cases ei : i = v2.toInt.toNat
      · rw [if_pos ei, if_pos ei, ei, dU_eq, dU_eq]; exact ⟨rfl, rfl⟩
      · rw [if_neg ei, if_neg ei, dU_ne (by omega), dU_ne (by omega)]; exact ⟨rfl, F 6 i (by omega)⟩
    unfold nowR strR
    rw [e 43 0 (by omega), e 43 1 (by omega), e 43 2 (by omega), e 43 3 (by omega), e 0 3 (by omega), m 0 7 (by omega) (by omega), m 0 8 (by omega) (by omega), m 0 13 (by omega) (by omega), m 0 4 (by omega) (by omega)]
    refine ⟨w1, w2, w3, w4, fun i hi => ?_, fun i j hi hj => ?_, w7, w8, fun i hi => ?_, ⟨fun i j hi hj => ?_, fun i hi => ?_⟩, fun i j hi hj hz => ?_⟩
    · obtain ⟨a1, a2, a3⟩ := w5 i hi
      rw [e 44 i (by omega), e 45 i (by omega), m 4 i (by omega) (by omega), m 5 i (by omega) (by omega)]
      refine ⟨a1, a2, ?_⟩
      show dU hC 46 _ v3 46 i = _
      rw [(n5 i).1, (n5 i).2]
      by_cases ei : i = v2.toInt.toNat
      · rw [if_pos ei, if_pos ei]
      · rw [if_neg ei, if_neg ei]; exact a3
    · rw [e _ j (by omega), m 7 _ (by omega) (by omega)]; exact w6 i j hi hj
    · obtain ⟨a1, a2, a3⟩ := w9 i hi
      rw [e 44 i (by omega), e 45 i (by omega)]
      refine ⟨a1, a2, ?_⟩
      show -1 ≤ (dU hC 46 _ v3 46 i).toInt ∧ (dU hC 46 _ v3 46 i).toInt ≤ 3
      rw [(n5 i).1]
      by_cases ei : i = v2.toInt.toNat
      · rw [if_pos ei]; exact c
      · rw [if_neg ei]; exact a3
    · unfold stOf; rw [e _ j (by omega), e _ i (by omega)]; exact w10.1 i j hi hj
    · unfold stOf; rw [e _ i (by omega)]; exact w10.2 i hi
    · rw [e _ j (by omega)]; exact w11 i j hi hj hz
  -- the class's tail
  have tail : (2 ≤ v1.toInt → 0 ≤ v2.toInt ∧ v2.toInt < yN (yOf 43 hC)) → 0 ≤ v1.toInt ∧ v1.toInt ≤ 3 → Al (if 0 ≤ v1.toInt ∧ v1.toInt < 4 then (if v3.toInt < (dtab 1 (v1.toInt.toNat)).toInt then (some ((-2), hC)) else (if 0 ≤ v1.toInt ∧ v1.toInt < 4 then (if (dtab 2 (v1.toInt.toNat)).toInt < v3.toInt then (some ((-2), hC)) else (oP (f_X6_setting v1 v2 hC) (fun r13 => if v1.toInt = 0 then (oH (dU hC 43 0 v3) (fun g16 => some (r13, g16))) else (if v1.toInt = 1 then (oH (dU hC 43 1 v3) (fun g19 => some (r13, g19))) else (if v1.toInt = 2 then (if 0 ≤ v2.toInt ∧ v2.toInt < 8 then (oH (dU hC (43 + 2) (v2.toInt.toNat) v3) (fun g22 => some (r13, g22))) else none) else (if 0 ≤ v2.toInt ∧ v2.toInt < 8 then (oH (dU hC (43 + 3) (v2.toInt.toNat) v3) (fun g24 => some (r13, g24))) else none)))))) else none)) else none) (fun o => Al (f_X7_set v1 v2 v3 hM) (fun o2 => o.1 = o2.1 ∧ RR o.2 o2.2)) := by
    intro hh hw
    have lo' := lo hw.1 hw.2
    have hi' := hi hw.1 hw.2
    refine al_ite (fun _ => al_ite (fun c => ref (by have := lo'.mp c; omega)) (fun c => al_ite (fun _ => al_ite (fun d => ref (by have := hi'.mp d; omega)) (fun d => al_oP (fun r13 hr => ?_))) (fun _ => al_none))) (fun _ => al_none)
    have c' : ¬ ((v1.toInt = 0 ∧ v3.toInt < 0) ∨ (v1.toInt = 1 ∧ v3.toInt < 1) ∨ (v1.toInt = 2 ∧ v3.toInt < 0) ∨ (v1.toInt = 3 ∧ v3.toInt < -1)) := fun z => c (lo'.mpr z)
    have d' : ¬ ((v1.toInt = 0 ∧ 999 < v3.toInt) ∨ (v1.toInt = 1 ∧ 99 < v3.toInt) ∨ (v1.toInt = 2 ∧ 9 < v3.toInt) ∨ (v1.toInt = 3 ∧ 3 < v3.toInt)) := fun z => d (hi'.mpr z)
    have es : Al (f_X6_setting v1 v2 hC) (fun r => (v1.toInt = 0 → r = hC 43 0) ∧ (v1.toInt = 1 → r = hC 43 1) ∧ (v1.toInt = 2 → r = hC 45 v2.toInt.toNat) ∧ (v1.toInt = 3 → r = hC 46 v2.toInt.toNat)) := by
      unfold f_X6_setting
      exact al_ite (fun z => al_some ⟨fun _ => rfl, fun _ => by omega, fun _ => by omega, fun _ => by omega⟩) (fun z0 => al_ite (fun z => al_some ⟨fun _ => by omega, fun _ => rfl, fun _ => by omega, fun _ => by omega⟩) (fun z1 => al_ite (fun z => al_ite (fun _ => al_some ⟨fun _ => by omega, fun _ => by omega, fun _ => rfl, fun _ => by omega⟩) (fun _ => al_none)) (fun z2 => al_ite (fun _ => al_some ⟨fun _ => by omega, fun _ => by omega, fun _ => by omega, fun _ => rfl⟩) (fun _ => al_none))))
    obtain ⟨r0, r1, r2, r3⟩ := es r13 hr
    refine al_ite (fun z => al_oH' (fun g hg => al_some ?_)) (fun z0 => al_ite (fun z => al_oH' (fun g hg => al_some ?_)) (fun z1 => al_ite (fun z => al_ite (fun _ => al_oH' (fun g hg => al_some ?_)) (fun _ => al_none)) (fun z2 => al_ite (fun _ => al_oH' (fun g hg => al_some ?_)) (fun _ => al_none))))
    · rw [hg, r0 z]; exact u0 z (by omega)
    · rw [hg, r1 z]; exact u1 z (by omega)
    · rw [hg, r2 z]; exact u2 z (hh (by omega)) (by omega)
    · rw [hg, r3 (by omega)]; exact u3 (by omega) (hh (by omega)) (by omega)
  exact al_ite (fun c => ref (by omega)) (fun c => al_ite (fun d => ref (by omega)) (fun d => al_ite (fun e => tail (fun z => by omega) (by omega)) (fun e => al_house6 C2 (fun r26 q26 => al_ite (fun z => ref (by omega)) (fun z => tail (fun _ => by omega) (by omega))))))
end
