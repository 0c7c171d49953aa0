/-! the relation of both objects, between calls -/
noncomputable section
def yOf (a : Nat) (h : dH) : zY := ((h a 2).toInt.toNat, h a 1, h (a + 1), h (a + 2), h (a + 3), evF h (dtx (h a 3)))
def stOf (a : Nat) (h : dH) : zT2 := fun i j => h (a + 5 + i) j
/-- the steps of text t say what its bytes say -/
def Sem (hC hM : dH) (t : Nat) : Prop := tOk hC (10 + 4 * t) ∧ (∀ nm pt, pt < 3 → ∃ v, tEv hC (10 + 4 * t) nm pt = some [v]) ∧ ∀ (h' : dH) (v1 v2 : Int32) (o : Int32 × dH) (pt : Nat), (∀ j, j < 160 → h' 1 (160 * t + j) = hM 1 (160 * t + j)) → h' 2 t = hM 2 t → pt < 3 → v1.toInt = t → v2.toInt = pt → f_X7_read v1 v2 h' = some o → mRd o.2 h' ∧ tEv hC (10 + 4 * t) (nmF h') pt = some [o.1]
/-- a street as these tell -/
def strR (a : Nat) (yr lm ct rl : Int32) (kd nb tb sg : Nat → Int32) (tc : Int) (h : dH) : Prop :=
  h a 0 = yr ∧ h a 1 = lm ∧ h a 2 = ct ∧ (0 ≤ (h a 2).toInt ∧ (h a 2).toInt ≤ 8) ∧ (∀ i, i < (h a 2).toInt.toNat → h (a + 1) i = kd i ∧ h (a + 2) i = nb i ∧ h (a + 3) i = tb i) ∧ (∀ i j, i < (h a 2).toInt.toNat → j < (h a 2).toInt.toNat → h (a + 5 + i) j = sg (8 * i + j)) ∧
  (dtx (h a 3) = 10 + 4 * rl.toInt.toNat ∧ 0 ≤ rl.toInt ∧ rl.toInt < tc) ∧ (0 ≤ (h a 0).toInt ∧ (h a 0).toInt ≤ 999) ∧
  (∀ i, i < (h a 2).toInt.toNat → (0 ≤ (h (a + 1) i).toInt ∧ (h (a + 1) i).toInt ≤ 5) ∧ (0 ≤ (h (a + 2) i).toInt ∧ (h (a + 2) i).toInt ≤ 9) ∧ (-1 ≤ (h (a + 3) i).toInt ∧ (h (a + 3) i).toInt ≤ 3)) ∧
  Wf (h a 2).toInt.toNat (stOf a h) ∧ (∀ i j, i < 8 → j < 8 → (h a 2).toInt.toNat ≤ i ∨ (h a 2).toInt.toNat ≤ j → h (a + 5 + i) j = 0)
def nowR (hC hM : dH) : Prop := strR 43 (hM 0 7) (hM 0 8) (hM 0 13) (hM 0 4) (hM 4) (hM 5) (hM 6) (hM 7) (hC 0 3).toInt hC
def keptR (hC hM : dH) : Prop := ((hC 0 7).toInt = 0 ∧ (hM 0 39).toInt = -1) ∨ (¬ (hC 0 7).toInt = 0 ∧ strR 71 (hM 0 40) (hM 0 41) (hM 0 39) (hM 0 42) (hM 4) (hM 11) (hM 12) (hM 13) (hC 0 3).toInt hC ∧ (hC 71 2).toInt ≤ (hC 43 2).toInt)
def textR (hC hM : dH) : Prop := hC 0 3 = hM 0 3 ∧ 1 ≤ (hC 0 3).toInt ∧ (hC 0 3).toInt ≤ 6 ∧ ∀ t : Nat, (t : Int) < (hC 0 3).toInt → Sem hC hM t
def tapeR (hC hM : dH) : Prop := hC 1 0 = hM 0 6 ∧ 0 ≤ (hC 1 0).toInt ∧ (hC 1 0).toInt ≤ 160 ∧ ∀ j, j < (hC 1 0).toInt.toNat → hC 5 j = hM 3 j ∧ 0 ≤ (hC 5 j).toInt ∧ (hC 5 j).toInt ≤ 255
def shR (hC hM : dH) (s : Nat) : Prop := ((hC (34 + 2 * s) 0).toInt = -1 ∧ (hM 14 s).toInt = 0) ∨ (0 ≤ (hC (34 + 2 * s) 0).toInt ∧ (hC (34 + 2 * s) 0).toInt ≤ 2 ∧ ¬ (hM 14 s).toInt = 0 ∧ hC (34 + 2 * s) 0 = hM 15 s ∧ hC (34 + 2 * s) 1 = hM 16 s ∧ 0 ≤ (hC (34 + 2 * s) 1).toInt ∧ (hC (34 + 2 * s) 1).toInt ≤ 40 ∧ ∀ i, i < (hC (34 + 2 * s) 1).toInt.toNat → hC (34 + 2 * s + 1) i = hM 17 (40 * s + i))
def RR (hC hM : dH) : Prop := nowR hC hM ∧ keptR hC hM ∧ textR hC hM ∧ tapeR hC hM ∧ (∀ s, s < 4 → shR hC hM s) ∧ mNo hM
/-! what stays as it was -/
theorem Sem.same {gC hC gM hM : dH} {t : Nat} (q : Sem hC hM t) (e1 : ∀ k, gC (10 + 4 * t + 1) k = hC (10 + 4 * t + 1) k) (e2 : ∀ k, gC (10 + 4 * t + 2) k = hC (10 + 4 * t + 2) k) (m1 : ∀ j, j < 160 → gM 1 (160 * t + j) = hM 1 (160 * t + j)) (m2 : gM 2 t = hM 2 t) : Sem gC gM t := by
  obtain ⟨c1, c2, c3⟩ := tEv_congr (f := gC) (g := hC) (ta := 10 + 4 * t) e1 e2
  obtain ⟨q1, q2, q3⟩ := q
  refine ⟨c1.mpr q1, fun nm pt hp => by rw [c2]; exact q2 nm pt hp, fun h' v1 v2 o pt a1 a2 a3 a4 a5 a6 => ?_⟩
  rw [c2]
  exact q3 h' v1 v2 o pt (fun j hj => (a1 j hj).trans (m1 j hj)) (a2.trans m2) a3 a4 a5 a6
theorem strR.same {a : Nat} {yr lm ct rl yr' lm' ct' rl' : Int32} {kd nb tb sg kd' nb' tb' sg' : Nat → Int32} {tc tc' : Int} {g h : dH} (q : strR a yr lm ct rl kd nb tb sg tc h) (e : ∀ b k, a ≤ b ∧ b ≤ a + 12 → g b k = h b k) (e1 : yr' = yr) (e2 : lm' = lm) (e3 : ct' = ct) (e4 : rl' = rl) (m1 : ∀ i, i < 8 → kd' i = kd i ∧ nb' i = nb i ∧ tb' i = tb i) (m2 : ∀ i, i < 64 → sg' i = sg i) (et : tc ≤ tc') : strR a yr' lm' ct' rl' kd' nb' tb' sg' tc' g := by
  obtain ⟨q1, q2, q3, q4, q5, q6, q7, q8, q9, q10, q11⟩ := q
  have c : g a 2 = h a 2 := e a 2 (by omega)
  have cs : stOf a g = fun i j => g (a + 5 + i) j := rfl
  unfold strR
  rw [c, e a 0 (by omega), e a 1 (by omega), e a 3 (by omega), e1, e2, e3, e4]
  refine ⟨q1, q2, q3, q4, fun i hi => ?_, fun i j hi hj => ?_, ⟨q7.1, q7.2.1, by omega⟩, q8, fun i hi => ?_, ?_, fun i j hi hj hz => ?_⟩
  · obtain ⟨m3, m4, m5⟩ := m1 i (by omega)
    rw [e (a + 1) i (by omega), e (a + 2) i (by omega), e (a + 3) i (by omega), m3, m4, m5]
    exact q5 i hi
  · rw [e (a + 5 + i) j (by omega), m2 _ (by omega)]
    exact q6 i j hi hj
  · rw [e (a + 1) i (by omega), e (a + 2) i (by omega), e (a + 3) i (by omega)]
    exact q9 i hi
  · refine ⟨fun i j hi hj => ?_, fun i hi => ?_⟩
    · have w := q10.1 i j hi hj
      unfold stOf at w ⊢
      rw [e (a + 5 + i) j (by omega), e (a + 5 + j) i (by omega)]
      exact w
    · have w := q10.2 i hi
      unfold stOf at w ⊢
      rw [e (a + 5 + i) i (by omega)]
      exact w
  · rw [e (a + 5 + i) j (by omega)]
    exact q11 i j hi hj hz
/-- what the class shows -/
def cV (g h : dH) : Prop := ∀ a k, (a = 0 ∧ (k = 3 ∨ k = 7)) ∨ (a = 1 ∧ k = 0) ∨ a = 5 ∨ (11 ≤ a ∧ a ≤ 32 ∧ (a % 4 = 3 ∨ a % 4 = 0)) ∨ (34 ≤ a ∧ a ≤ 41) ∨ (43 ≤ a ∧ a ≤ 55) ∨ (71 ≤ a ∧ a ≤ 83) → g a k = h a k
theorem cV.refl (h : dH) : cV h h := fun _ _ _ => rfl
theorem cV.trans {f g h : dH} (q : cV f g) (r : cV g h) : cV f h := fun a k x => (q a k x).trans (r a k x)
theorem cFr.v {g h : dH} (q : cFr 57 g h) : cV g h := fun a k x => q a k (by omega) (by omega)
theorem fFr.v {N : Nat} {g h : dH} (q : fFr 57 N g h) (hN : N ≤ 8) : cV g h := fun a k x => q a k (by omega) (by omega) (by omega) (by omega)
theorem nFr.v {a : Nat} (ha : zS a) {g h : dH} (q : nFr a g h) : cV g h := fun b k x => by
  have z := zS_or ha
  exact q b k (by omega) (by omega)
theorem oFr.v {g h : dH} (q : oFr g h) : cV g h := fun a k x => q a k (by omega) (by omega)
theorem becQ.v {c : Nat} {g h : dH} (q : becQ 57 c g h) : cV g h := fun a k x => q.2.2.2.2.2.2 a k (by omega)
theorem textR.same {gC hC gM hM : dH} (q : textR hC hM) (e : ∀ a k, (a = 0 ∧ k = 3) ∨ (11 ≤ a ∧ a ≤ 32 ∧ (a % 4 = 3 ∨ a % 4 = 0)) → gC a k = hC a k) (m : ∀ a k, (a = 0 ∧ k = 3) ∨ a = 1 ∨ a = 2 → gM a k = hM a k) : textR gC gM := by
  obtain ⟨q1, q2, q3, q4⟩ := q
  have c := e 0 3 (by omega)
  unfold textR
  rw [c, m 0 3 (by omega)]
  exact ⟨q1, q2, q3, fun t ht => (q4 t ht).same (fun k => e _ k (by omega)) (fun k => e _ k (by omega)) (fun j _ => m 1 _ (by omega)) (m 2 t (by omega))⟩
theorem tapeR.same {gC hC gM hM : dH} (q : tapeR hC hM) (e : ∀ a k, (a = 1 ∧ k = 0) ∨ a = 5 → gC a k = hC a k) (m : ∀ a k, (a = 0 ∧ k = 6) ∨ a = 3 → gM a k = hM a k) : tapeR gC gM := by
  unfold tapeR at q ⊢
  rw [e 1 0 (by omega), m 0 6 (by omega)]
  exact ⟨q.1, q.2.1, q.2.2.1, fun j hj => by rw [e 5 j (by omega), m 3 j (by omega)]; exact q.2.2.2 j hj⟩
theorem shR.same {gC hC gM hM : dH} {s : Nat} (q : shR hC hM s) (hs : s < 4) (e : ∀ a k, 34 ≤ a ∧ a ≤ 41 → gC a k = hC a k) (m : ∀ a k, 14 ≤ a ∧ a ≤ 17 → gM a k = hM a k) : shR gC gM s := by
  unfold shR at q ⊢
  rw [e (34 + 2 * s) 0 (by omega), e (34 + 2 * s) 1 (by omega), m 14 s (by omega), m 15 s (by omega), m 16 s (by omega)]
  rcases q with q | ⟨q1, q2, q3, q4, q5, q6, q7, q8⟩
  · exact Or.inl q
  · exact Or.inr ⟨q1, q2, q3, q4, q5, q6, q7, fun i hi => by rw [e (34 + 2 * s + 1) i (by omega), m 17 _ (by omega)]; exact q8 i hi⟩
theorem keptR.same {gC hC gM hM : dH} (q : keptR hC hM) (e : ∀ a k, (a = 0 ∧ k = 7) ∨ (71 ≤ a ∧ a ≤ 83) → gC a k = hC a k) (m : ∀ a k : Nat, (a = 0 ∧ 39 ≤ k ∧ k ≤ 42) ∨ (a = 4 ∧ (k : Int) < (hC 71 2).toInt) ∨ (11 ≤ a ∧ a ≤ 13) → gM a k = hM a k) (hc : (hC 43 2).toInt ≤ (gC 43 2).toInt) (ht : (hC 0 3).toInt ≤ (gC 0 3).toInt) : keptR gC gM := by
  unfold keptR at q ⊢
  rw [e 0 7 (by omega), m 0 39 (by omega), m 0 40 (by omega), m 0 41 (by omega), m 0 42 (by omega), e 71 2 (by omega)]
  rcases q with q | ⟨q1, q2, q3⟩
  · exact Or.inl q
  · refine Or.inr ⟨q1, ?_, by omega⟩
    obtain ⟨w1, w2, w3, w4, w5, w6, w7, w8, w9, w10, w11⟩ := q2
    have c : gC 71 2 = hC 71 2 := e 71 2 (by omega)
    have w : strR 71 (hM 0 40) (hM 0 41) (hM 0 39) (hM 0 42) (fun i => if (i : Int) < (hC 71 2).toInt then hM 4 i else gM 4 i) (hM 11) (hM 12) (hM 13) (hC 0 3).toInt hC := ⟨w1, w2, w3, w4, fun i hi => by simp only; rw [if_pos (by omega)]; exact w5 i hi, w6, w7, w8, w9, w10, w11⟩
    refine w.same (fun b k hb => e b k (by omega)) rfl rfl rfl rfl (fun i hi => ⟨?_, m 11 i (by omega), m 12 i (by omega)⟩) (fun i hi => m 13 i (by omega)) ht
    by_cases z : (i : Int) < (hC 71 2).toInt
    · rw [if_pos z]; exact m 4 i (by omega)
    · rw [if_neg z]
/-- calls that only ask -/
theorem RR.keep {gC hC gM hM : dH} (q : RR hC hM) (e : cV gC hC) (m : bFr gM hM) : RR gC gM := by
  obtain ⟨q1, q2, q3, q4, q5, q6⟩ := q
  have m' : ∀ a k, ¬ (a = 0 ∧ 14 ≤ k ∧ k ≤ 28) → ¬ (a = 0 ∧ k = 34) → ¬ (8 ≤ a ∧ a ≤ 10) → ¬ (a = 7 ∧ 64 ≤ k) → gM a k = hM a k := m
  refine ⟨?_, ?_, q3.same (fun a k x => e a k (by omega)) (fun a k x => m' a k (by omega) (by omega) (by omega) (by omega)), q4.same (fun a k x => e a k (by omega)) (fun a k x => m' a k (by omega) (by omega) (by omega) (by omega)), fun s hs => (q5 s hs).same hs (fun a k x => e a k (by omega)) (fun a k x => m' a k (by omega) (by omega) (by omega) (by omega)), mNo.b m q6⟩
  · unfold nowR at q1 ⊢
    rw [e 0 3 (by omega)]
    refine q1.same (fun b k hb => e b k (by omega)) (m' 0 7 (by omega) (by omega) (by omega) (by omega)) (m' 0 8 (by omega) (by omega) (by omega) (by omega)) (m' 0 13 (by omega) (by omega) (by omega) (by omega)) (m' 0 4 (by omega) (by omega) (by omega) (by omega)) (fun i hi => ⟨m' 4 i (by omega) (by omega) (by omega) (by omega), m' 5 i (by omega) (by omega) (by omega) (by omega), m' 6 i (by omega) (by omega) (by omega) (by omega)⟩) (fun i hi => m' 7 i (by omega) (by omega) (by omega) (by omega)) (Int.le_refl _)
  · exact q2.same (fun a k x => e a k (by omega)) (fun a k x => m' a k (by omega) (by omega) (by omega) (by omega)) (by rw [e 43 2 (by omega)]; exact Int.le_refl _) (by rw [e 0 3 (by omega)]; exact Int.le_refl _)
/-! the street of now, on both sides -/
theorem RR.st {hC hM : dH} (q : RR hC hM) : SC 43 (yOf 43 hC) (hC 43 0) (stOf 43 hC) hC ∧ SM (yOf 43 hC) (hC 43 0) (stOf 43 hC) hM ∧ Wf (yN (yOf 43 hC)) (stOf 43 hC) ∧ Yr (yOf 43 hC) ∧ Tr (yOf 43 hC) := by
  obtain ⟨q1, q2, q3, q4, q5, q6⟩ := q
  obtain ⟨w1, w2, w3, w4, w5, w6, w7, w8, w9, w10, w11⟩ := q1
  have hN : yN (yOf 43 hC) = (hC 43 2).toInt.toNat := rfl
  obtain ⟨t1, t2, t3, t4⟩ := q3
  have sm := t4 (hM 0 4).toInt.toNat (by omega)
  obtain ⟨s1, s2, s3⟩ := sm
  rw [← w7.1] at s1 s2 s3
  refine ⟨⟨rfl, rfl, by rw [hN]; omega, by rw [hN]; omega, fun i _ => ⟨rfl, rfl, rfl⟩, fun i j _ _ => rfl, s1, s2, fun pt nm _ => rfl⟩, ⟨w1.symm, w2.symm, by rw [hN, ← w3]; omega, by rw [hN]; omega, fun i hi => ?_, fun i j hi hj => ?_, fun h' v1 v2 o pt a1 a2 a3 a4 a5 a6 => ?_⟩, w10, ⟨fun i hi => (w9 i hi).2.1, fun pt nm => evF_rng _ _ _ _⟩, fun i hi => (w9 i hi).2.2⟩
  · obtain ⟨x1, x2, x3⟩ := w5 i hi
    exact ⟨x1.symm, x2.symm, x3.symm⟩
  · exact (w6 i j hi hj).symm
  · obtain ⟨y1, y2⟩ := s3 h' v1 v2 o pt (fun j _ => a1 _) (a2 _) a3 (by rw [a4]; omega) a5 a6
    exact ⟨y1, (evF_of y2).symm⟩
end
