/-! the reference's next token -/
noncomputable section
theorem lt32 (x : Int32) : -2147483648 ≤ x.toInt ∧ x.toInt < 2147483648 := ⟨Int32.le_toInt x, Int32.toInt_lt x⟩
/-- what a step of the place leaves -/
theorem step22 {g h : dH} (hg : g = dU h 0 22 ((h 0 22) + 1)) (h0 : 0 ≤ (h 0 22).toInt) (h1 : (h 0 22).toInt ≤ 1000) : mSame g h ∧ (g 0 22).toInt = (h 0 22).toInt + 1 ∧ (∀ j, ¬ j = 22 → g 0 j = h 0 j) := by
  rw [hg]
  exact ⟨mSame.up (by omega), inc22 h0 h1, fun j hj => dU_ne (by omega)⟩
/-- blanks are passed over -/
theorem next_0 {k : dH → Option dH} {P : dH → Prop} : ∀ (n : Nat) (h : dH), mOk h → 0 ≤ (h 0 22).toInt → (h 0 22).toInt ≤ (h 0 21).toInt →
    (∀ g, mSame g h → (∀ j, ¬ j = 22 → g 0 j = h 0 j) → 0 ≤ (g 0 22).toInt → Run isBl (mB h) (h 0 21).toInt.toNat (h 0 22).toInt.toNat (g 0 22).toInt.toNat → Al (k g) P) → Al (l_X7_next_0 k n h) P
  | 0, _, _, _, _, _ => al_none
  | n + 1, h, ho, h0, h1, K => by
    rw [l_X7_next_0]
    have o4 := ho.2.2.2
    have again : isBl (mB h (h 0 22).toInt.toNat) → (h 0 22).toInt < (h 0 21).toInt → ∀ g, g = dU h 0 22 ((h 0 22) + 1) → Al (l_X7_next_0 k n g) P := by
      intro hs hlt g hg
      obtain ⟨hm, e22, ek⟩ := step22 hg h0 (by omega)
      have e21 : g 0 21 = h 0 21 := hm.2 21 (by omega)
      refine next_0 n g (hm.ok ho) (by omega) (by rw [e21]; omega) (fun f q1 q2 q8 q9 => ?_)
      refine K f (q1.trans hm) (fun j hj => (q2 j hj).trans (ek j hj)) q8 (Run.step hs ?_)
      rw [hm.bytes, e21, e22] at q9
      rw [show (h 0 22).toInt.toNat + 1 = ((h 0 22).toInt + 1).toNat by omega]
      exact q9
    refine al_oP (fun r hr => ?_)
    have hb := byte_ok ho h0 r hr
    refine al_ite (fun c => al_oH' (again (by unfold isBl; omega) (by omega))) (fun c => al_oP (fun r2 hr2 => ?_))
    have hb2 := byte_ok ho h0 r2 hr2
    refine al_ite (fun c2 => al_oH' (again (by unfold isBl; omega) (by omega))) (fun c2 => ?_)
    refine K h (mSame.refl h) (fun _ _ => rfl) h0 (Run.stop (by omega) (fun hn => ?_))
    unfold isBl
    omega
/-- a number's digits -/
theorem next_160 {k : Int32 → dH → Option dH} {P : dH → Prop} (s : Nat) : ∀ (n : Nat) (v : Int32) (h : dH), mOk h → 0 ≤ (h 0 22).toInt → (h 0 22).toInt ≤ (h 0 21).toInt → 0 ≤ v.toInt → v.toInt + s = (h 0 22).toInt →
    (0 ≤ (h 0 25).toInt ∧ (h 0 25).toInt ≤ 9999 ∧ (v.toInt ≤ 0 → (h 0 25).toInt ≤ 0) ∧ (v.toInt ≤ 1 → (h 0 25).toInt ≤ 9) ∧ (v.toInt ≤ 2 → (h 0 25).toInt ≤ 99) ∧ (v.toInt ≤ 3 → (h 0 25).toInt ≤ 999)) → (v.toInt ≤ 4 → (h 0 25).toInt = numV (mB h) s v.toInt.toNat) →
    (∀ (w : Int32) (g : dH), mSame g h → (∀ j, ¬ j = 22 → ¬ j = 25 → g 0 j = h 0 j) → 0 ≤ (g 0 22).toInt → w.toInt + s = (g 0 22).toInt → (w.toInt ≤ 4 → (g 0 25).toInt = numV (mB h) s w.toInt.toNat) → Run isDg (mB h) (h 0 21).toInt.toNat (h 0 22).toInt.toNat (g 0 22).toInt.toNat → Al (k w g) P) → Al (l_X7_next_160 k n v h) P
  | 0, _, _, _, _, _, _, _, _, _, _ => al_none
  | n + 1, v, h, ho, h0, h1, v0, vs, wb, wv, K => by
    rw [l_X7_next_160]
    have o4 := ho.2.2.2
    refine al_oP (fun r hr => al_oP (fun r2 hr2 => ?_))
    have hb := byte_ok ho h0 r hr
    have hi := in7 hr2
    rw [l_i2l, show (48 : Int64).toInt = 48 by decide, show (57 : Int64).toInt = 57 by decide] at hi
    have tv : (v + 1).toInt = v.toInt + 1 := i_add rfl (by decide) (by omega) (by omega)
    have again : isDg (mB h (h 0 22).toInt.toNat) → (h 0 22).toInt < (h 0 21).toInt → ∀ (x : Int32) (g : dH), g = dU (dU h 0 25 x) 0 22 (((dU h 0 25 x) 0 22) + 1) → (0 ≤ x.toInt ∧ x.toInt ≤ 9999 ∧ (v.toInt + 1 ≤ 1 → x.toInt ≤ 9) ∧ (v.toInt + 1 ≤ 2 → x.toInt ≤ 99) ∧ (v.toInt + 1 ≤ 3 → x.toInt ≤ 999)) → (v.toInt + 1 ≤ 4 → x.toInt = numV (mB h) s (v.toInt.toNat + 1)) → Al (l_X7_next_160 k n (v + 1) g) P := by
      intro hs hlt x g hg xb xv
      have e22' : (dU h 0 25 x) 0 22 = h 0 22 := dU_ne (by omega)
      obtain ⟨hm', e22, ek⟩ := step22 hg (by rw [e22']; exact h0) (by rw [e22']; omega)
      rw [e22'] at e22
      have hm : mSame g h := hm'.trans (mSame.up (by omega))
      have e21 : g 0 21 = h 0 21 := hm.2 21 (by omega)
      have e25 : g 0 25 = x := (ek 25 (by omega)).trans dU_eq
      refine next_160 s n (v + 1) g (hm.ok ho) (by omega) (by rw [e21]; omega) (by omega) (by omega) ?_ ?_ (fun w f q1 q2 q3 q4 q5 q6 => ?_)
      · rw [e25, tv]
        exact ⟨xb.1, xb.2.1, fun z => by omega, fun z => xb.2.2.1 (by omega), fun z => xb.2.2.2.1 (by omega), fun z => xb.2.2.2.2 (by omega)⟩
      · intro z
        rw [e25, hm.bytes, show (v + 1).toInt.toNat = v.toInt.toNat + 1 by omega]
        exact xv (by omega)
      · rw [hm.bytes] at q5
        refine K w f (q1.trans hm) (fun j j1 j2 => (q2 j j1 j2).trans ((ek j j1).trans (dU_ne (by omega)))) q3 q4 q5 (Run.step hs ?_)
        rw [hm.bytes, e21, e22] at q6
        rw [show (h 0 22).toInt.toNat + 1 = ((h 0 22).toInt + 1).toNat by omega]
        exact q6
    refine al_ite (fun c => ?_) (fun c => ?_)
    · refine K v h (mSame.refl h) (fun _ _ _ => rfl) h0 vs wv (Run.stop (by omega) (fun hn => ?_))
      unfold isDg
      omega
    · have hs : isDg (mB h (h 0 22).toInt.toNat) := by unfold isDg; omega
      have hlt : (h 0 22).toInt < (h 0 21).toInt := by omega
      refine al_ite (fun c4 => al_oP (fun r3 hr3 => ?_)) (fun c4 => ?_)
      · have hb3 := byte_ok ho h0 r3 hr3
        have t1 : (10 * (h 0 25).toInt64).toInt = 10 * (h 0 25).toInt := l_mul (by decide) l_i2l (by omega) (by omega)
        have t2 : (10 * (h 0 25).toInt64 + r3.toInt64).toInt = 10 * (h 0 25).toInt + r3.toInt := l_add t1 l_i2l (by omega) (by omega)
        have t3 : (10 * (h 0 25).toInt64 + r3.toInt64 - 48).toInt = 10 * (h 0 25).toInt + r3.toInt - 48 := l_sub t2 (by decide) (by omega) (by omega)
        refine al_ite (fun c5 => ?_) (fun _ => al_none)
        have tx : ((10 * (h 0 25).toInt64 + r3.toInt64 - 48).toInt32).toInt = 10 * (h 0 25).toInt + r3.toInt - 48 := by
          have := congrArg Int64.toInt c5
          rw [l_i2l, t3] at this
          exact this
        refine al_oH' (fun g hg => al_oH' (fun f hf => ?_))
        rw [hg] at hf
        unfold isDg at hs
        refine again hs hlt _ f hf (by rw [tx]; omega) (fun z => ?_)
        rw [tx, numV, ← wv (by omega), show s + v.toInt.toNat = (h 0 22).toInt.toNat by omega]
        omega
      · refine al_ite (fun c5 => ?_) (fun _ => al_none)
        have tx : ((h 0 25).toInt64.toInt32).toInt = (h 0 25).toInt := by
          have := congrArg Int64.toInt c5
          rw [l_i2l, l_i2l] at this
          exact this
        refine al_oH' (fun g hg => al_oH' (fun f hf => ?_))
        rw [hg] at hf
        refine again hs hlt _ f hf (by rw [tx]; omega) (fun z => absurd z (by omega))
end
