/-! what the reference's tests say of the token -/
noncomputable section
section PR
variable {B : Nat → Int} {N : Nat} {P : Nat → Nat} {n : Nat} {i : Nat} {c : Int} {s e : Nat} {w : Int} {g h : dH}
theorem Good.sign (G : Good B N P n i c s e w g h) {v : Int32} (hv : isSg v.toInt) : Al (f_X7_isSign v h) (fun r => (r.toInt = 1 ∧ c = v.toInt ∧ (h 0 22).toInt = e) ∨ (r.toInt = 0 ∧ ¬ c = v.toInt)) := by
  obtain ⟨t, o, hB, hN, hb, b4, b27, hi, g2, g3, tk, gs, gw, mt, hn⟩ := G
  unfold f_X7_isSign
  have hd := dlcmp_ok (h 0 25).toInt64 v.toInt64
  rw [l_i2l, l_i2l] at hd
  have m2 := mt.2
  unfold isSg at hv m2
  refine al_ite (fun _ => al_ite (fun c3 => al_ite (fun c4 => al_some (Or.inl ⟨ti1, ?_, ?_⟩)) (fun c4 => al_some (Or.inr ⟨ti0, ?_⟩))) (fun c3 => al_some (Or.inr ⟨ti0, ?_⟩))) (fun z => absurd b27 z)
  all_goals omega
theorem letter_ok {h : dH} {s e j : Nat} (hs : s ≤ 160) (ho : mOk h) (h24 : (h 0 24).toInt = s) (h22 : (h 0 22).toInt = e) (he : (e : Int) ≤ (h 0 21).toInt) {x v : Int32} (hx : x.toInt = j) (hj : j ≤ 8) : Al (f_X7_isLetter x v h) (fun r => (r.toInt = 1 ∧ (s + j < e → mB h (s + j) = v.toInt) ∧ (e ≤ s + j → v.toInt = 0)) ∨ (r.toInt = 0 ∧ ¬ ((s + j < e → mB h (s + j) = v.toInt) ∧ (e ≤ s + j → v.toInt = 0)))) := by
  unfold f_X7_isLetter
  have o4 := ho.2.2.2
  have t : ((h 0 24) + x).toInt = (s : Int) + j := i_add h24 hx (by omega) (by omega)
  refine al_ite (fun c => al_oP (fun r hr => ?_)) (fun c => ?_)
  · have hb := byte_ok ho (by rw [t]; omega) r hr
    rw [t, show ((s : Int) + j).toNat = s + j by omega] at hb
    refine al_ite (fun c2 => al_some (Or.inl ⟨ti1, fun _ => by omega, fun _ => by omega⟩)) (fun c2 => al_some (Or.inr ⟨ti0, fun z => ?_⟩))
    have := z.1 (by omega)
    omega
  · refine al_ite (fun c2 => al_some (Or.inl ⟨ti1, fun _ => by omega, fun _ => c2⟩)) (fun c2 => al_some (Or.inr ⟨ti0, fun z => c2 (z.2 (by omega))⟩))
/-- the word's test, letter by letter -/
theorem word8 {h : dH} {s e : Nat} (hs : s ≤ 160) (ho : mOk h) (h24 : (h 0 24).toInt = s) (h22 : (h 0 22).toInt = e) (he : (e : Int) ≤ (h 0 21).toInt) (h27 : (h 0 27).toInt = 0) (h23 : (h 0 23).toInt = 1) {v0 v1 v2 v3 v4 v5 v6 v7 : Int32} (V : Nat → Int) (hV : V 0 = v0.toInt ∧ V 1 = v1.toInt ∧ V 2 = v2.toInt ∧ V 3 = v3.toInt ∧ V 4 = v4.toInt ∧ V 5 = v5.toInt ∧ V 6 = v6.toInt ∧ V 7 = v7.toInt) : Al (f_X7_isWord v0 v1 v2 v3 v4 v5 v6 v7 h) (fun r => (r.toInt = 1 ∧ e ≤ s + 8 ∧ ∀ j, j < 8 → (s + j < e → mB h (s + j) = V j) ∧ (e ≤ s + j → V j = 0)) ∨ (r.toInt = 0 ∧ ¬ (e ≤ s + 8 ∧ ∀ j, j < 8 → (s + j < e → mB h (s + j) = V j) ∧ (e ≤ s + j → V j = 0)))) := by
  unfold f_X7_isWord
  obtain ⟨a0, a1, a2, a3, a4, a5, a6, a7⟩ := hV
  have o4 := ho.2.2.2
  have t : ((h 0 24) + 8).toInt = (s : Int) + 8 := i_add h24 (by decide) (by omega) (by omega)
  have no : ∀ {r v : Int32} {j : Nat}, r.toInt = 0 → V j = v.toInt → j < 8 → ((r.toInt = 1 ∧ (s + j < e → mB h (s + j) = v.toInt) ∧ (e ≤ s + j → v.toInt = 0)) ∨ (r.toInt = 0 ∧ ¬ ((s + j < e → mB h (s + j) = v.toInt) ∧ (e ≤ s + j → v.toInt = 0)))) → ¬ (e ≤ s + 8 ∧ ∀ j, j < 8 → (s + j < e → mB h (s + j) = V j) ∧ (e ≤ s + j → V j = 0)) := by
    intro r v j z y hj q p
    rcases q with q | q
    · omega
    · have := p.2 j hj
      rw [y] at this
      exact q.2 this
  have yes : ∀ {r v : Int32} {j : Nat}, ¬ r.toInt = 0 → V j = v.toInt → ((r.toInt = 1 ∧ (s + j < e → mB h (s + j) = v.toInt) ∧ (e ≤ s + j → v.toInt = 0)) ∨ (r.toInt = 0 ∧ ¬ ((s + j < e → mB h (s + j) = v.toInt) ∧ (e ≤ s + j → v.toInt = 0)))) → (s + j < e → mB h (s + j) = V j) ∧ (e ≤ s + j → V j = 0) := by
    intro r v j z y q
    rw [y]
    rcases q with q | q
    · exact q.2
    · exact absurd q.1 z
  refine al_ite (fun _ => al_ite (fun _ => al_ite (fun c => al_some (Or.inr ⟨ti0, fun z => by omega⟩)) (fun c => ?_)) (fun z => absurd h23 z)) (fun z => absurd h27 z)
  refine al_oP (fun r0 hr0 => ?_)
  have q0 := letter_ok (j := 0) hs ho h24 h22 he (by decide) (by omega) r0 hr0
  refine al_ite (fun z => al_some (Or.inr ⟨ti0, no z a0 (by omega) q0⟩)) (fun z0 => al_oP (fun r1 hr1 => ?_))
  have q1 := letter_ok (j := 1) hs ho h24 h22 he (by decide) (by omega) r1 hr1
  refine al_ite (fun z => al_some (Or.inr ⟨ti0, no z a1 (by omega) q1⟩)) (fun z1 => al_oP (fun r2 hr2 => ?_))
  have q2 := letter_ok (j := 2) hs ho h24 h22 he (by decide) (by omega) r2 hr2
  refine al_ite (fun z => al_some (Or.inr ⟨ti0, no z a2 (by omega) q2⟩)) (fun z2 => al_oP (fun r3 hr3 => ?_))
  have q3 := letter_ok (j := 3) hs ho h24 h22 he (by decide) (by omega) r3 hr3
  refine al_ite (fun z => al_some (Or.inr ⟨ti0, no z a3 (by omega) q3⟩)) (fun z3 => al_oP (fun r4 hr4 => ?_))
  have q4 := letter_ok (j := 4) hs ho h24 h22 he (by decide) (by omega) r4 hr4
  refine al_ite (fun z => al_some (Or.inr ⟨ti0, no z a4 (by omega) q4⟩)) (fun z4 => al_oP (fun r5 hr5 => ?_))
  have q5 := letter_ok (j := 5) hs ho h24 h22 he (by decide) (by omega) r5 hr5
  refine al_ite (fun z => al_some (Or.inr ⟨ti0, no z a5 (by omega) q5⟩)) (fun z5 => al_oP (fun r6 hr6 => ?_))
  have q6 := letter_ok (j := 6) hs ho h24 h22 he (by decide) (by omega) r6 hr6
  refine al_ite (fun z => al_some (Or.inr ⟨ti0, no z a6 (by omega) q6⟩)) (fun z6 => al_oP (fun r7 hr7 => ?_))
  have q7 := letter_ok (j := 7) hs ho h24 h22 he (by decide) (by omega) r7 hr7
  refine al_ite (fun z => al_some (Or.inr ⟨ti0, no z a7 (by omega) q7⟩)) (fun z7 => al_some (Or.inl ⟨ti1, by omega, fun j hj => ?_⟩))
  have : j = 0 ∨ j = 1 ∨ j = 2 ∨ j = 3 ∨ j = 4 ∨ j = 5 ∨ j = 6 ∨ j = 7 := by omega
  rcases this with rfl | rfl | rfl | rfl | rfl | rfl | rfl | rfl
  · exact yes z0 a0 q0
  · exact yes z1 a1 q1
  · exact yes z2 a2 q2
  · exact yes z3 a3 q3
  · exact yes z4 a4 q4
  · exact yes z5 a5 q5
  · exact yes z6 a6 q6
  · exact yes z7 a7 q7
theorem word_isW {B : Nat → Int} {s e : Nat} {l : List Int} (V : Nat → Int) (hl : l.length ≤ 8) (hV : ∀ j, j < 8 → V j = l.getD j 0) (h0 : ∀ j, j < l.length → ¬ l.getD j 0 = 0) (hb : ∀ j, s ≤ j → j < e → ¬ B j = 0) : (e ≤ s + 8 ∧ ∀ j, j < 8 → (s + j < e → B (s + j) = V j) ∧ (e ≤ s + j → V j = 0)) ↔ (s ≤ e ∧ isW B s e l) ∨ (e < s ∧ l = []) := by
  have hd : ∀ j, l.length ≤ j → l.getD j 0 = 0 := fun j hj => by
    rw [List.getD_eq_getElem?_getD, List.getElem?_eq_none hj]; rfl
  constructor
  · intro ⟨h8, hj⟩
    by_cases hse : s ≤ e
    · refine Or.inl ⟨hse, ?_⟩
      have hlen : e = s + l.length := by
        rcases Nat.lt_trichotomy (e - s) l.length with z | z | z
        · have := (hj (e - s) (by omega)).2 (by omega)
          rw [hV _ (by omega)] at this
          exact absurd this (h0 _ z)
        · omega
        · have := (hj l.length (by omega)).1 (by omega)
          rw [hV _ (by omega), hd _ (Nat.le_refl _)] at this
          exact absurd this (hb _ (by omega) (by omega))
      refine ⟨hlen, fun j hjl => ?_⟩
      rw [(hj j (by omega)).1 (by omega), hV j (by omega), List.getD_eq_getElem?_getD, List.getElem?_eq_getElem hjl]
      rfl
    · refine Or.inr ⟨by omega, ?_⟩
      by_cases hz : l.length = 0
      · exact List.length_eq_zero_iff.mp hz
      · have := (hj 0 (by omega)).2 (by omega)
        rw [hV 0 (by omega)] at this
        exact absurd this (h0 0 (by omega))
  · intro h
    rcases h with ⟨hse, hlen, hj⟩ | ⟨hse, hl0⟩
    · refine ⟨by omega, fun j hj8 => ⟨fun z => ?_, fun z => ?_⟩⟩
      · have := hj j (by omega)
        rw [hV j hj8, List.getD_eq_getElem?_getD, ← this]; rfl
      · rw [hV j hj8]; exact hd j (by omega)
    · subst hl0
      exact ⟨by omega, fun j hj8 => ⟨fun z => by omega, fun z => by rw [hV j hj8]; rfl⟩⟩
/-- the word's test against one of the words -/
theorem Good.word (G : Good B N P n i c s e w g h) {l : List Int} (hl : l.length ≤ 8) (hl1 : 0 < l.length) (h0 : ∀ j, j < l.length → ¬ l.getD j 0 = 0) (hsm : ∀ j, j < l.length → isSm (l.getD j 0)) {v0 v1 v2 v3 v4 v5 v6 v7 : Int32} (hv : v0.toInt = l.getD 0 0 ∧ v1.toInt = l.getD 1 0 ∧ v2.toInt = l.getD 2 0 ∧ v3.toInt = l.getD 3 0 ∧ v4.toInt = l.getD 4 0 ∧ v5.toInt = l.getD 5 0 ∧ v6.toInt = l.getD 6 0 ∧ v7.toInt = l.getD 7 0) : Al (f_X7_isWord v0 v1 v2 v3 v4 v5 v6 v7 h) (fun r => (r.toInt = 1 ∧ isW B s e l ∧ s < N ∧ isSm (B s) ∧ (h 0 22).toInt = e) ∨ (r.toInt = 0 ∧ ¬ (isW B s e l ∧ s < N ∧ isSm (B s) ∧ ¬ c = 301))) := by
  have GG := G
  obtain ⟨t, o, hB, hN, hb, b4, b27, hi, g2, g3, tk, gs, gw, mt, hn⟩ := G
  have tk2 := tk.2
  have m2 := mt.2
  by_cases h23 : (h 0 23).toInt = 1
  · have hc : (c = 301 ∨ (303 ≤ c ∧ c ≤ 309)) ∧ (h 0 22).toInt = e := by unfold isSg at m2; omega
    have hlt := tk.lt (by omega)
    have o3 := o.2.2.1
    have o4 := o.2.2.2
    have heN : (e : Int) ≤ (h 0 21).toInt := by clear tk2 m2; omega
    have hs160 : s ≤ 160 := by clear tk2 m2; omega
    have hnz : ∀ j, s ≤ j → j < e → ¬ B j = 0 := by
      intro j j1 j2
      rcases tk2 with q | q | q | q
      · omega
      · have := q.2.2.1.2.2.1 j j1 j2
        unfold isDg at this; omega
      · have := q.2.2.1.2.2.1 j j1 j2
        unfold isSm at this; omega
      · have := (hb s q.1).2
        omega
    have hse : s < e := by
      rcases tk2 with q | q | q | q
      · omega
      · have := q.2.2.1.1
        have : ¬ e = s := fun z => q.2.2.1.2.2.2 (by omega) (by rw [z]; exact q.2.1)
        omega
      · have := q.2.2.1.1
        have : ¬ e = s := fun z => q.2.2.1.2.2.2 (by omega) (by rw [z]; exact q.2.1)
        omega
      · omega
    intro r hr
    have q := word8 hs160 o mt.1 hc.2 heN b27 h23 (fun j => l.getD j 0) ⟨hv.1.symm, hv.2.1.symm, hv.2.2.1.symm, hv.2.2.2.1.symm, hv.2.2.2.2.1.symm, hv.2.2.2.2.2.1.symm, hv.2.2.2.2.2.2.1.symm, hv.2.2.2.2.2.2.2.symm⟩ r hr
    rw [hB, word_isW (B := B) (fun j => l.getD j 0) hl (fun _ _ => rfl) h0 hnz] at q
    rcases q with ⟨q1, q2⟩ | ⟨q1, q2⟩
    · rcases q2 with q2 | q2
      · refine Or.inl ⟨q1, q2.2, by omega, ?_, hc.2⟩
        have := q2.2.2 0 hl1
        rw [Nat.add_zero] at this
        have h9 := hsm 0 hl1
        rw [List.getD_eq_getElem?_getD, ← this] at h9
        exact h9
      · omega
    · exact Or.inr ⟨q1, fun z => q2 (Or.inl ⟨by omega, z.1⟩)⟩
  · unfold f_X7_isWord
    refine al_ite (fun _ => al_ite (fun z => absurd z h23) (fun _ => al_some (Or.inr ⟨ti0, fun z => ?_⟩))) (fun z => absurd b27 z)
    have nd : ¬ isDg (B s) := fun q => dg_sm q z.2.2.1
    rcases tk2 with q | q | q | q
    · omega
    · exact nd q.2.1
    · have hc : c = 301 ∨ (303 ≤ c ∧ c ≤ 309) := by
        rcases q.2.2.2 with u | u | u
        · obtain ⟨i, -, -, u, -⟩ := u
          clear m2 q; omega
        · obtain ⟨i, u1, -, u⟩ := u
          clear m2 q; omega
        · exact Or.inl u.2
      have z4 := z.2.2.2
      clear q z
      unfold isSg at m2
      omega
    · exact q.2.2.1 z.2.2.1
end PR
end
