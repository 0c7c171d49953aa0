/-! that they answer: X7_in, X7_within, X7_isHouse, X7_isValue, X7_lays, X7_strengthOf, X7_knows, X7_seatsOf, X7_apart, X7_fail, X7_byteAt, X7_isLetter, X7_isWord, X7_next, X7_isSign (by program) -/
noncomputable section
theorem s_X7_in (h : dH) (I_h : InvM h) (v0 : Int64) (v2 : Int64) (v4 : Int64)  : Sf (f_X7_in v0 v2 v4) (fun r => r.toInt = 0 ∨ (r.toInt = 1 ∧ v2.toInt ≤ v0.toInt ∧ v0.toInt ≤ v4.toInt)) := by
  unfold f_X7_in
  have tx1 := dlcmp_ok v0 v2
  refine sf_ite (fun c1 => ?_) (fun c2 => ?_)
  · skip
    have tx2 : (0 : Int32).toInt = 0 := by decide
    exact sf_some ((show (0 : Int32).toInt = 0 ∨ ((0 : Int32).toInt = 1 ∧ v2.toInt ≤ v0.toInt ∧ v0.toInt ≤ v4.toInt) by omega))
  · skip
    have tx3 := dlcmp_ok v0 v4
    refine sf_ite (fun c3 => ?_) (fun c4 => ?_)
    · skip
      have tx4 : (0 : Int32).toInt = 0 := by decide
      exact sf_some ((show (0 : Int32).toInt = 0 ∨ ((0 : Int32).toInt = 1 ∧ v2.toInt ≤ v0.toInt ∧ v0.toInt ≤ v4.toInt) by omega))
    · skip
      have tx5 : (1 : Int32).toInt = 1 := by decide
      exact sf_some ((show (1 : Int32).toInt = 0 ∨ ((1 : Int32).toInt = 1 ∧ v2.toInt ≤ v0.toInt ∧ v0.toInt ≤ v4.toInt) by omega))
theorem s_X7_within (h : dH) (I_h : InvM h) (v0 : Int32) (v1 : Int32) (v2 : Int32)  : Sf (f_X7_within v0 v1 v2) (fun r => v2.toInt < v1.toInt ∨ (v1.toInt ≤ r.toInt ∧ r.toInt ≤ v2.toInt)) := by
  unfold f_X7_within
  have u_v0 := Int32.toInt_lt v0
  have w_v0 := Int32.le_toInt v0
  have u_v1 := Int32.toInt_lt v1
  have w_v1 := Int32.le_toInt v1
  have u_v2 := Int32.toInt_lt v2
  have w_v2 := Int32.le_toInt v2
  refine sf_ite (fun c1 => ?_) (fun c2 => ?_)
  · skip
    exact sf_some ((show v2.toInt < v1.toInt ∨ (v1.toInt ≤ v1.toInt ∧ v1.toInt ≤ v2.toInt) by omega))
  · skip
    refine sf_ite (fun c3 => ?_) (fun c4 => ?_)
    · skip
      exact sf_some ((show v2.toInt < v1.toInt ∨ (v1.toInt ≤ v2.toInt ∧ v2.toInt ≤ v2.toInt) by omega))
    · skip
      exact sf_some ((show v2.toInt < v1.toInt ∨ (v1.toInt ≤ v0.toInt ∧ v0.toInt ≤ v2.toInt) by omega))
theorem s_X7_isHouse (h : dH) (I_h : InvM h) (v1 : Int32)  : Sf (f_X7_isHouse v1 h) (fun r => r.toInt = 0 ∨ (r.toInt = 1 ∧ 0 ≤ v1.toInt ∧ v1.toInt ≤ 7 ∧ v1.toInt < (h 0 13).toInt)) := by
  unfold f_X7_isHouse
  have u_v1 := Int32.toInt_lt v1
  have w_v1 := Int32.le_toInt v1
  have tx1 : v1.toInt64.toInt = v1.toInt := l_i2l
  have tx2 : (0 : Int64).toInt = 0 := by decide
  have bx3 := I_h.1 0 13 (0) (8) rfl
  try have tx4 : ((h 0 13) - 1).toInt = (h 0 13).toInt - 1 := i_sub rfl (by decide) (by omega) (by omega)
  have tx5 : ((h 0 13) - 1).toInt64.toInt = ((h 0 13) - 1).toInt := l_i2l
  refine sf_oP (s_X7_in h I_h (v1.toInt64) 0 (((h 0 13) - 1).toInt64)) (fun r1 pr1 => ?_)
  refine sf_guard (by rw [d_toI, d_toI, show (0 : Int32).toInt = 0 by decide, show (1 : Int32).toInt = 1 by decide]; omega) (fun c2 => ?_)
  exact sf_some ((show r1.toInt = 0 ∨ (r1.toInt = 1 ∧ 0 ≤ v1.toInt ∧ v1.toInt ≤ 7 ∧ v1.toInt < (h 0 13).toInt) by omega))
theorem s_X7_isValue (h : dH) (I_h : InvM h) (v0 : Int32) (v1 : Int32)  : Sf (f_X7_isValue v0 v1) (fun r => True) := by
  unfold f_X7_isValue
  have u_v0 := Int32.toInt_lt v0
  have w_v0 := Int32.le_toInt v0
  have u_v1 := Int32.toInt_lt v1
  have w_v1 := Int32.le_toInt v1
  refine sf_ite (fun c1 => ?_) (fun c2 => ?_)
  · skip
    have tx1 : v1.toInt64.toInt = v1.toInt := l_i2l
    have tx2 : ((-1) : Int64).toInt = (-1) := by decide
    have tx3 : (3 : Int64).toInt = 3 := by decide
    refine sf_oP (s_X7_in h I_h (v1.toInt64) (-1) 3) (fun r3 pr3 => ?_)
    refine sf_guard (by rw [d_toI, d_toI, show (0 : Int32).toInt = 0 by decide, show (1 : Int32).toInt = 1 by decide]; omega) (fun c4 => ?_)
    exact sf_some (trivial)
  · skip
    refine sf_ite (fun c5 => ?_) (fun c6 => ?_)
    · skip
      refine sf_ite (fun c7 => ?_) (fun c8 => ?_)
      · skip
        have tx4 : v1.toInt64.toInt = v1.toInt := l_i2l
        have tx5 : (1 : Int64).toInt = 1 := by decide
        have tx6 : (999 : Int64).toInt = 999 := by decide
        refine sf_oP (s_X7_in h I_h (v1.toInt64) 1 999) (fun r9 pr9 => ?_)
        refine sf_guard (by rw [d_toI, d_toI, show (0 : Int32).toInt = 0 by decide, show (1 : Int32).toInt = 1 by decide]; omega) (fun c10 => ?_)
        exact sf_some (trivial)
      · skip
        refine sf_ite (fun c11 => ?_) (fun c12 => ?_)
        · skip
          have tx7 : v1.toInt64.toInt = v1.toInt := l_i2l
          have tx8 : (1 : Int64).toInt = 1 := by decide
          have tx9 : (99 : Int64).toInt = 99 := by decide
          refine sf_oP (s_X7_in h I_h (v1.toInt64) 1 99) (fun r13 pr13 => ?_)
          refine sf_guard (by rw [d_toI, d_toI, show (0 : Int32).toInt = 0 by decide, show (1 : Int32).toInt = 1 by decide]; omega) (fun c14 => ?_)
          exact sf_some (trivial)
        · skip
          have tx10 : v1.toInt64.toInt = v1.toInt := l_i2l
          have tx11 : (1 : Int64).toInt = 1 := by decide
          have tx12 : (9 : Int64).toInt = 9 := by decide
          refine sf_oP (s_X7_in h I_h (v1.toInt64) 1 9) (fun r15 pr15 => ?_)
          refine sf_guard (by rw [d_toI, d_toI, show (0 : Int32).toInt = 0 by decide, show (1 : Int32).toInt = 1 by decide]; omega) (fun c16 => ?_)
          exact sf_some (trivial)
    · skip
      refine sf_ite (fun c17 => ?_) (fun c18 => ?_)
      · skip
        have tx13 : v1.toInt64.toInt = v1.toInt := l_i2l
        have tx14 : (0 : Int64).toInt = 0 := by decide
        have tx15 : (999 : Int64).toInt = 999 := by decide
        refine sf_oP (s_X7_in h I_h (v1.toInt64) 0 999) (fun r19 pr19 => ?_)
        refine sf_guard (by rw [d_toI, d_toI, show (0 : Int32).toInt = 0 by decide, show (1 : Int32).toInt = 1 by decide]; omega) (fun c20 => ?_)
        exact sf_some (trivial)
      · skip
        refine sf_ite (fun c21 => ?_) (fun c22 => ?_)
        · skip
          have tx16 : v1.toInt64.toInt = v1.toInt := l_i2l
          have tx17 : (0 : Int64).toInt = 0 := by decide
          have tx18 : (99 : Int64).toInt = 99 := by decide
          refine sf_oP (s_X7_in h I_h (v1.toInt64) 0 99) (fun r23 pr23 => ?_)
          refine sf_guard (by rw [d_toI, d_toI, show (0 : Int32).toInt = 0 by decide, show (1 : Int32).toInt = 1 by decide]; omega) (fun c24 => ?_)
          exact sf_some (trivial)
        · skip
          have tx19 : v1.toInt64.toInt = v1.toInt := l_i2l
          have tx20 : (0 : Int64).toInt = 0 := by decide
          have tx21 : (9 : Int64).toInt = 9 := by decide
          refine sf_oP (s_X7_in h I_h (v1.toInt64) 0 9) (fun r25 pr25 => ?_)
          refine sf_guard (by rw [d_toI, d_toI, show (0 : Int32).toInt = 0 by decide, show (1 : Int32).toInt = 1 by decide]; omega) (fun c26 => ?_)
          exact sf_some (trivial)
theorem s_X7_lays (h : dH) (I_h : InvM h) (v1 : Int32) (v2 : Int32) (v3 : Int32) (q0 : v1.toInt = 0 ∨ v1.toInt = 1 ∨ (2 ≤ v1.toInt ∧ v1.toInt ≤ 4 ∧ 0 ≤ v2.toInt ∧ v2.toInt ≤ 7) ∨ (5 ≤ v1.toInt ∧ 0 ≤ v3.toInt ∧ v3.toInt ≤ 5)) : Sf (f_X7_lays v1 v2 v3 h) (fun o => InvM o ∧ o 0 3 = h 0 3 ∧ o 0 13 = h 0 13 ∧ True) := by
  unfold f_X7_lays
  have u_v1 := Int32.toInt_lt v1
  have w_v1 := Int32.le_toInt v1
  have u_v2 := Int32.toInt_lt v2
  have w_v2 := Int32.le_toInt v2
  have u_v3 := Int32.toInt_lt v3
  have w_v3 := Int32.le_toInt v3
  refine sf_ite (fun c1 => ?_) (fun c2 => ?_)
  · skip
    refine sf_oH (fun g3 hg3 => ?_)
    have I_g3 : InvM g3 := by rw [hg3]; exact invM_free I_h rfl (by omega) (by omega)
    have ex1 : g3 0 3 = h 0 3 := by rw [hg3]; exact dU_ne (by omega)
    have yx2 := congrArg Int32.toInt ex1
    have ex3 : g3 0 4 = h 0 4 := by rw [hg3]; exact dU_ne (by omega)
    have yx4 := congrArg Int32.toInt ex3
    have ex5 : g3 0 13 = h 0 13 := by rw [hg3]; exact dU_ne (by omega)
    have yx6 := congrArg Int32.toInt ex5
    have yx7 : (g3 0 7).toInt = v3.toInt := by rw [hg3, dU_eq]
    exact sf_some (⟨I_g3, ex1, ex5, trivial⟩)
  · skip
    refine sf_ite (fun c4 => ?_) (fun c5 => ?_)
    · skip
      refine sf_oH (fun g6 hg6 => ?_)
      have I_g6 : InvM g6 := by rw [hg6]; exact invM_free I_h rfl (by omega) (by omega)
      have ex8 : g6 0 3 = h 0 3 := by rw [hg6]; exact dU_ne (by omega)
      have yx9 := congrArg Int32.toInt ex8
      have ex10 : g6 0 4 = h 0 4 := by rw [hg6]; exact dU_ne (by omega)
      have yx11 := congrArg Int32.toInt ex10
      have ex12 : g6 0 13 = h 0 13 := by rw [hg6]; exact dU_ne (by omega)
      have yx13 := congrArg Int32.toInt ex12
      have yx14 : (g6 0 8).toInt = v3.toInt := by rw [hg6, dU_eq]
      exact sf_some (⟨I_g6, ex8, ex12, trivial⟩)
    · skip
      refine sf_ite (fun c7 => ?_) (fun c8 => ?_)
      · skip
        refine sf_guard (by omega) (fun c10 => ?_)
        refine sf_oH (fun g9 hg9 => ?_)
        have I_g9 : InvM g9 := by rw [hg9]; exact invM_free I_h rfl (by omega) (by omega)
        have ex15 : g9 0 3 = h 0 3 := by rw [hg9]; exact dU_ne (by omega)
        have yx16 := congrArg Int32.toInt ex15
        have ex17 : g9 0 4 = h 0 4 := by rw [hg9]; exact dU_ne (by omega)
        have yx18 := congrArg Int32.toInt ex17
        have ex19 : g9 0 13 = h 0 13 := by rw [hg9]; exact dU_ne (by omega)
        have yx20 := congrArg Int32.toInt ex19
        exact sf_some (⟨I_g9, ex15, ex19, trivial⟩)
      · skip
        refine sf_ite (fun c11 => ?_) (fun c12 => ?_)
        · skip
          refine sf_guard (by omega) (fun c14 => ?_)
          refine sf_oH (fun g13 hg13 => ?_)
          have I_g13 : InvM g13 := by rw [hg13]; exact invM_free I_h rfl (by omega) (by omega)
          have ex21 : g13 0 3 = h 0 3 := by rw [hg13]; exact dU_ne (by omega)
          have yx22 := congrArg Int32.toInt ex21
          have ex23 : g13 0 4 = h 0 4 := by rw [hg13]; exact dU_ne (by omega)
          have yx24 := congrArg Int32.toInt ex23
          have ex25 : g13 0 13 = h 0 13 := by rw [hg13]; exact dU_ne (by omega)
          have yx26 := congrArg Int32.toInt ex25
          exact sf_some (⟨I_g13, ex21, ex25, trivial⟩)
        · skip
          refine sf_ite (fun c15 => ?_) (fun c16 => ?_)
          · skip
            refine sf_guard (by omega) (fun c18 => ?_)
            refine sf_oH (fun g17 hg17 => ?_)
            have I_g17 : InvM g17 := by rw [hg17]; exact invM_free I_h rfl (by omega) (by omega)
            have ex27 : g17 0 3 = h 0 3 := by rw [hg17]; exact dU_ne (by omega)
            have yx28 := congrArg Int32.toInt ex27
            have ex29 : g17 0 4 = h 0 4 := by rw [hg17]; exact dU_ne (by omega)
            have yx30 := congrArg Int32.toInt ex29
            have ex31 : g17 0 13 = h 0 13 := by rw [hg17]; exact dU_ne (by omega)
            have yx32 := congrArg Int32.toInt ex31
            exact sf_some (⟨I_g17, ex27, ex31, trivial⟩)
          · skip
            refine sf_oH (fun g19 hg19 => ?_)
            have I_g19 : InvM g19 := by rw [hg19]; exact invM_set (l := 0) (u := 5) I_h rfl (by omega) (by omega) (by omega)
            have ex33 : g19 0 3 = h 0 3 := by rw [hg19]; exact dU_ne (by omega)
            have yx34 := congrArg Int32.toInt ex33
            have ex35 : g19 0 13 = h 0 13 := by rw [hg19]; exact dU_ne (by omega)
            have yx36 := congrArg Int32.toInt ex35
            have yx37 : (g19 0 4).toInt = v3.toInt := by rw [hg19, dU_eq]
            exact sf_some (⟨I_g19, ex33, ex35, trivial⟩)
theorem s_X7_strengthOf (h : dH) (I_h : InvM h) (v1 : Int32) (v2 : Int32) (q0 : 0 ≤ v1.toInt ∧ v1.toInt ≤ 7) (q1 : 0 ≤ v2.toInt ∧ v2.toInt ≤ 7) : Sf (f_X7_strengthOf v1 v2 h) (fun r => True) := by
  unfold f_X7_strengthOf
  have u_v1 := Int32.toInt_lt v1
  have w_v1 := Int32.le_toInt v1
  have u_v2 := Int32.toInt_lt v2
  have w_v2 := Int32.le_toInt v2
  try have tx1 : (8 * v1).toInt = 8 * v1.toInt := i_mul (by decide) rfl (by omega) (by omega)
  try have tx2 : ((8 * v1) + v2).toInt = (8 * v1).toInt + v2.toInt := i_add rfl rfl (by omega) (by omega)
  refine sf_guard (by omega) (fun c1 => ?_)
  exact sf_some (trivial)
theorem s_X7_knows (h : dH) (I_h : InvM h) (v1 : Int32) (v2 : Int32) (q0 : 0 ≤ v1.toInt ∧ v1.toInt ≤ 7) (q1 : 0 ≤ v2.toInt ∧ v2.toInt ≤ 7) : Sf (f_X7_knows v1 v2 h) (fun r => True) := by
  unfold f_X7_knows
  have u_v1 := Int32.toInt_lt v1
  have w_v1 := Int32.le_toInt v1
  have u_v2 := Int32.toInt_lt v2
  have w_v2 := Int32.le_toInt v2
  refine sf_ite (fun c1 => ?_) (fun c2 => ?_)
  · skip
    exact sf_some (trivial)
  · skip
    refine sf_ite (fun c3 => ?_) (fun c4 => ?_)
    · skip
      exact sf_some (trivial)
    · skip
      refine sf_ite (fun c5 => ?_) (fun c6 => ?_)
      · skip
        exact sf_some (trivial)
      · skip
        refine sf_oP (s_X7_strengthOf h I_h v1 v2 (by omega) (by omega)) (fun r7 pr7 => ?_)
        refine sf_ite (fun c8 => ?_) (fun c9 => ?_)
        · skip
          refine sf_ite (fun c10 => ?_) (fun c11 => ?_)
          · skip
            refine sf_ite (fun c12 => ?_) (fun c13 => ?_)
            · skip
              exact sf_some (trivial)
            · skip
              refine sf_ite (fun c14 => ?_) (fun c15 => ?_)
              · skip
                refine sf_ite (fun c16 => ?_) (fun c17 => ?_)
                · skip
                  exact sf_some (trivial)
                · skip
                  exact sf_some (trivial)
              · skip
                exact sf_some (trivial)
          · skip
            refine sf_ite (fun c18 => ?_) (fun c19 => ?_)
            · skip
              refine sf_ite (fun c20 => ?_) (fun c21 => ?_)
              · skip
                exact sf_some (trivial)
              · skip
                exact sf_some (trivial)
            · skip
              exact sf_some (trivial)
        · skip
          exact sf_some (trivial)
theorem sl_X7_seatsOf_4 (v1 : Int32)  (h : dH) (I_h : InvM h) (r_v1 : 0 ≤ v1.toInt ∧ v1.toInt ≤ 7) (k : Int32 → Option (Int32)) (Q : Int32 → Prop) (hk : ∀ (v2 : Int32), True → Sf (k v2) Q)  : ∀ (n : Nat) (v2 : Int32) (v3 : Int32), 0 ≤ v3.toInt ∧ v3.toInt ≤ 8 → 8 - v3.toInt < (n : Int) → Sf (l_X7_seatsOf_4 v1 h k n v2 v3) Q
  | 0, v2, v3, hi, hm => by omega
  | n + 1, v2, v3, hi, hm => by
    rw [l_X7_seatsOf_4]
    have bx1 := I_h.1 0 13 (0) (8) rfl
    refine sf_ite (fun c1 => ?_) (fun c2 => ?_)
    · skip
      refine sf_guard (by omega) (fun c3 => ?_)
      refine sf_ite (fun c4 => ?_) (fun c5 => ?_)
      · skip
        try have tx2 : (v2 + 0).toInt = v2.toInt + 0 := i_add rfl (by decide) (by omega) (by omega)
        try have tx3 : (v3 + 1).toInt = v3.toInt + 1 := i_add rfl (by decide) (by omega) (by omega)
        exact sl_X7_seatsOf_4  v1  h I_h r_v1 k Q hk n (v2 + 0) (v3 + 1) (by first | trivial | omega) (by omega)
      · skip
        refine sf_guard (by omega) (fun c6 => ?_)
        refine sf_guard (by omega) (fun c7 => ?_)
        refine sf_ite (fun c8 => ?_) (fun c9 => ?_)
        · skip
          try have tx4 : (v2 + 1).toInt = v2.toInt + 1 := i_add rfl (by decide) (by omega) (by omega)
          try have tx5 : (v3 + 1).toInt = v3.toInt + 1 := i_add rfl (by decide) (by omega) (by omega)
          exact sl_X7_seatsOf_4  v1  h I_h r_v1 k Q hk n (v2 + 1) (v3 + 1) (by first | trivial | omega) (by omega)
        · skip
          try have tx6 : (v2 + 0).toInt = v2.toInt + 0 := i_add rfl (by decide) (by omega) (by omega)
          try have tx7 : (v3 + 1).toInt = v3.toInt + 1 := i_add rfl (by decide) (by omega) (by omega)
          exact sl_X7_seatsOf_4  v1  h I_h r_v1 k Q hk n (v2 + 0) (v3 + 1) (by first | trivial | omega) (by omega)
    · skip
      exact hk v2 (by first | trivial | omega)
theorem s_X7_seatsOf (h : dH) (I_h : InvM h) (v1 : Int32) (q0 : 0 ≤ v1.toInt ∧ v1.toInt ≤ 7) : Sf (f_X7_seatsOf v1 h) (fun r => True) := by
  unfold f_X7_seatsOf
  have u_v1 := Int32.toInt_lt v1
  have w_v1 := Int32.le_toInt v1
  have tx8 : (0 : Int32).toInt = 0 := by decide
  refine sl_X7_seatsOf_4 v1  h I_h (by omega) _ _ (fun v2_10 px9 => ?_)  fuel0 (0 : Int32) (0 : Int32)  (by first | trivial | omega) (by have := fuel0_eq; omega)
  exact sf_some (trivial)
theorem s_X7_apart (h : dH) (I_h : InvM h) (v0 : Int32) (v1 : Int32)  : Sf (f_X7_apart v0 v1) (fun r => True) := by
  unfold f_X7_apart
  have u_v0 := Int32.toInt_lt v0
  have w_v0 := Int32.le_toInt v0
  have u_v1 := Int32.toInt_lt v1
  have w_v1 := Int32.le_toInt v1
  refine sf_ite (fun c1 => ?_) (fun c2 => ?_)
  · skip
    exact sf_some (trivial)
  · skip
    exact sf_some (trivial)
theorem s_X7_fail (h : dH) (I_h : InvQ h)   : Sf (f_X7_fail  h) (fun o => InvQ o ∧ o 0 3 = h 0 3 ∧ o 0 4 = h 0 4 ∧ o 0 13 = h 0 13 ∧ o 0 20 = h 0 20 ∧ o 0 21 = h 0 21 ∧ o 0 22 = h 0 22 ∧ o 0 23 = h 0 23 ∧ o 0 24 = h 0 24 ∧ (h 0 24).toInt ≤ (o 0 24).toInt) := by
  unfold f_X7_fail
  have pq_h : 0 ≤ (h 0 20).toInt ∧ (h 0 20).toInt ≤ 800 ∧ 0 ≤ (h 0 21).toInt ∧ (h 0 21).toInt ≤ 160 ∧ 0 ≤ (h 0 24).toInt ∧ (h 0 24).toInt ≤ (h 0 22).toInt ∧ (h 0 22).toInt ≤ (h 0 21).toInt ∧ ((h 0 23).toInt = 3 → (h 0 24).toInt < (h 0 22).toInt) := I_h.2
  refine sf_ite (fun c1 => ?_) (fun c2 => ?_)
  · skip
    refine sf_oH (fun g3 hg3 => ?_)
    have I_g3 : InvQ g3 := by rw [hg3]; exact invQ_free I_h rfl (by decide)
    have pq_g3 : 0 ≤ (g3 0 20).toInt ∧ (g3 0 20).toInt ≤ 800 ∧ 0 ≤ (g3 0 21).toInt ∧ (g3 0 21).toInt ≤ 160 ∧ 0 ≤ (g3 0 24).toInt ∧ (g3 0 24).toInt ≤ (g3 0 22).toInt ∧ (g3 0 22).toInt ≤ (g3 0 21).toInt ∧ ((g3 0 23).toInt = 3 → (g3 0 24).toInt < (g3 0 22).toInt) := I_g3.2
    have ex1 : g3 0 3 = h 0 3 := by rw [hg3]; exact dU_ne (by omega)
    have yx2 := congrArg Int32.toInt ex1
    have ex3 : g3 0 4 = h 0 4 := by rw [hg3]; exact dU_ne (by omega)
    have yx4 := congrArg Int32.toInt ex3
    have ex5 : g3 0 13 = h 0 13 := by rw [hg3]; exact dU_ne (by omega)
    have yx6 := congrArg Int32.toInt ex5
    have ex7 : g3 0 20 = h 0 20 := by rw [hg3]; exact dU_ne (by omega)
    have yx8 := congrArg Int32.toInt ex7
    have ex9 : g3 0 21 = h 0 21 := by rw [hg3]; exact dU_ne (by omega)
    have yx10 := congrArg Int32.toInt ex9
    have ex11 : g3 0 22 = h 0 22 := by rw [hg3]; exact dU_ne (by omega)
    have yx12 := congrArg Int32.toInt ex11
    have ex13 : g3 0 23 = h 0 23 := by rw [hg3]; exact dU_ne (by omega)
    have yx14 := congrArg Int32.toInt ex13
    have ex15 : g3 0 24 = h 0 24 := by rw [hg3]; exact dU_ne (by omega)
    have yx16 := congrArg Int32.toInt ex15
    have yx17 : (g3 0 27).toInt = 1 := by rw [hg3, dU_eq]; decide
    refine sf_oH (fun g4 hg4 => ?_)
    have I_g4 : InvQ g4 := by rw [hg4]; exact invQ_free I_g3 rfl (by decide)
    have pq_g4 : 0 ≤ (g4 0 20).toInt ∧ (g4 0 20).toInt ≤ 800 ∧ 0 ≤ (g4 0 21).toInt ∧ (g4 0 21).toInt ≤ 160 ∧ 0 ≤ (g4 0 24).toInt ∧ (g4 0 24).toInt ≤ (g4 0 22).toInt ∧ (g4 0 22).toInt ≤ (g4 0 21).toInt ∧ ((g4 0 23).toInt = 3 → (g4 0 24).toInt < (g4 0 22).toInt) := I_g4.2
    have ex18 : g4 0 3 = g3 0 3 := by rw [hg4]; exact dU_ne (by omega)
    have yx19 := congrArg Int32.toInt ex18
    have ex20 : g4 0 4 = g3 0 4 := by rw [hg4]; exact dU_ne (by omega)
    have yx21 := congrArg Int32.toInt ex20
    have ex22 : g4 0 13 = g3 0 13 := by rw [hg4]; exact dU_ne (by omega)
    have yx23 := congrArg Int32.toInt ex22
    have ex24 : g4 0 20 = g3 0 20 := by rw [hg4]; exact dU_ne (by omega)
    have yx25 := congrArg Int32.toInt ex24
    have ex26 : g4 0 21 = g3 0 21 := by rw [hg4]; exact dU_ne (by omega)
    have yx27 := congrArg Int32.toInt ex26
    have ex28 : g4 0 22 = g3 0 22 := by rw [hg4]; exact dU_ne (by omega)
    have yx29 := congrArg Int32.toInt ex28
    have ex30 : g4 0 23 = g3 0 23 := by rw [hg4]; exact dU_ne (by omega)
    have yx31 := congrArg Int32.toInt ex30
    have ex32 : g4 0 24 = g3 0 24 := by rw [hg4]; exact dU_ne (by omega)
    have yx33 := congrArg Int32.toInt ex32
    have yx34 : (g4 0 28).toInt = (g3 0 24).toInt := by rw [hg4, dU_eq]
    exact sf_some (⟨I_g4, (ex18.trans ex1), (ex20.trans ex3), (ex22.trans ex5), (ex24.trans ex7), (ex26.trans ex9), (ex28.trans ex11), (ex30.trans ex13), (ex32.trans ex15), (show (h 0 24).toInt ≤ (g4 0 24).toInt by omega)⟩)
  · skip
    exact sf_some (⟨I_h, rfl, rfl, rfl, rfl, rfl, rfl, rfl, rfl, (show (h 0 24).toInt ≤ (h 0 24).toInt by omega)⟩)
theorem s_X7_byteAt (h : dH) (I_h : InvM h) (v1 : Int32) (q0 : 0 ≤ v1.toInt ∧ 0 ≤ (h 0 20).toInt ∧ (h 0 20).toInt ≤ 800 ∧ 0 ≤ (h 0 21).toInt ∧ (h 0 21).toInt ≤ 160) : Sf (f_X7_byteAt v1 h) (fun r => (v1.toInt < (h 0 21).toInt ∧ 0 ≤ r.toInt ∧ r.toInt = (h 1 (((h 0 20) + v1).toInt.toNat)).toInt) ∨ ((h 0 21).toInt ≤ v1.toInt ∧ r.toInt = -1)) := by
  unfold f_X7_byteAt
  have u_v1 := Int32.toInt_lt v1
  have w_v1 := Int32.le_toInt v1
  refine sf_ite (fun c1 => ?_) (fun c2 => ?_)
  · skip
    try have tx1 : ((h 0 20) + v1).toInt = (h 0 20).toInt + v1.toInt := i_add rfl rfl (by omega) (by omega)
    refine sf_guard (by omega) (fun c3 => ?_)
    have bx2 := I_h.1 1 (((h 0 20) + v1).toInt.toNat) (0) (255) rfl
    exact sf_some ((show (v1.toInt < (h 0 21).toInt ∧ 0 ≤ (h 1 (((h 0 20) + v1).toInt.toNat)).toInt ∧ (h 1 (((h 0 20) + v1).toInt.toNat)).toInt = (h 1 (((h 0 20) + v1).toInt.toNat)).toInt) ∨ ((h 0 21).toInt ≤ v1.toInt ∧ (h 1 (((h 0 20) + v1).toInt.toNat)).toInt = -1) by omega))
  · skip
    have tx3 : ((-1) : Int32).toInt = (-1) := by decide
    exact sf_some ((show (v1.toInt < (h 0 21).toInt ∧ 0 ≤ ((-1) : Int32).toInt ∧ ((-1) : Int32).toInt = (h 1 (((h 0 20) + v1).toInt.toNat)).toInt) ∨ ((h 0 21).toInt ≤ v1.toInt ∧ ((-1) : Int32).toInt = -1) by omega))
theorem s_X7_isLetter (h : dH) (I_h : InvQ h) (v1 : Int32) (v2 : Int32) (q0 : 0 ≤ v1.toInt ∧ v1.toInt ≤ 8) : Sf (f_X7_isLetter v1 v2 h) (fun r => r.toInt = 0 ∨ (h 0 24).toInt + v1.toInt < (h 0 22).toInt ∨ v2.toInt = 0) := by
  unfold f_X7_isLetter
  have pq_h : 0 ≤ (h 0 20).toInt ∧ (h 0 20).toInt ≤ 800 ∧ 0 ≤ (h 0 21).toInt ∧ (h 0 21).toInt ≤ 160 ∧ 0 ≤ (h 0 24).toInt ∧ (h 0 24).toInt ≤ (h 0 22).toInt ∧ (h 0 22).toInt ≤ (h 0 21).toInt ∧ ((h 0 23).toInt = 3 → (h 0 24).toInt < (h 0 22).toInt) := I_h.2
  have u_v1 := Int32.toInt_lt v1
  have w_v1 := Int32.le_toInt v1
  have u_v2 := Int32.toInt_lt v2
  have w_v2 := Int32.le_toInt v2
  try have tx1 : ((h 0 24) + v1).toInt = (h 0 24).toInt + v1.toInt := i_add rfl rfl (by omega) (by omega)
  refine sf_ite (fun c1 => ?_) (fun c2 => ?_)
  · skip
    refine sf_oP (s_X7_byteAt h I_h.1 ((h 0 24) + v1) (by omega)) (fun r3 pr3 => ?_)
    refine sf_ite (fun c4 => ?_) (fun c5 => ?_)
    · skip
      have tx2 : (1 : Int32).toInt = 1 := by decide
      exact sf_some ((show (1 : Int32).toInt = 0 ∨ (h 0 24).toInt + v1.toInt < (h 0 22).toInt ∨ v2.toInt = 0 by omega))
    · skip
      have tx3 : (0 : Int32).toInt = 0 := by decide
      exact sf_some ((show (0 : Int32).toInt = 0 ∨ (h 0 24).toInt + v1.toInt < (h 0 22).toInt ∨ v2.toInt = 0 by omega))
  · skip
    refine sf_ite (fun c6 => ?_) (fun c7 => ?_)
    · skip
      have tx4 : (1 : Int32).toInt = 1 := by decide
      exact sf_some ((show (1 : Int32).toInt = 0 ∨ (h 0 24).toInt + v1.toInt < (h 0 22).toInt ∨ v2.toInt = 0 by omega))
    · skip
      have tx5 : (0 : Int32).toInt = 0 := by decide
      exact sf_some ((show (0 : Int32).toInt = 0 ∨ (h 0 24).toInt + v1.toInt < (h 0 22).toInt ∨ v2.toInt = 0 by omega))
theorem s_X7_isWord (h : dH) (I_h : InvQ h) (v1 : Int32) (v2 : Int32) (v3 : Int32) (v4 : Int32) (v5 : Int32) (v6 : Int32) (v7 : Int32) (v8 : Int32)  : Sf (f_X7_isWord v1 v2 v3 v4 v5 v6 v7 v8 h) (fun r => r.toInt = 0 ∨ (v1.toInt = 0 ∨ (h 0 24).toInt < (h 0 22).toInt)) := by
  unfold f_X7_isWord
  have pq_h : 0 ≤ (h 0 20).toInt ∧ (h 0 20).toInt ≤ 800 ∧ 0 ≤ (h 0 21).toInt ∧ (h 0 21).toInt ≤ 160 ∧ 0 ≤ (h 0 24).toInt ∧ (h 0 24).toInt ≤ (h 0 22).toInt ∧ (h 0 22).toInt ≤ (h 0 21).toInt ∧ ((h 0 23).toInt = 3 → (h 0 24).toInt < (h 0 22).toInt) := I_h.2
  have u_v1 := Int32.toInt_lt v1
  have w_v1 := Int32.le_toInt v1
  have u_v2 := Int32.toInt_lt v2
  have w_v2 := Int32.le_toInt v2
  have u_v3 := Int32.toInt_lt v3
  have w_v3 := Int32.le_toInt v3
  have u_v4 := Int32.toInt_lt v4
  have w_v4 := Int32.le_toInt v4
  have u_v5 := Int32.toInt_lt v5
  have w_v5 := Int32.le_toInt v5
  have u_v6 := Int32.toInt_lt v6
  have w_v6 := Int32.le_toInt v6
  have u_v7 := Int32.toInt_lt v7
  have w_v7 := Int32.le_toInt v7
  have u_v8 := Int32.toInt_lt v8
  have w_v8 := Int32.le_toInt v8
  refine sf_ite (fun c1 => ?_) (fun c2 => ?_)
  · skip
    refine sf_ite (fun c3 => ?_) (fun c4 => ?_)
    · skip
      try have tx1 : ((h 0 24) + 8).toInt = (h 0 24).toInt + 8 := i_add rfl (by decide) (by omega) (by omega)
      refine sf_ite (fun c5 => ?_) (fun c6 => ?_)
      · skip
        have tx2 : (0 : Int32).toInt = 0 := by decide
        exact sf_some ((show (0 : Int32).toInt = 0 ∨ (v1.toInt = 0 ∨ (h 0 24).toInt < (h 0 22).toInt) by omega))
      · skip
        have tx3 : (0 : Int32).toInt = 0 := by decide
        refine sf_oP (s_X7_isLetter h I_h (0 : Int32) v1 (by omega)) (fun r7 pr7 => ?_)
        refine sf_ite (fun c8 => ?_) (fun c9 => ?_)
        · skip
          have tx4 : (0 : Int32).toInt = 0 := by decide
          exact sf_some ((show (0 : Int32).toInt = 0 ∨ (v1.toInt = 0 ∨ (h 0 24).toInt < (h 0 22).toInt) by omega))
        · skip
          have tx5 : (1 : Int32).toInt = 1 := by decide
          refine sf_oP (s_X7_isLetter h I_h (1 : Int32) v2 (by omega)) (fun r10 pr10 => ?_)
          refine sf_ite (fun c11 => ?_) (fun c12 => ?_)
          · skip
            have tx6 : (0 : Int32).toInt = 0 := by decide
            exact sf_some ((show (0 : Int32).toInt = 0 ∨ (v1.toInt = 0 ∨ (h 0 24).toInt < (h 0 22).toInt) by omega))
          · skip
            have tx7 : (2 : Int32).toInt = 2 := by decide
            refine sf_oP (s_X7_isLetter h I_h (2 : Int32) v3 (by omega)) (fun r13 pr13 => ?_)
            refine sf_ite (fun c14 => ?_) (fun c15 => ?_)
            · skip
              have tx8 : (0 : Int32).toInt = 0 := by decide
              exact sf_some ((show (0 : Int32).toInt = 0 ∨ (v1.toInt = 0 ∨ (h 0 24).toInt < (h 0 22).toInt) by omega))
            · skip
              have tx9 : (3 : Int32).toInt = 3 := by decide
              refine sf_oP (s_X7_isLetter h I_h (3 : Int32) v4 (by omega)) (fun r16 pr16 => ?_)
              refine sf_ite (fun c17 => ?_) (fun c18 => ?_)
              · skip
                have tx10 : (0 : Int32).toInt = 0 := by decide
                exact sf_some ((show (0 : Int32).toInt = 0 ∨ (v1.toInt = 0 ∨ (h 0 24).toInt < (h 0 22).toInt) by omega))
              · skip
                have tx11 : (4 : Int32).toInt = 4 := by decide
                refine sf_oP (s_X7_isLetter h I_h (4 : Int32) v5 (by omega)) (fun r19 pr19 => ?_)
                refine sf_ite (fun c20 => ?_) (fun c21 => ?_)
                · skip
                  have tx12 : (0 : Int32).toInt = 0 := by decide
                  exact sf_some ((show (0 : Int32).toInt = 0 ∨ (v1.toInt = 0 ∨ (h 0 24).toInt < (h 0 22).toInt) by omega))
                · skip
                  have tx13 : (5 : Int32).toInt = 5 := by decide
                  refine sf_oP (s_X7_isLetter h I_h (5 : Int32) v6 (by omega)) (fun r22 pr22 => ?_)
                  refine sf_ite (fun c23 => ?_) (fun c24 => ?_)
                  · skip
                    have tx14 : (0 : Int32).toInt = 0 := by decide
                    exact sf_some ((show (0 : Int32).toInt = 0 ∨ (v1.toInt = 0 ∨ (h 0 24).toInt < (h 0 22).toInt) by omega))
                  · skip
                    have tx15 : (6 : Int32).toInt = 6 := by decide
                    refine sf_oP (s_X7_isLetter h I_h (6 : Int32) v7 (by omega)) (fun r25 pr25 => ?_)
                    refine sf_ite (fun c26 => ?_) (fun c27 => ?_)
                    · skip
                      have tx16 : (0 : Int32).toInt = 0 := by decide
                      exact sf_some ((show (0 : Int32).toInt = 0 ∨ (v1.toInt = 0 ∨ (h 0 24).toInt < (h 0 22).toInt) by omega))
                    · skip
                      have tx17 : (7 : Int32).toInt = 7 := by decide
                      refine sf_oP (s_X7_isLetter h I_h (7 : Int32) v8 (by omega)) (fun r28 pr28 => ?_)
                      refine sf_ite (fun c29 => ?_) (fun c30 => ?_)
                      · skip
                        have tx18 : (0 : Int32).toInt = 0 := by decide
                        exact sf_some ((show (0 : Int32).toInt = 0 ∨ (v1.toInt = 0 ∨ (h 0 24).toInt < (h 0 22).toInt) by omega))
                      · skip
                        have tx19 : (1 : Int32).toInt = 1 := by decide
                        exact sf_some ((show (1 : Int32).toInt = 0 ∨ (v1.toInt = 0 ∨ (h 0 24).toInt < (h 0 22).toInt) by omega))
    · skip
      have tx20 : (0 : Int32).toInt = 0 := by decide
      exact sf_some ((show (0 : Int32).toInt = 0 ∨ (v1.toInt = 0 ∨ (h 0 24).toInt < (h 0 22).toInt) by omega))
  · skip
    have tx21 : (0 : Int32).toInt = 0 := by decide
    exact sf_some ((show (0 : Int32).toInt = 0 ∨ (v1.toInt = 0 ∨ (h 0 24).toInt < (h 0 22).toInt) by omega))
theorem sl_X7_next_0   (h0 : dH) (I_h0 : InvM h0)  (k : dH → Option (dH)) (Q : dH → Prop) (hk : ∀  (g : dH) (Ig : InvM g) (e0 : g 0 3 = h0 0 3) (e1 : g 0 4 = h0 0 4) (e2 : g 0 13 = h0 0 13) (e3 : g 0 20 = h0 0 20) (e4 : g 0 21 = h0 0 21) (e5 : g 0 23 = h0 0 23) (e6 : g 0 24 = h0 0 24) (e7 : g 0 25 = h0 0 25), 0 ≤ (g 0 20).toInt ∧ (g 0 20).toInt ≤ 800 ∧ 0 ≤ (g 0 21).toInt ∧ (g 0 21).toInt ≤ 160 ∧ 0 ≤ (g 0 22).toInt ∧ (g 0 22).toInt ≤ (g 0 21).toInt ∧ (h0 0 22).toInt ≤ (g 0 22).toInt → Sf (k  g) Q)  : ∀ (n : Nat)  (h : dH) (I_h : InvM h) (e0 : h 0 3 = h0 0 3) (e1 : h 0 4 = h0 0 4) (e2 : h 0 13 = h0 0 13) (e3 : h 0 20 = h0 0 20) (e4 : h 0 21 = h0 0 21) (e5 : h 0 23 = h0 0 23) (e6 : h 0 24 = h0 0 24) (e7 : h 0 25 = h0 0 25), 0 ≤ (h 0 20).toInt ∧ (h 0 20).toInt ≤ 800 ∧ 0 ≤ (h 0 21).toInt ∧ (h 0 21).toInt ≤ 160 ∧ 0 ≤ (h 0 22).toInt ∧ (h 0 22).toInt ≤ (h 0 21).toInt ∧ (h0 0 22).toInt ≤ (h 0 22).toInt → 160 - (h 0 22).toInt < (n : Int) → Sf (l_X7_next_0  k n  h) Q
  | 0, h, I_h, e0, e1, e2, e3, e4, e5, e6, e7, hi, hm => by omega
  | n + 1, h, I_h, e0, e1, e2, e3, e4, e5, e6, e7, hi, hm => by
    rw [l_X7_next_0]
    have yx1 := congrArg Int32.toInt e0
    have yx2 := congrArg Int32.toInt e1
    have yx3 := congrArg Int32.toInt e2
    have yx4 := congrArg Int32.toInt e3
    have yx5 := congrArg Int32.toInt e4
    have yx6 := congrArg Int32.toInt e5
    have yx7 := congrArg Int32.toInt e6
    have yx8 := congrArg Int32.toInt e7
    refine sf_oP (s_X7_byteAt h I_h (h 0 22) (by omega)) (fun r1 pr1 => ?_)
    refine sf_ite (fun c2 => ?_) (fun c3 => ?_)
    · skip
      try have tx9 : ((h 0 22) + 1).toInt = (h 0 22).toInt + 1 := i_add rfl (by decide) (by omega) (by omega)
      refine sf_oH (fun g4 hg4 => ?_)
      have I_g4 : InvM g4 := by rw [hg4]; exact invM_free I_h rfl (by omega) (by omega)
      have ex10 : g4 0 3 = h 0 3 := by rw [hg4]; exact dU_ne (by omega)
      have yx11 := congrArg Int32.toInt ex10
      have ex12 : g4 0 4 = h 0 4 := by rw [hg4]; exact dU_ne (by omega)
      have yx13 := congrArg Int32.toInt ex12
      have ex14 : g4 0 13 = h 0 13 := by rw [hg4]; exact dU_ne (by omega)
      have yx15 := congrArg Int32.toInt ex14
      have ex16 : g4 0 20 = h 0 20 := by rw [hg4]; exact dU_ne (by omega)
      have yx17 := congrArg Int32.toInt ex16
      have ex18 : g4 0 21 = h 0 21 := by rw [hg4]; exact dU_ne (by omega)
      have yx19 := congrArg Int32.toInt ex18
      have ex20 : g4 0 23 = h 0 23 := by rw [hg4]; exact dU_ne (by omega)
      have yx21 := congrArg Int32.toInt ex20
      have ex22 : g4 0 24 = h 0 24 := by rw [hg4]; exact dU_ne (by omega)
      have yx23 := congrArg Int32.toInt ex22
      have ex24 : g4 0 25 = h 0 25 := by rw [hg4]; exact dU_ne (by omega)
      have yx25 := congrArg Int32.toInt ex24
      have yx26 : (g4 0 22).toInt = ((h 0 22) + 1).toInt := by rw [hg4, dU_eq]
      exact sl_X7_next_0    h0 I_h0  k Q hk n  g4 I_g4 (ex10.trans e0) (ex12.trans e1) (ex14.trans e2) (ex16.trans e3) (ex18.trans e4) (ex20.trans e5) (ex22.trans e6) (ex24.trans e7) (by first | trivial | omega) (by omega)
    · skip
      refine sf_oP (s_X7_byteAt h I_h (h 0 22) (by omega)) (fun r5 pr5 => ?_)
      refine sf_ite (fun c6 => ?_) (fun c7 => ?_)
      · skip
        try have tx27 : ((h 0 22) + 1).toInt = (h 0 22).toInt + 1 := i_add rfl (by decide) (by omega) (by omega)
        refine sf_oH (fun g8 hg8 => ?_)
        have I_g8 : InvM g8 := by rw [hg8]; exact invM_free I_h rfl (by omega) (by omega)
        have ex28 : g8 0 3 = h 0 3 := by rw [hg8]; exact dU_ne (by omega)
        have yx29 := congrArg Int32.toInt ex28
        have ex30 : g8 0 4 = h 0 4 := by rw [hg8]; exact dU_ne (by omega)
        have yx31 := congrArg Int32.toInt ex30
        have ex32 : g8 0 13 = h 0 13 := by rw [hg8]; exact dU_ne (by omega)
        have yx33 := congrArg Int32.toInt ex32
        have ex34 : g8 0 20 = h 0 20 := by rw [hg8]; exact dU_ne (by omega)
        have yx35 := congrArg Int32.toInt ex34
        have ex36 : g8 0 21 = h 0 21 := by rw [hg8]; exact dU_ne (by omega)
        have yx37 := congrArg Int32.toInt ex36
        have ex38 : g8 0 23 = h 0 23 := by rw [hg8]; exact dU_ne (by omega)
        have yx39 := congrArg Int32.toInt ex38
        have ex40 : g8 0 24 = h 0 24 := by rw [hg8]; exact dU_ne (by omega)
        have yx41 := congrArg Int32.toInt ex40
        have ex42 : g8 0 25 = h 0 25 := by rw [hg8]; exact dU_ne (by omega)
        have yx43 := congrArg Int32.toInt ex42
        have yx44 : (g8 0 22).toInt = ((h 0 22) + 1).toInt := by rw [hg8, dU_eq]
        exact sl_X7_next_0    h0 I_h0  k Q hk n  g8 I_g8 (ex28.trans e0) (ex30.trans e1) (ex32.trans e2) (ex34.trans e3) (ex36.trans e4) (ex38.trans e5) (ex40.trans e6) (ex42.trans e7) (by first | trivial | omega) (by omega)
      · skip
        exact hk  h I_h e0 e1 e2 e3 e4 e5 e6 e7 (by first | trivial | omega)
theorem sl_X7_next_160   (h0 : dH) (I_h0 : InvM h0)  (k : Int32 → dH → Option (dH)) (Q : dH → Prop) (hk : ∀ (v2 : Int32) (g : dH) (Ig : InvM g) (e0 : g 0 3 = h0 0 3) (e1 : g 0 4 = h0 0 4) (e2 : g 0 13 = h0 0 13) (e3 : g 0 20 = h0 0 20) (e4 : g 0 21 = h0 0 21) (e5 : g 0 23 = h0 0 23) (e6 : g 0 24 = h0 0 24), (0 ≤ (g 0 20).toInt ∧ (g 0 20).toInt ≤ 800 ∧ 0 ≤ (g 0 21).toInt ∧ (g 0 21).toInt ≤ 160 ∧ 0 ≤ (g 0 22).toInt ∧ (g 0 22).toInt ≤ (g 0 21).toInt ∧ (h0 0 22).toInt ≤ (g 0 22).toInt ∧ 0 ≤ v2.toInt ∧ v2.toInt + (h0 0 22).toInt ≤ (g 0 22).toInt ∧ 0 ≤ (g 0 25).toInt ∧ (g 0 25).toInt ≤ 9999 ∧ (v2.toInt ≤ 0 → (g 0 25).toInt ≤ 0) ∧ (v2.toInt ≤ 1 → (g 0 25).toInt ≤ 9) ∧ (v2.toInt ≤ 2 → (g 0 25).toInt ≤ 99) ∧ (v2.toInt ≤ 3 → (g 0 25).toInt ≤ 999) ∧ 0 ≤ (h0 0 22).toInt) → Sf (k v2 g) Q)  : ∀ (n : Nat) (v2 : Int32) (h : dH) (I_h : InvM h) (e0 : h 0 3 = h0 0 3) (e1 : h 0 4 = h0 0 4) (e2 : h 0 13 = h0 0 13) (e3 : h 0 20 = h0 0 20) (e4 : h 0 21 = h0 0 21) (e5 : h 0 23 = h0 0 23) (e6 : h 0 24 = h0 0 24), (0 ≤ (h 0 20).toInt ∧ (h 0 20).toInt ≤ 800 ∧ 0 ≤ (h 0 21).toInt ∧ (h 0 21).toInt ≤ 160 ∧ 0 ≤ (h 0 22).toInt ∧ (h 0 22).toInt ≤ (h 0 21).toInt ∧ (h0 0 22).toInt ≤ (h 0 22).toInt ∧ 0 ≤ v2.toInt ∧ v2.toInt + (h0 0 22).toInt ≤ (h 0 22).toInt ∧ 0 ≤ (h 0 25).toInt ∧ (h 0 25).toInt ≤ 9999 ∧ (v2.toInt ≤ 0 → (h 0 25).toInt ≤ 0) ∧ (v2.toInt ≤ 1 → (h 0 25).toInt ≤ 9) ∧ (v2.toInt ≤ 2 → (h 0 25).toInt ≤ 99) ∧ (v2.toInt ≤ 3 → (h 0 25).toInt ≤ 999) ∧ 0 ≤ (h0 0 22).toInt) → 160 - (h 0 22).toInt < (n : Int) → Sf (l_X7_next_160  k n v2 h) Q
  | 0, v2, h, I_h, e0, e1, e2, e3, e4, e5, e6, hi, hm => by omega
  | n + 1, v2, h, I_h, e0, e1, e2, e3, e4, e5, e6, hi, hm => by
    rw [l_X7_next_160]
    have yx577 := congrArg Int32.toInt e0
    have yx578 := congrArg Int32.toInt e1
    have yx579 := congrArg Int32.toInt e2
    have yx580 := congrArg Int32.toInt e3
    have yx581 := congrArg Int32.toInt e4
    have yx582 := congrArg Int32.toInt e5
    have yx583 := congrArg Int32.toInt e6
    refine sf_oP (s_X7_byteAt h I_h (h 0 22) (by omega)) (fun r73 pr73 => ?_)
    have tx584 : r73.toInt64.toInt = r73.toInt := l_i2l
    have tx585 : (48 : Int64).toInt = 48 := by decide
    have tx586 : (57 : Int64).toInt = 57 := by decide
    refine sf_oP (s_X7_in h I_h (r73.toInt64) 48 57) (fun r74 pr74 => ?_)
    refine sf_ite (fun c75 => ?_) (fun c76 => ?_)
    · skip
      exact hk v2 h I_h e0 e1 e2 e3 e4 e5 e6 (by first | trivial | omega)
    · skip
      refine sf_ite (fun c77 => ?_) (fun c78 => ?_)
      · skip
        refine sf_oP (s_X7_byteAt h I_h (h 0 22) (by omega)) (fun r79 pr79 => ?_)
        have tx587 : (h 0 25).toInt64.toInt = (h 0 25).toInt := l_i2l
        try have tx588 : (10 * (h 0 25).toInt64).toInt = 10 * (h 0 25).toInt64.toInt := l_mul (by decide) rfl (by omega) (by omega)
        have tx589 : r79.toInt64.toInt = r79.toInt := l_i2l
        try have tx590 : ((10 * (h 0 25).toInt64) + r79.toInt64).toInt = (10 * (h 0 25).toInt64).toInt + r79.toInt64.toInt := l_add rfl rfl (by omega) (by omega)
        try have tx591 : (((10 * (h 0 25).toInt64) + r79.toInt64) - 48).toInt = ((10 * (h 0 25).toInt64) + r79.toInt64).toInt - 48 := l_sub rfl (by decide) (by omega) (by omega)
        refine sf_guard (l_fits (by omega) (by omega)) (fun c81 => ?_)
        refine sf_oH (fun g80 hg80 => ?_)
        have I_g80 : InvM g80 := by rw [hg80]; exact invM_free I_h rfl (by omega) (by omega)
        have ex592 : g80 0 3 = h 0 3 := by rw [hg80]; exact dU_ne (by omega)
        have yx593 := congrArg Int32.toInt ex592
        have ex594 : g80 0 4 = h 0 4 := by rw [hg80]; exact dU_ne (by omega)
        have yx595 := congrArg Int32.toInt ex594
        have ex596 : g80 0 13 = h 0 13 := by rw [hg80]; exact dU_ne (by omega)
        have yx597 := congrArg Int32.toInt ex596
        have ex598 : g80 0 20 = h 0 20 := by rw [hg80]; exact dU_ne (by omega)
        have yx599 := congrArg Int32.toInt ex598
        have ex600 : g80 0 21 = h 0 21 := by rw [hg80]; exact dU_ne (by omega)
        have yx601 := congrArg Int32.toInt ex600
        have ex602 : g80 0 22 = h 0 22 := by rw [hg80]; exact dU_ne (by omega)
        have yx603 := congrArg Int32.toInt ex602
        have ex604 : g80 0 23 = h 0 23 := by rw [hg80]; exact dU_ne (by omega)
        have yx605 := congrArg Int32.toInt ex604
        have ex606 : g80 0 24 = h 0 24 := by rw [hg80]; exact dU_ne (by omega)
        have yx607 := congrArg Int32.toInt ex606
        have yx608 : (g80 0 25).toInt = (((10 * (h 0 25).toInt64) + r79.toInt64) - 48).toInt := by rw [hg80, dU_eq]; have := congrArg Int64.toInt c81; rw [l_i2l] at this; exact this
        try have tx609 : ((g80 0 22) + 1).toInt = (g80 0 22).toInt + 1 := i_add rfl (by decide) (by omega) (by omega)
        refine sf_oH (fun g82 hg82 => ?_)
        have I_g82 : InvM g82 := by rw [hg82]; exact invM_free I_g80 rfl (by omega) (by omega)
        have ex610 : g82 0 3 = g80 0 3 := by rw [hg82]; exact dU_ne (by omega)
        have yx611 := congrArg Int32.toInt ex610
        have ex612 : g82 0 4 = g80 0 4 := by rw [hg82]; exact dU_ne (by omega)
        have yx613 := congrArg Int32.toInt ex612
        have ex614 : g82 0 13 = g80 0 13 := by rw [hg82]; exact dU_ne (by omega)
        have yx615 := congrArg Int32.toInt ex614
        have ex616 : g82 0 20 = g80 0 20 := by rw [hg82]; exact dU_ne (by omega)
        have yx617 := congrArg Int32.toInt ex616
        have ex618 : g82 0 21 = g80 0 21 := by rw [hg82]; exact dU_ne (by omega)
        have yx619 := congrArg Int32.toInt ex618
        have ex620 : g82 0 23 = g80 0 23 := by rw [hg82]; exact dU_ne (by omega)
        have yx621 := congrArg Int32.toInt ex620
        have ex622 : g82 0 24 = g80 0 24 := by rw [hg82]; exact dU_ne (by omega)
        have yx623 := congrArg Int32.toInt ex622
        have ex624 : g82 0 25 = g80 0 25 := by rw [hg82]; exact dU_ne (by omega)
        have yx625 := congrArg Int32.toInt ex624
        have yx626 : (g82 0 22).toInt = ((g80 0 22) + 1).toInt := by rw [hg82, dU_eq]
        try have tx627 : (v2 + 1).toInt = v2.toInt + 1 := i_add rfl (by decide) (by omega) (by omega)
        exact sl_X7_next_160    h0 I_h0  k Q hk n (v2 + 1) g82 I_g82 (ex610.trans (ex592.trans e0)) (ex612.trans (ex594.trans e1)) (ex614.trans (ex596.trans e2)) (ex616.trans (ex598.trans e3)) (ex618.trans (ex600.trans e4)) (ex620.trans (ex604.trans e5)) (ex622.trans (ex606.trans e6)) (by first | trivial | omega) (by omega)
      · skip
        have tx628 : (h 0 25).toInt64.toInt = (h 0 25).toInt := l_i2l
        refine sf_guard (l_fits (by omega) (by omega)) (fun c84 => ?_)
        refine sf_oH (fun g83 hg83 => ?_)
        have I_g83 : InvM g83 := by rw [hg83]; exact invM_free I_h rfl (by omega) (by omega)
        have ex629 : g83 0 3 = h 0 3 := by rw [hg83]; exact dU_ne (by omega)
        have yx630 := congrArg Int32.toInt ex629
        have ex631 : g83 0 4 = h 0 4 := by rw [hg83]; exact dU_ne (by omega)
        have yx632 := congrArg Int32.toInt ex631
        have ex633 : g83 0 13 = h 0 13 := by rw [hg83]; exact dU_ne (by omega)
        have yx634 := congrArg Int32.toInt ex633
        have ex635 : g83 0 20 = h 0 20 := by rw [hg83]; exact dU_ne (by omega)
        have yx636 := congrArg Int32.toInt ex635
        have ex637 : g83 0 21 = h 0 21 := by rw [hg83]; exact dU_ne (by omega)
        have yx638 := congrArg Int32.toInt ex637
        have ex639 : g83 0 22 = h 0 22 := by rw [hg83]; exact dU_ne (by omega)
        have yx640 := congrArg Int32.toInt ex639
        have ex641 : g83 0 23 = h 0 23 := by rw [hg83]; exact dU_ne (by omega)
        have yx642 := congrArg Int32.toInt ex641
        have ex643 : g83 0 24 = h 0 24 := by rw [hg83]; exact dU_ne (by omega)
        have yx644 := congrArg Int32.toInt ex643
        have yx645 : (g83 0 25).toInt = (h 0 25).toInt64.toInt := by rw [hg83, dU_eq]; have := congrArg Int64.toInt c84; rw [l_i2l] at this; exact this
        try have tx646 : ((g83 0 22) + 1).toInt = (g83 0 22).toInt + 1 := i_add rfl (by decide) (by omega) (by omega)
        refine sf_oH (fun g85 hg85 => ?_)
        have I_g85 : InvM g85 := by rw [hg85]; exact invM_free I_g83 rfl (by omega) (by omega)
        have ex647 : g85 0 3 = g83 0 3 := by rw [hg85]; exact dU_ne (by omega)
        have yx648 := congrArg Int32.toInt ex647
        have ex649 : g85 0 4 = g83 0 4 := by rw [hg85]; exact dU_ne (by omega)
        have yx650 := congrArg Int32.toInt ex649
        have ex651 : g85 0 13 = g83 0 13 := by rw [hg85]; exact dU_ne (by omega)
        have yx652 := congrArg Int32.toInt ex651
        have ex653 : g85 0 20 = g83 0 20 := by rw [hg85]; exact dU_ne (by omega)
        have yx654 := congrArg Int32.toInt ex653
        have ex655 : g85 0 21 = g83 0 21 := by rw [hg85]; exact dU_ne (by omega)
        have yx656 := congrArg Int32.toInt ex655
        have ex657 : g85 0 23 = g83 0 23 := by rw [hg85]; exact dU_ne (by omega)
        have yx658 := congrArg Int32.toInt ex657
        have ex659 : g85 0 24 = g83 0 24 := by rw [hg85]; exact dU_ne (by omega)
        have yx660 := congrArg Int32.toInt ex659
        have ex661 : g85 0 25 = g83 0 25 := by rw [hg85]; exact dU_ne (by omega)
        have yx662 := congrArg Int32.toInt ex661
        have yx663 : (g85 0 22).toInt = ((g83 0 22) + 1).toInt := by rw [hg85, dU_eq]
        try have tx664 : (v2 + 1).toInt = v2.toInt + 1 := i_add rfl (by decide) (by omega) (by omega)
        exact sl_X7_next_160    h0 I_h0  k Q hk n (v2 + 1) g85 I_g85 (ex647.trans (ex629.trans e0)) (ex649.trans (ex631.trans e1)) (ex651.trans (ex633.trans e2)) (ex653.trans (ex635.trans e3)) (ex655.trans (ex637.trans e4)) (ex657.trans (ex641.trans e5)) (ex659.trans (ex643.trans e6)) (by first | trivial | omega) (by omega)
theorem sl_X7_next_100   (h0 : dH) (I_h0 : InvM h0)  (k : dH → Option (dH)) (Q : dH → Prop) (hk : ∀  (g : dH) (Ig : InvM g) (e0 : g 0 3 = h0 0 3) (e1 : g 0 4 = h0 0 4) (e2 : g 0 13 = h0 0 13) (e3 : g 0 20 = h0 0 20) (e4 : g 0 21 = h0 0 21) (e5 : g 0 23 = h0 0 23) (e6 : g 0 24 = h0 0 24) (e7 : g 0 25 = h0 0 25), 0 ≤ (g 0 20).toInt ∧ (g 0 20).toInt ≤ 800 ∧ 0 ≤ (g 0 21).toInt ∧ (g 0 21).toInt ≤ 160 ∧ 0 ≤ (g 0 22).toInt ∧ (g 0 22).toInt ≤ (g 0 21).toInt ∧ (h0 0 22).toInt ≤ (g 0 22).toInt → Sf (k  g) Q)  : ∀ (n : Nat)  (h : dH) (I_h : InvM h) (e0 : h 0 3 = h0 0 3) (e1 : h 0 4 = h0 0 4) (e2 : h 0 13 = h0 0 13) (e3 : h 0 20 = h0 0 20) (e4 : h 0 21 = h0 0 21) (e5 : h 0 23 = h0 0 23) (e6 : h 0 24 = h0 0 24) (e7 : h 0 25 = h0 0 25), 0 ≤ (h 0 20).toInt ∧ (h 0 20).toInt ≤ 800 ∧ 0 ≤ (h 0 21).toInt ∧ (h 0 21).toInt ≤ 160 ∧ 0 ≤ (h 0 22).toInt ∧ (h 0 22).toInt ≤ (h 0 21).toInt ∧ (h0 0 22).toInt ≤ (h 0 22).toInt → 160 - (h 0 22).toInt < (n : Int) → Sf (l_X7_next_100  k n  h) Q
  | 0, h, I_h, e0, e1, e2, e3, e4, e5, e6, e7, hi, hm => by omega
  | n + 1, h, I_h, e0, e1, e2, e3, e4, e5, e6, e7, hi, hm => by
    rw [l_X7_next_100]
    have yx725 := congrArg Int32.toInt e0
    have yx726 := congrArg Int32.toInt e1
    have yx727 := congrArg Int32.toInt e2
    have yx728 := congrArg Int32.toInt e3
    have yx729 := congrArg Int32.toInt e4
    have yx730 := congrArg Int32.toInt e5
    have yx731 := congrArg Int32.toInt e6
    have yx732 := congrArg Int32.toInt e7
    refine sf_oP (s_X7_byteAt h I_h (h 0 22) (by omega)) (fun r93 pr93 => ?_)
    have tx733 : r93.toInt64.toInt = r93.toInt := l_i2l
    have tx734 : (97 : Int64).toInt = 97 := by decide
    have tx735 : (122 : Int64).toInt = 122 := by decide
    refine sf_oP (s_X7_in h I_h (r93.toInt64) 97 122) (fun r94 pr94 => ?_)
    refine sf_ite (fun c95 => ?_) (fun c96 => ?_)
    · skip
      exact hk  h I_h e0 e1 e2 e3 e4 e5 e6 e7 (by first | trivial | omega)
    · skip
      try have tx736 : ((h 0 22) + 1).toInt = (h 0 22).toInt + 1 := i_add rfl (by decide) (by omega) (by omega)
      refine sf_oH (fun g97 hg97 => ?_)
      have I_g97 : InvM g97 := by rw [hg97]; exact invM_free I_h rfl (by omega) (by omega)
      have ex737 : g97 0 3 = h 0 3 := by rw [hg97]; exact dU_ne (by omega)
      have yx738 := congrArg Int32.toInt ex737
      have ex739 : g97 0 4 = h 0 4 := by rw [hg97]; exact dU_ne (by omega)
      have yx740 := congrArg Int32.toInt ex739
      have ex741 : g97 0 13 = h 0 13 := by rw [hg97]; exact dU_ne (by omega)
      have yx742 := congrArg Int32.toInt ex741
      have ex743 : g97 0 20 = h 0 20 := by rw [hg97]; exact dU_ne (by omega)
      have yx744 := congrArg Int32.toInt ex743
      have ex745 : g97 0 21 = h 0 21 := by rw [hg97]; exact dU_ne (by omega)
      have yx746 := congrArg Int32.toInt ex745
      have ex747 : g97 0 23 = h 0 23 := by rw [hg97]; exact dU_ne (by omega)
      have yx748 := congrArg Int32.toInt ex747
      have ex749 : g97 0 24 = h 0 24 := by rw [hg97]; exact dU_ne (by omega)
      have yx750 := congrArg Int32.toInt ex749
      have ex751 : g97 0 25 = h 0 25 := by rw [hg97]; exact dU_ne (by omega)
      have yx752 := congrArg Int32.toInt ex751
      have yx753 : (g97 0 22).toInt = ((h 0 22) + 1).toInt := by rw [hg97, dU_eq]
      exact sl_X7_next_100    h0 I_h0  k Q hk n  g97 I_g97 (ex737.trans e0) (ex739.trans e1) (ex741.trans e2) (ex743.trans e3) (ex745.trans e4) (ex747.trans e5) (ex749.trans e6) (ex751.trans e7) (by first | trivial | omega) (by omega)
theorem s_X7_next (h : dH) (I_h : InvM h)  (q0 : 0 ≤ (h 0 20).toInt ∧ (h 0 20).toInt ≤ 800 ∧ 0 ≤ (h 0 21).toInt ∧ (h 0 21).toInt ≤ 160 ∧ 0 ≤ (h 0 22).toInt ∧ (h 0 22).toInt ≤ (h 0 21).toInt) : Sf (f_X7_next  h) (fun o => InvQ o ∧ o 0 3 = h 0 3 ∧ o 0 4 = h 0 4 ∧ o 0 13 = h 0 13 ∧ o 0 20 = h 0 20 ∧ o 0 21 = h 0 21 ∧ (h 0 22).toInt ≤ (o 0 24).toInt) := by
  unfold f_X7_next
  refine sl_X7_next_0   h I_h  _ _ (fun g9 I_g9 eg9_0 eg9_1 eg9_2 eg9_3 eg9_4 eg9_5 eg9_6 eg9_7 px45 => ?_)  fuel0  h I_h rfl rfl rfl rfl rfl rfl rfl rfl (by first | trivial | omega) (by have := fuel0_eq; omega)
  have yx46 := congrArg Int32.toInt eg9_0
  have yx47 := congrArg Int32.toInt eg9_1
  have yx48 := congrArg Int32.toInt eg9_2
  have yx49 := congrArg Int32.toInt eg9_3
  have yx50 := congrArg Int32.toInt eg9_4
  have yx51 := congrArg Int32.toInt eg9_5
  have yx52 := congrArg Int32.toInt eg9_6
  have yx53 := congrArg Int32.toInt eg9_7
  refine sf_oH (fun g10 hg10 => ?_)
  have I_g10 : InvM g10 := by rw [hg10]; exact invM_free I_g9 rfl (by omega) (by omega)
  have ex54 : g10 0 3 = g9 0 3 := by rw [hg10]; exact dU_ne (by omega)
  have yx55 := congrArg Int32.toInt ex54
  have ex56 : g10 0 4 = g9 0 4 := by rw [hg10]; exact dU_ne (by omega)
  have yx57 := congrArg Int32.toInt ex56
  have ex58 : g10 0 13 = g9 0 13 := by rw [hg10]; exact dU_ne (by omega)
  have yx59 := congrArg Int32.toInt ex58
  have ex60 : g10 0 20 = g9 0 20 := by rw [hg10]; exact dU_ne (by omega)
  have yx61 := congrArg Int32.toInt ex60
  have ex62 : g10 0 21 = g9 0 21 := by rw [hg10]; exact dU_ne (by omega)
  have yx63 := congrArg Int32.toInt ex62
  have ex64 : g10 0 22 = g9 0 22 := by rw [hg10]; exact dU_ne (by omega)
  have yx65 := congrArg Int32.toInt ex64
  have ex66 : g10 0 23 = g9 0 23 := by rw [hg10]; exact dU_ne (by omega)
  have yx67 := congrArg Int32.toInt ex66
  have ex68 : g10 0 25 = g9 0 25 := by rw [hg10]; exact dU_ne (by omega)
  have yx69 := congrArg Int32.toInt ex68
  have yx70 : (g10 0 24).toInt = (g9 0 22).toInt := by rw [hg10, dU_eq]
  refine sf_oP (s_X7_byteAt g10 I_g10 (g10 0 22) (by omega)) (fun r11 pr11 => ?_)
  refine sf_oH (fun g12 hg12 => ?_)
  have I_g12 : InvM g12 := by rw [hg12]; exact invM_free I_g10 rfl (by omega) (by omega)
  have ex71 : g12 0 3 = g10 0 3 := by rw [hg12]; exact dU_ne (by omega)
  have yx72 := congrArg Int32.toInt ex71
  have ex73 : g12 0 4 = g10 0 4 := by rw [hg12]; exact dU_ne (by omega)
  have yx74 := congrArg Int32.toInt ex73
  have ex75 : g12 0 13 = g10 0 13 := by rw [hg12]; exact dU_ne (by omega)
  have yx76 := congrArg Int32.toInt ex75
  have ex77 : g12 0 20 = g10 0 20 := by rw [hg12]; exact dU_ne (by omega)
  have yx78 := congrArg Int32.toInt ex77
  have ex79 : g12 0 21 = g10 0 21 := by rw [hg12]; exact dU_ne (by omega)
  have yx80 := congrArg Int32.toInt ex79
  have ex81 : g12 0 22 = g10 0 22 := by rw [hg12]; exact dU_ne (by omega)
  have yx82 := congrArg Int32.toInt ex81
  have ex83 : g12 0 24 = g10 0 24 := by rw [hg12]; exact dU_ne (by omega)
  have yx84 := congrArg Int32.toInt ex83
  have ex85 : g12 0 25 = g10 0 25 := by rw [hg12]; exact dU_ne (by omega)
  have yx86 := congrArg Int32.toInt ex85
  have yx87 : (g12 0 23).toInt = 4 := by rw [hg12, dU_eq]; decide
  refine sf_ite (fun c13 => ?_) (fun c14 => ?_)
  · skip
    refine sf_oH (fun g15 hg15 => ?_)
    have I_g15 : InvM g15 := by rw [hg15]; exact invM_free I_g12 rfl (by omega) (by omega)
    have ex88 : g15 0 3 = g12 0 3 := by rw [hg15]; exact dU_ne (by omega)
    have yx89 := congrArg Int32.toInt ex88
    have ex90 : g15 0 4 = g12 0 4 := by rw [hg15]; exact dU_ne (by omega)
    have yx91 := congrArg Int32.toInt ex90
    have ex92 : g15 0 13 = g12 0 13 := by rw [hg15]; exact dU_ne (by omega)
    have yx93 := congrArg Int32.toInt ex92
    have ex94 : g15 0 20 = g12 0 20 := by rw [hg15]; exact dU_ne (by omega)
    have yx95 := congrArg Int32.toInt ex94
    have ex96 : g15 0 21 = g12 0 21 := by rw [hg15]; exact dU_ne (by omega)
    have yx97 := congrArg Int32.toInt ex96
    have ex98 : g15 0 22 = g12 0 22 := by rw [hg15]; exact dU_ne (by omega)
    have yx99 := congrArg Int32.toInt ex98
    have ex100 : g15 0 24 = g12 0 24 := by rw [hg15]; exact dU_ne (by omega)
    have yx101 := congrArg Int32.toInt ex100
    have ex102 : g15 0 25 = g12 0 25 := by rw [hg15]; exact dU_ne (by omega)
    have yx103 := congrArg Int32.toInt ex102
    have yx104 : (g15 0 23).toInt = 0 := by rw [hg15, dU_eq]; decide
    refine sf_oH (fun g16 hg16 => ?_)
    have I_g16 : InvM g16 := by rw [hg16]; exact invM_free I_g15 rfl (by omega) (by omega)
    have ex105 : g16 0 3 = g15 0 3 := by rw [hg16]; exact dU_ne (by omega)
    have yx106 := congrArg Int32.toInt ex105
    have ex107 : g16 0 4 = g15 0 4 := by rw [hg16]; exact dU_ne (by omega)
    have yx108 := congrArg Int32.toInt ex107
    have ex109 : g16 0 13 = g15 0 13 := by rw [hg16]; exact dU_ne (by omega)
    have yx110 := congrArg Int32.toInt ex109
    have ex111 : g16 0 20 = g15 0 20 := by rw [hg16]; exact dU_ne (by omega)
    have yx112 := congrArg Int32.toInt ex111
    have ex113 : g16 0 21 = g15 0 21 := by rw [hg16]; exact dU_ne (by omega)
    have yx114 := congrArg Int32.toInt ex113
    have ex115 : g16 0 22 = g15 0 22 := by rw [hg16]; exact dU_ne (by omega)
    have yx116 := congrArg Int32.toInt ex115
    have ex117 : g16 0 23 = g15 0 23 := by rw [hg16]; exact dU_ne (by omega)
    have yx118 := congrArg Int32.toInt ex117
    have ex119 : g16 0 25 = g15 0 25 := by rw [hg16]; exact dU_ne (by omega)
    have yx120 := congrArg Int32.toInt ex119
    have yx121 : (g16 0 24).toInt = (g15 0 21).toInt := by rw [hg16, dU_eq]
    exact sf_some (⟨⟨I_g16, (show 0 ≤ (g16 0 20).toInt ∧ (g16 0 20).toInt ≤ 800 ∧ 0 ≤ (g16 0 21).toInt ∧ (g16 0 21).toInt ≤ 160 ∧ 0 ≤ (g16 0 24).toInt ∧ (g16 0 24).toInt ≤ (g16 0 22).toInt ∧ (g16 0 22).toInt ≤ (g16 0 21).toInt ∧ ((g16 0 23).toInt = 3 → (g16 0 24).toInt < (g16 0 22).toInt) by omega)⟩, (ex105.trans (ex88.trans (ex71.trans (ex54.trans eg9_0)))), (ex107.trans (ex90.trans (ex73.trans (ex56.trans eg9_1)))), (ex109.trans (ex92.trans (ex75.trans (ex58.trans eg9_2)))), (ex111.trans (ex94.trans (ex77.trans (ex60.trans eg9_3)))), (ex113.trans (ex96.trans (ex79.trans (ex62.trans eg9_4)))), (show (h 0 22).toInt ≤ (g16 0 24).toInt by omega)⟩)
  · skip
    have tx122 : r11.toInt64.toInt = r11.toInt := l_i2l
    have tx123 : (97 : Int64).toInt = 97 := by decide
    have tx124 : (122 : Int64).toInt = 122 := by decide
    refine sf_oP (s_X7_in g12 I_g12 (r11.toInt64) 97 122) (fun r17 pr17 => ?_)
    refine sf_ite (fun c18 => ?_) (fun c19 => ?_)
    · skip
      have tx125 : (48 : Int64).toInt = 48 := by decide
      have tx126 : (57 : Int64).toInt = 57 := by decide
      refine sf_oP (s_X7_in g12 I_g12 (r11.toInt64) 48 57) (fun r20 pr20 => ?_)
      refine sf_ite (fun c21 => ?_) (fun c22 => ?_)
      · skip
        refine sf_ite (fun c23 => ?_) (fun c24 => ?_)
        · skip
          refine sf_oH (fun g25 hg25 => ?_)
          have I_g25 : InvM g25 := by rw [hg25]; exact invM_free I_g12 rfl (by omega) (by omega)
          have ex127 : g25 0 3 = g12 0 3 := by rw [hg25]; exact dU_ne (by omega)
          have yx128 := congrArg Int32.toInt ex127
          have ex129 : g25 0 4 = g12 0 4 := by rw [hg25]; exact dU_ne (by omega)
          have yx130 := congrArg Int32.toInt ex129
          have ex131 : g25 0 13 = g12 0 13 := by rw [hg25]; exact dU_ne (by omega)
          have yx132 := congrArg Int32.toInt ex131
          have ex133 : g25 0 20 = g12 0 20 := by rw [hg25]; exact dU_ne (by omega)
          have yx134 := congrArg Int32.toInt ex133
          have ex135 : g25 0 21 = g12 0 21 := by rw [hg25]; exact dU_ne (by omega)
          have yx136 := congrArg Int32.toInt ex135
          have ex137 : g25 0 22 = g12 0 22 := by rw [hg25]; exact dU_ne (by omega)
          have yx138 := congrArg Int32.toInt ex137
          have ex139 : g25 0 24 = g12 0 24 := by rw [hg25]; exact dU_ne (by omega)
          have yx140 := congrArg Int32.toInt ex139
          have ex141 : g25 0 25 = g12 0 25 := by rw [hg25]; exact dU_ne (by omega)
          have yx142 := congrArg Int32.toInt ex141
          have yx143 : (g25 0 23).toInt = 3 := by rw [hg25, dU_eq]; decide
          refine sf_guard (l_fits (by omega) (by omega)) (fun c27 => ?_)
          refine sf_oH (fun g26 hg26 => ?_)
          have I_g26 : InvM g26 := by rw [hg26]; exact invM_free I_g25 rfl (by omega) (by omega)
          have ex144 : g26 0 3 = g25 0 3 := by rw [hg26]; exact dU_ne (by omega)
          have yx145 := congrArg Int32.toInt ex144
          have ex146 : g26 0 4 = g25 0 4 := by rw [hg26]; exact dU_ne (by omega)
          have yx147 := congrArg Int32.toInt ex146
          have ex148 : g26 0 13 = g25 0 13 := by rw [hg26]; exact dU_ne (by omega)
          have yx149 := congrArg Int32.toInt ex148
          have ex150 : g26 0 20 = g25 0 20 := by rw [hg26]; exact dU_ne (by omega)
          have yx151 := congrArg Int32.toInt ex150
          have ex152 : g26 0 21 = g25 0 21 := by rw [hg26]; exact dU_ne (by omega)
          have yx153 := congrArg Int32.toInt ex152
          have ex154 : g26 0 22 = g25 0 22 := by rw [hg26]; exact dU_ne (by omega)
          have yx155 := congrArg Int32.toInt ex154
          have ex156 : g26 0 23 = g25 0 23 := by rw [hg26]; exact dU_ne (by omega)
          have yx157 := congrArg Int32.toInt ex156
          have ex158 : g26 0 24 = g25 0 24 := by rw [hg26]; exact dU_ne (by omega)
          have yx159 := congrArg Int32.toInt ex158
          have yx160 : (g26 0 25).toInt = r11.toInt64.toInt := by rw [hg26, dU_eq]; have := congrArg Int64.toInt c27; rw [l_i2l] at this; exact this
          try have tx161 : ((g26 0 22) + 1).toInt = (g26 0 22).toInt + 1 := i_add rfl (by decide) (by omega) (by omega)
          refine sf_oH (fun g28 hg28 => ?_)
          have I_g28 : InvM g28 := by rw [hg28]; exact invM_free I_g26 rfl (by omega) (by omega)
          have ex162 : g28 0 3 = g26 0 3 := by rw [hg28]; exact dU_ne (by omega)
          have yx163 := congrArg Int32.toInt ex162
          have ex164 : g28 0 4 = g26 0 4 := by rw [hg28]; exact dU_ne (by omega)
          have yx165 := congrArg Int32.toInt ex164
          have ex166 : g28 0 13 = g26 0 13 := by rw [hg28]; exact dU_ne (by omega)
          have yx167 := congrArg Int32.toInt ex166
          have ex168 : g28 0 20 = g26 0 20 := by rw [hg28]; exact dU_ne (by omega)
          have yx169 := congrArg Int32.toInt ex168
          have ex170 : g28 0 21 = g26 0 21 := by rw [hg28]; exact dU_ne (by omega)
          have yx171 := congrArg Int32.toInt ex170
          have ex172 : g28 0 23 = g26 0 23 := by rw [hg28]; exact dU_ne (by omega)
          have yx173 := congrArg Int32.toInt ex172
          have ex174 : g28 0 24 = g26 0 24 := by rw [hg28]; exact dU_ne (by omega)
          have yx175 := congrArg Int32.toInt ex174
          have ex176 : g28 0 25 = g26 0 25 := by rw [hg28]; exact dU_ne (by omega)
          have yx177 := congrArg Int32.toInt ex176
          have yx178 : (g28 0 22).toInt = ((g26 0 22) + 1).toInt := by rw [hg28, dU_eq]
          exact sf_some (⟨⟨I_g28, (show 0 ≤ (g28 0 20).toInt ∧ (g28 0 20).toInt ≤ 800 ∧ 0 ≤ (g28 0 21).toInt ∧ (g28 0 21).toInt ≤ 160 ∧ 0 ≤ (g28 0 24).toInt ∧ (g28 0 24).toInt ≤ (g28 0 22).toInt ∧ (g28 0 22).toInt ≤ (g28 0 21).toInt ∧ ((g28 0 23).toInt = 3 → (g28 0 24).toInt < (g28 0 22).toInt) by omega)⟩, (ex162.trans (ex144.trans (ex127.trans (ex71.trans (ex54.trans eg9_0))))), (ex164.trans (ex146.trans (ex129.trans (ex73.trans (ex56.trans eg9_1))))), (ex166.trans (ex148.trans (ex131.trans (ex75.trans (ex58.trans eg9_2))))), (ex168.trans (ex150.trans (ex133.trans (ex77.trans (ex60.trans eg9_3))))), (ex170.trans (ex152.trans (ex135.trans (ex79.trans (ex62.trans eg9_4))))), (show (h 0 22).toInt ≤ (g28 0 24).toInt by omega)⟩)
        · skip
          refine sf_ite (fun c29 => ?_) (fun c30 => ?_)
          · skip
            refine sf_oH (fun g31 hg31 => ?_)
            have I_g31 : InvM g31 := by rw [hg31]; exact invM_free I_g12 rfl (by omega) (by omega)
            have ex179 : g31 0 3 = g12 0 3 := by rw [hg31]; exact dU_ne (by omega)
            have yx180 := congrArg Int32.toInt ex179
            have ex181 : g31 0 4 = g12 0 4 := by rw [hg31]; exact dU_ne (by omega)
            have yx182 := congrArg Int32.toInt ex181
            have ex183 : g31 0 13 = g12 0 13 := by rw [hg31]; exact dU_ne (by omega)
            have yx184 := congrArg Int32.toInt ex183
            have ex185 : g31 0 20 = g12 0 20 := by rw [hg31]; exact dU_ne (by omega)
            have yx186 := congrArg Int32.toInt ex185
            have ex187 : g31 0 21 = g12 0 21 := by rw [hg31]; exact dU_ne (by omega)
            have yx188 := congrArg Int32.toInt ex187
            have ex189 : g31 0 22 = g12 0 22 := by rw [hg31]; exact dU_ne (by omega)
            have yx190 := congrArg Int32.toInt ex189
            have ex191 : g31 0 24 = g12 0 24 := by rw [hg31]; exact dU_ne (by omega)
            have yx192 := congrArg Int32.toInt ex191
            have ex193 : g31 0 25 = g12 0 25 := by rw [hg31]; exact dU_ne (by omega)
            have yx194 := congrArg Int32.toInt ex193
            have yx195 : (g31 0 23).toInt = 3 := by rw [hg31, dU_eq]; decide
            refine sf_guard (l_fits (by omega) (by omega)) (fun c33 => ?_)
            refine sf_oH (fun g32 hg32 => ?_)
            have I_g32 : InvM g32 := by rw [hg32]; exact invM_free I_g31 rfl (by omega) (by omega)
            have ex196 : g32 0 3 = g31 0 3 := by rw [hg32]; exact dU_ne (by omega)
            have yx197 := congrArg Int32.toInt ex196
            have ex198 : g32 0 4 = g31 0 4 := by rw [hg32]; exact dU_ne (by omega)
            have yx199 := congrArg Int32.toInt ex198
            have ex200 : g32 0 13 = g31 0 13 := by rw [hg32]; exact dU_ne (by omega)
            have yx201 := congrArg Int32.toInt ex200
            have ex202 : g32 0 20 = g31 0 20 := by rw [hg32]; exact dU_ne (by omega)
            have yx203 := congrArg Int32.toInt ex202
            have ex204 : g32 0 21 = g31 0 21 := by rw [hg32]; exact dU_ne (by omega)
            have yx205 := congrArg Int32.toInt ex204
            have ex206 : g32 0 22 = g31 0 22 := by rw [hg32]; exact dU_ne (by omega)
            have yx207 := congrArg Int32.toInt ex206
            have ex208 : g32 0 23 = g31 0 23 := by rw [hg32]; exact dU_ne (by omega)
            have yx209 := congrArg Int32.toInt ex208
            have ex210 : g32 0 24 = g31 0 24 := by rw [hg32]; exact dU_ne (by omega)
            have yx211 := congrArg Int32.toInt ex210
            have yx212 : (g32 0 25).toInt = r11.toInt64.toInt := by rw [hg32, dU_eq]; have := congrArg Int64.toInt c33; rw [l_i2l] at this; exact this
            try have tx213 : ((g32 0 22) + 1).toInt = (g32 0 22).toInt + 1 := i_add rfl (by decide) (by omega) (by omega)
            refine sf_oH (fun g34 hg34 => ?_)
            have I_g34 : InvM g34 := by rw [hg34]; exact invM_free I_g32 rfl (by omega) (by omega)
            have ex214 : g34 0 3 = g32 0 3 := by rw [hg34]; exact dU_ne (by omega)
            have yx215 := congrArg Int32.toInt ex214
            have ex216 : g34 0 4 = g32 0 4 := by rw [hg34]; exact dU_ne (by omega)
            have yx217 := congrArg Int32.toInt ex216
            have ex218 : g34 0 13 = g32 0 13 := by rw [hg34]; exact dU_ne (by omega)
            have yx219 := congrArg Int32.toInt ex218
            have ex220 : g34 0 20 = g32 0 20 := by rw [hg34]; exact dU_ne (by omega)
            have yx221 := congrArg Int32.toInt ex220
            have ex222 : g34 0 21 = g32 0 21 := by rw [hg34]; exact dU_ne (by omega)
            have yx223 := congrArg Int32.toInt ex222
            have ex224 : g34 0 23 = g32 0 23 := by rw [hg34]; exact dU_ne (by omega)
            have yx225 := congrArg Int32.toInt ex224
            have ex226 : g34 0 24 = g32 0 24 := by rw [hg34]; exact dU_ne (by omega)
            have yx227 := congrArg Int32.toInt ex226
            have ex228 : g34 0 25 = g32 0 25 := by rw [hg34]; exact dU_ne (by omega)
            have yx229 := congrArg Int32.toInt ex228
            have yx230 : (g34 0 22).toInt = ((g32 0 22) + 1).toInt := by rw [hg34, dU_eq]
            exact sf_some (⟨⟨I_g34, (show 0 ≤ (g34 0 20).toInt ∧ (g34 0 20).toInt ≤ 800 ∧ 0 ≤ (g34 0 21).toInt ∧ (g34 0 21).toInt ≤ 160 ∧ 0 ≤ (g34 0 24).toInt ∧ (g34 0 24).toInt ≤ (g34 0 22).toInt ∧ (g34 0 22).toInt ≤ (g34 0 21).toInt ∧ ((g34 0 23).toInt = 3 → (g34 0 24).toInt < (g34 0 22).toInt) by omega)⟩, (ex214.trans (ex196.trans (ex179.trans (ex71.trans (ex54.trans eg9_0))))), (ex216.trans (ex198.trans (ex181.trans (ex73.trans (ex56.trans eg9_1))))), (ex218.trans (ex200.trans (ex183.trans (ex75.trans (ex58.trans eg9_2))))), (ex220.trans (ex202.trans (ex185.trans (ex77.trans (ex60.trans eg9_3))))), (ex222.trans (ex204.trans (ex187.trans (ex79.trans (ex62.trans eg9_4))))), (show (h 0 22).toInt ≤ (g34 0 24).toInt by omega)⟩)
          · skip
            refine sf_ite (fun c35 => ?_) (fun c36 => ?_)
            · skip
              refine sf_oH (fun g37 hg37 => ?_)
              have I_g37 : InvM g37 := by rw [hg37]; exact invM_free I_g12 rfl (by omega) (by omega)
              have ex231 : g37 0 3 = g12 0 3 := by rw [hg37]; exact dU_ne (by omega)
              have yx232 := congrArg Int32.toInt ex231
              have ex233 : g37 0 4 = g12 0 4 := by rw [hg37]; exact dU_ne (by omega)
              have yx234 := congrArg Int32.toInt ex233
              have ex235 : g37 0 13 = g12 0 13 := by rw [hg37]; exact dU_ne (by omega)
              have yx236 := congrArg Int32.toInt ex235
              have ex237 : g37 0 20 = g12 0 20 := by rw [hg37]; exact dU_ne (by omega)
              have yx238 := congrArg Int32.toInt ex237
              have ex239 : g37 0 21 = g12 0 21 := by rw [hg37]; exact dU_ne (by omega)
              have yx240 := congrArg Int32.toInt ex239
              have ex241 : g37 0 22 = g12 0 22 := by rw [hg37]; exact dU_ne (by omega)
              have yx242 := congrArg Int32.toInt ex241
              have ex243 : g37 0 24 = g12 0 24 := by rw [hg37]; exact dU_ne (by omega)
              have yx244 := congrArg Int32.toInt ex243
              have ex245 : g37 0 25 = g12 0 25 := by rw [hg37]; exact dU_ne (by omega)
              have yx246 := congrArg Int32.toInt ex245
              have yx247 : (g37 0 23).toInt = 3 := by rw [hg37, dU_eq]; decide
              refine sf_guard (l_fits (by omega) (by omega)) (fun c39 => ?_)
              refine sf_oH (fun g38 hg38 => ?_)
              have I_g38 : InvM g38 := by rw [hg38]; exact invM_free I_g37 rfl (by omega) (by omega)
              have ex248 : g38 0 3 = g37 0 3 := by rw [hg38]; exact dU_ne (by omega)
              have yx249 := congrArg Int32.toInt ex248
              have ex250 : g38 0 4 = g37 0 4 := by rw [hg38]; exact dU_ne (by omega)
              have yx251 := congrArg Int32.toInt ex250
              have ex252 : g38 0 13 = g37 0 13 := by rw [hg38]; exact dU_ne (by omega)
              have yx253 := congrArg Int32.toInt ex252
              have ex254 : g38 0 20 = g37 0 20 := by rw [hg38]; exact dU_ne (by omega)
              have yx255 := congrArg Int32.toInt ex254
              have ex256 : g38 0 21 = g37 0 21 := by rw [hg38]; exact dU_ne (by omega)
              have yx257 := congrArg Int32.toInt ex256
              have ex258 : g38 0 22 = g37 0 22 := by rw [hg38]; exact dU_ne (by omega)
              have yx259 := congrArg Int32.toInt ex258
              have ex260 : g38 0 23 = g37 0 23 := by rw [hg38]; exact dU_ne (by omega)
              have yx261 := congrArg Int32.toInt ex260
              have ex262 : g38 0 24 = g37 0 24 := by rw [hg38]; exact dU_ne (by omega)
              have yx263 := congrArg Int32.toInt ex262
              have yx264 : (g38 0 25).toInt = r11.toInt64.toInt := by rw [hg38, dU_eq]; have := congrArg Int64.toInt c39; rw [l_i2l] at this; exact this
              try have tx265 : ((g38 0 22) + 1).toInt = (g38 0 22).toInt + 1 := i_add rfl (by decide) (by omega) (by omega)
              refine sf_oH (fun g40 hg40 => ?_)
              have I_g40 : InvM g40 := by rw [hg40]; exact invM_free I_g38 rfl (by omega) (by omega)
              have ex266 : g40 0 3 = g38 0 3 := by rw [hg40]; exact dU_ne (by omega)
              have yx267 := congrArg Int32.toInt ex266
              have ex268 : g40 0 4 = g38 0 4 := by rw [hg40]; exact dU_ne (by omega)
              have yx269 := congrArg Int32.toInt ex268
              have ex270 : g40 0 13 = g38 0 13 := by rw [hg40]; exact dU_ne (by omega)
              have yx271 := congrArg Int32.toInt ex270
              have ex272 : g40 0 20 = g38 0 20 := by rw [hg40]; exact dU_ne (by omega)
              have yx273 := congrArg Int32.toInt ex272
              have ex274 : g40 0 21 = g38 0 21 := by rw [hg40]; exact dU_ne (by omega)
              have yx275 := congrArg Int32.toInt ex274
              have ex276 : g40 0 23 = g38 0 23 := by rw [hg40]; exact dU_ne (by omega)
              have yx277 := congrArg Int32.toInt ex276
              have ex278 : g40 0 24 = g38 0 24 := by rw [hg40]; exact dU_ne (by omega)
              have yx279 := congrArg Int32.toInt ex278
              have ex280 : g40 0 25 = g38 0 25 := by rw [hg40]; exact dU_ne (by omega)
              have yx281 := congrArg Int32.toInt ex280
              have yx282 : (g40 0 22).toInt = ((g38 0 22) + 1).toInt := by rw [hg40, dU_eq]
              exact sf_some (⟨⟨I_g40, (show 0 ≤ (g40 0 20).toInt ∧ (g40 0 20).toInt ≤ 800 ∧ 0 ≤ (g40 0 21).toInt ∧ (g40 0 21).toInt ≤ 160 ∧ 0 ≤ (g40 0 24).toInt ∧ (g40 0 24).toInt ≤ (g40 0 22).toInt ∧ (g40 0 22).toInt ≤ (g40 0 21).toInt ∧ ((g40 0 23).toInt = 3 → (g40 0 24).toInt < (g40 0 22).toInt) by omega)⟩, (ex266.trans (ex248.trans (ex231.trans (ex71.trans (ex54.trans eg9_0))))), (ex268.trans (ex250.trans (ex233.trans (ex73.trans (ex56.trans eg9_1))))), (ex270.trans (ex252.trans (ex235.trans (ex75.trans (ex58.trans eg9_2))))), (ex272.trans (ex254.trans (ex237.trans (ex77.trans (ex60.trans eg9_3))))), (ex274.trans (ex256.trans (ex239.trans (ex79.trans (ex62.trans eg9_4))))), (show (h 0 22).toInt ≤ (g40 0 24).toInt by omega)⟩)
            · skip
              refine sf_ite (fun c41 => ?_) (fun c42 => ?_)
              · skip
                refine sf_oH (fun g43 hg43 => ?_)
                have I_g43 : InvM g43 := by rw [hg43]; exact invM_free I_g12 rfl (by omega) (by omega)
                have ex283 : g43 0 3 = g12 0 3 := by rw [hg43]; exact dU_ne (by omega)
                have yx284 := congrArg Int32.toInt ex283
                have ex285 : g43 0 4 = g12 0 4 := by rw [hg43]; exact dU_ne (by omega)
                have yx286 := congrArg Int32.toInt ex285
                have ex287 : g43 0 13 = g12 0 13 := by rw [hg43]; exact dU_ne (by omega)
                have yx288 := congrArg Int32.toInt ex287
                have ex289 : g43 0 20 = g12 0 20 := by rw [hg43]; exact dU_ne (by omega)
                have yx290 := congrArg Int32.toInt ex289
                have ex291 : g43 0 21 = g12 0 21 := by rw [hg43]; exact dU_ne (by omega)
                have yx292 := congrArg Int32.toInt ex291
                have ex293 : g43 0 22 = g12 0 22 := by rw [hg43]; exact dU_ne (by omega)
                have yx294 := congrArg Int32.toInt ex293
                have ex295 : g43 0 24 = g12 0 24 := by rw [hg43]; exact dU_ne (by omega)
                have yx296 := congrArg Int32.toInt ex295
                have ex297 : g43 0 25 = g12 0 25 := by rw [hg43]; exact dU_ne (by omega)
                have yx298 := congrArg Int32.toInt ex297
                have yx299 : (g43 0 23).toInt = 3 := by rw [hg43, dU_eq]; decide
                refine sf_guard (l_fits (by omega) (by omega)) (fun c45 => ?_)
                refine sf_oH (fun g44 hg44 => ?_)
                have I_g44 : InvM g44 := by rw [hg44]; exact invM_free I_g43 rfl (by omega) (by omega)
                have ex300 : g44 0 3 = g43 0 3 := by rw [hg44]; exact dU_ne (by omega)
                have yx301 := congrArg Int32.toInt ex300
                have ex302 : g44 0 4 = g43 0 4 := by rw [hg44]; exact dU_ne (by omega)
                have yx303 := congrArg Int32.toInt ex302
                have ex304 : g44 0 13 = g43 0 13 := by rw [hg44]; exact dU_ne (by omega)
                have yx305 := congrArg Int32.toInt ex304
                have ex306 : g44 0 20 = g43 0 20 := by rw [hg44]; exact dU_ne (by omega)
                have yx307 := congrArg Int32.toInt ex306
                have ex308 : g44 0 21 = g43 0 21 := by rw [hg44]; exact dU_ne (by omega)
                have yx309 := congrArg Int32.toInt ex308
                have ex310 : g44 0 22 = g43 0 22 := by rw [hg44]; exact dU_ne (by omega)
                have yx311 := congrArg Int32.toInt ex310
                have ex312 : g44 0 23 = g43 0 23 := by rw [hg44]; exact dU_ne (by omega)
                have yx313 := congrArg Int32.toInt ex312
                have ex314 : g44 0 24 = g43 0 24 := by rw [hg44]; exact dU_ne (by omega)
                have yx315 := congrArg Int32.toInt ex314
                have yx316 : (g44 0 25).toInt = r11.toInt64.toInt := by rw [hg44, dU_eq]; have := congrArg Int64.toInt c45; rw [l_i2l] at this; exact this
                try have tx317 : ((g44 0 22) + 1).toInt = (g44 0 22).toInt + 1 := i_add rfl (by decide) (by omega) (by omega)
                refine sf_oH (fun g46 hg46 => ?_)
                have I_g46 : InvM g46 := by rw [hg46]; exact invM_free I_g44 rfl (by omega) (by omega)
                have ex318 : g46 0 3 = g44 0 3 := by rw [hg46]; exact dU_ne (by omega)
                have yx319 := congrArg Int32.toInt ex318
                have ex320 : g46 0 4 = g44 0 4 := by rw [hg46]; exact dU_ne (by omega)
                have yx321 := congrArg Int32.toInt ex320
                have ex322 : g46 0 13 = g44 0 13 := by rw [hg46]; exact dU_ne (by omega)
                have yx323 := congrArg Int32.toInt ex322
                have ex324 : g46 0 20 = g44 0 20 := by rw [hg46]; exact dU_ne (by omega)
                have yx325 := congrArg Int32.toInt ex324
                have ex326 : g46 0 21 = g44 0 21 := by rw [hg46]; exact dU_ne (by omega)
                have yx327 := congrArg Int32.toInt ex326
                have ex328 : g46 0 23 = g44 0 23 := by rw [hg46]; exact dU_ne (by omega)
                have yx329 := congrArg Int32.toInt ex328
                have ex330 : g46 0 24 = g44 0 24 := by rw [hg46]; exact dU_ne (by omega)
                have yx331 := congrArg Int32.toInt ex330
                have ex332 : g46 0 25 = g44 0 25 := by rw [hg46]; exact dU_ne (by omega)
                have yx333 := congrArg Int32.toInt ex332
                have yx334 : (g46 0 22).toInt = ((g44 0 22) + 1).toInt := by rw [hg46, dU_eq]
                exact sf_some (⟨⟨I_g46, (show 0 ≤ (g46 0 20).toInt ∧ (g46 0 20).toInt ≤ 800 ∧ 0 ≤ (g46 0 21).toInt ∧ (g46 0 21).toInt ≤ 160 ∧ 0 ≤ (g46 0 24).toInt ∧ (g46 0 24).toInt ≤ (g46 0 22).toInt ∧ (g46 0 22).toInt ≤ (g46 0 21).toInt ∧ ((g46 0 23).toInt = 3 → (g46 0 24).toInt < (g46 0 22).toInt) by omega)⟩, (ex318.trans (ex300.trans (ex283.trans (ex71.trans (ex54.trans eg9_0))))), (ex320.trans (ex302.trans (ex285.trans (ex73.trans (ex56.trans eg9_1))))), (ex322.trans (ex304.trans (ex287.trans (ex75.trans (ex58.trans eg9_2))))), (ex324.trans (ex306.trans (ex289.trans (ex77.trans (ex60.trans eg9_3))))), (ex326.trans (ex308.trans (ex291.trans (ex79.trans (ex62.trans eg9_4))))), (show (h 0 22).toInt ≤ (g46 0 24).toInt by omega)⟩)
              · skip
                refine sf_ite (fun c47 => ?_) (fun c48 => ?_)
                · skip
                  refine sf_oH (fun g49 hg49 => ?_)
                  have I_g49 : InvM g49 := by rw [hg49]; exact invM_free I_g12 rfl (by omega) (by omega)
                  have ex335 : g49 0 3 = g12 0 3 := by rw [hg49]; exact dU_ne (by omega)
                  have yx336 := congrArg Int32.toInt ex335
                  have ex337 : g49 0 4 = g12 0 4 := by rw [hg49]; exact dU_ne (by omega)
                  have yx338 := congrArg Int32.toInt ex337
                  have ex339 : g49 0 13 = g12 0 13 := by rw [hg49]; exact dU_ne (by omega)
                  have yx340 := congrArg Int32.toInt ex339
                  have ex341 : g49 0 20 = g12 0 20 := by rw [hg49]; exact dU_ne (by omega)
                  have yx342 := congrArg Int32.toInt ex341
                  have ex343 : g49 0 21 = g12 0 21 := by rw [hg49]; exact dU_ne (by omega)
                  have yx344 := congrArg Int32.toInt ex343
                  have ex345 : g49 0 22 = g12 0 22 := by rw [hg49]; exact dU_ne (by omega)
                  have yx346 := congrArg Int32.toInt ex345
                  have ex347 : g49 0 24 = g12 0 24 := by rw [hg49]; exact dU_ne (by omega)
                  have yx348 := congrArg Int32.toInt ex347
                  have ex349 : g49 0 25 = g12 0 25 := by rw [hg49]; exact dU_ne (by omega)
                  have yx350 := congrArg Int32.toInt ex349
                  have yx351 : (g49 0 23).toInt = 3 := by rw [hg49, dU_eq]; decide
                  refine sf_guard (l_fits (by omega) (by omega)) (fun c51 => ?_)
                  refine sf_oH (fun g50 hg50 => ?_)
                  have I_g50 : InvM g50 := by rw [hg50]; exact invM_free I_g49 rfl (by omega) (by omega)
                  have ex352 : g50 0 3 = g49 0 3 := by rw [hg50]; exact dU_ne (by omega)
                  have yx353 := congrArg Int32.toInt ex352
                  have ex354 : g50 0 4 = g49 0 4 := by rw [hg50]; exact dU_ne (by omega)
                  have yx355 := congrArg Int32.toInt ex354
                  have ex356 : g50 0 13 = g49 0 13 := by rw [hg50]; exact dU_ne (by omega)
                  have yx357 := congrArg Int32.toInt ex356
                  have ex358 : g50 0 20 = g49 0 20 := by rw [hg50]; exact dU_ne (by omega)
                  have yx359 := congrArg Int32.toInt ex358
                  have ex360 : g50 0 21 = g49 0 21 := by rw [hg50]; exact dU_ne (by omega)
                  have yx361 := congrArg Int32.toInt ex360
                  have ex362 : g50 0 22 = g49 0 22 := by rw [hg50]; exact dU_ne (by omega)
                  have yx363 := congrArg Int32.toInt ex362
                  have ex364 : g50 0 23 = g49 0 23 := by rw [hg50]; exact dU_ne (by omega)
                  have yx365 := congrArg Int32.toInt ex364
                  have ex366 : g50 0 24 = g49 0 24 := by rw [hg50]; exact dU_ne (by omega)
                  have yx367 := congrArg Int32.toInt ex366
                  have yx368 : (g50 0 25).toInt = r11.toInt64.toInt := by rw [hg50, dU_eq]; have := congrArg Int64.toInt c51; rw [l_i2l] at this; exact this
                  try have tx369 : ((g50 0 22) + 1).toInt = (g50 0 22).toInt + 1 := i_add rfl (by decide) (by omega) (by omega)
                  refine sf_oH (fun g52 hg52 => ?_)
                  have I_g52 : InvM g52 := by rw [hg52]; exact invM_free I_g50 rfl (by omega) (by omega)
                  have ex370 : g52 0 3 = g50 0 3 := by rw [hg52]; exact dU_ne (by omega)
                  have yx371 := congrArg Int32.toInt ex370
                  have ex372 : g52 0 4 = g50 0 4 := by rw [hg52]; exact dU_ne (by omega)
                  have yx373 := congrArg Int32.toInt ex372
                  have ex374 : g52 0 13 = g50 0 13 := by rw [hg52]; exact dU_ne (by omega)
                  have yx375 := congrArg Int32.toInt ex374
                  have ex376 : g52 0 20 = g50 0 20 := by rw [hg52]; exact dU_ne (by omega)
                  have yx377 := congrArg Int32.toInt ex376
                  have ex378 : g52 0 21 = g50 0 21 := by rw [hg52]; exact dU_ne (by omega)
                  have yx379 := congrArg Int32.toInt ex378
                  have ex380 : g52 0 23 = g50 0 23 := by rw [hg52]; exact dU_ne (by omega)
                  have yx381 := congrArg Int32.toInt ex380
                  have ex382 : g52 0 24 = g50 0 24 := by rw [hg52]; exact dU_ne (by omega)
                  have yx383 := congrArg Int32.toInt ex382
                  have ex384 : g52 0 25 = g50 0 25 := by rw [hg52]; exact dU_ne (by omega)
                  have yx385 := congrArg Int32.toInt ex384
                  have yx386 : (g52 0 22).toInt = ((g50 0 22) + 1).toInt := by rw [hg52, dU_eq]
                  exact sf_some (⟨⟨I_g52, (show 0 ≤ (g52 0 20).toInt ∧ (g52 0 20).toInt ≤ 800 ∧ 0 ≤ (g52 0 21).toInt ∧ (g52 0 21).toInt ≤ 160 ∧ 0 ≤ (g52 0 24).toInt ∧ (g52 0 24).toInt ≤ (g52 0 22).toInt ∧ (g52 0 22).toInt ≤ (g52 0 21).toInt ∧ ((g52 0 23).toInt = 3 → (g52 0 24).toInt < (g52 0 22).toInt) by omega)⟩, (ex370.trans (ex352.trans (ex335.trans (ex71.trans (ex54.trans eg9_0))))), (ex372.trans (ex354.trans (ex337.trans (ex73.trans (ex56.trans eg9_1))))), (ex374.trans (ex356.trans (ex339.trans (ex75.trans (ex58.trans eg9_2))))), (ex376.trans (ex358.trans (ex341.trans (ex77.trans (ex60.trans eg9_3))))), (ex378.trans (ex360.trans (ex343.trans (ex79.trans (ex62.trans eg9_4))))), (show (h 0 22).toInt ≤ (g52 0 24).toInt by omega)⟩)
                · skip
                  refine sf_ite (fun c53 => ?_) (fun c54 => ?_)
                  · skip
                    refine sf_oH (fun g55 hg55 => ?_)
                    have I_g55 : InvM g55 := by rw [hg55]; exact invM_free I_g12 rfl (by omega) (by omega)
                    have ex387 : g55 0 3 = g12 0 3 := by rw [hg55]; exact dU_ne (by omega)
                    have yx388 := congrArg Int32.toInt ex387
                    have ex389 : g55 0 4 = g12 0 4 := by rw [hg55]; exact dU_ne (by omega)
                    have yx390 := congrArg Int32.toInt ex389
                    have ex391 : g55 0 13 = g12 0 13 := by rw [hg55]; exact dU_ne (by omega)
                    have yx392 := congrArg Int32.toInt ex391
                    have ex393 : g55 0 20 = g12 0 20 := by rw [hg55]; exact dU_ne (by omega)
                    have yx394 := congrArg Int32.toInt ex393
                    have ex395 : g55 0 21 = g12 0 21 := by rw [hg55]; exact dU_ne (by omega)
                    have yx396 := congrArg Int32.toInt ex395
                    have ex397 : g55 0 22 = g12 0 22 := by rw [hg55]; exact dU_ne (by omega)
                    have yx398 := congrArg Int32.toInt ex397
                    have ex399 : g55 0 24 = g12 0 24 := by rw [hg55]; exact dU_ne (by omega)
                    have yx400 := congrArg Int32.toInt ex399
                    have ex401 : g55 0 25 = g12 0 25 := by rw [hg55]; exact dU_ne (by omega)
                    have yx402 := congrArg Int32.toInt ex401
                    have yx403 : (g55 0 23).toInt = 3 := by rw [hg55, dU_eq]; decide
                    refine sf_guard (l_fits (by omega) (by omega)) (fun c57 => ?_)
                    refine sf_oH (fun g56 hg56 => ?_)
                    have I_g56 : InvM g56 := by rw [hg56]; exact invM_free I_g55 rfl (by omega) (by omega)
                    have ex404 : g56 0 3 = g55 0 3 := by rw [hg56]; exact dU_ne (by omega)
                    have yx405 := congrArg Int32.toInt ex404
                    have ex406 : g56 0 4 = g55 0 4 := by rw [hg56]; exact dU_ne (by omega)
                    have yx407 := congrArg Int32.toInt ex406
                    have ex408 : g56 0 13 = g55 0 13 := by rw [hg56]; exact dU_ne (by omega)
                    have yx409 := congrArg Int32.toInt ex408
                    have ex410 : g56 0 20 = g55 0 20 := by rw [hg56]; exact dU_ne (by omega)
                    have yx411 := congrArg Int32.toInt ex410
                    have ex412 : g56 0 21 = g55 0 21 := by rw [hg56]; exact dU_ne (by omega)
                    have yx413 := congrArg Int32.toInt ex412
                    have ex414 : g56 0 22 = g55 0 22 := by rw [hg56]; exact dU_ne (by omega)
                    have yx415 := congrArg Int32.toInt ex414
                    have ex416 : g56 0 23 = g55 0 23 := by rw [hg56]; exact dU_ne (by omega)
                    have yx417 := congrArg Int32.toInt ex416
                    have ex418 : g56 0 24 = g55 0 24 := by rw [hg56]; exact dU_ne (by omega)
                    have yx419 := congrArg Int32.toInt ex418
                    have yx420 : (g56 0 25).toInt = r11.toInt64.toInt := by rw [hg56, dU_eq]; have := congrArg Int64.toInt c57; rw [l_i2l] at this; exact this
                    try have tx421 : ((g56 0 22) + 1).toInt = (g56 0 22).toInt + 1 := i_add rfl (by decide) (by omega) (by omega)
                    refine sf_oH (fun g58 hg58 => ?_)
                    have I_g58 : InvM g58 := by rw [hg58]; exact invM_free I_g56 rfl (by omega) (by omega)
                    have ex422 : g58 0 3 = g56 0 3 := by rw [hg58]; exact dU_ne (by omega)
                    have yx423 := congrArg Int32.toInt ex422
                    have ex424 : g58 0 4 = g56 0 4 := by rw [hg58]; exact dU_ne (by omega)
                    have yx425 := congrArg Int32.toInt ex424
                    have ex426 : g58 0 13 = g56 0 13 := by rw [hg58]; exact dU_ne (by omega)
                    have yx427 := congrArg Int32.toInt ex426
                    have ex428 : g58 0 20 = g56 0 20 := by rw [hg58]; exact dU_ne (by omega)
                    have yx429 := congrArg Int32.toInt ex428
                    have ex430 : g58 0 21 = g56 0 21 := by rw [hg58]; exact dU_ne (by omega)
                    have yx431 := congrArg Int32.toInt ex430
                    have ex432 : g58 0 23 = g56 0 23 := by rw [hg58]; exact dU_ne (by omega)
                    have yx433 := congrArg Int32.toInt ex432
                    have ex434 : g58 0 24 = g56 0 24 := by rw [hg58]; exact dU_ne (by omega)
                    have yx435 := congrArg Int32.toInt ex434
                    have ex436 : g58 0 25 = g56 0 25 := by rw [hg58]; exact dU_ne (by omega)
                    have yx437 := congrArg Int32.toInt ex436
                    have yx438 : (g58 0 22).toInt = ((g56 0 22) + 1).toInt := by rw [hg58, dU_eq]
                    exact sf_some (⟨⟨I_g58, (show 0 ≤ (g58 0 20).toInt ∧ (g58 0 20).toInt ≤ 800 ∧ 0 ≤ (g58 0 21).toInt ∧ (g58 0 21).toInt ≤ 160 ∧ 0 ≤ (g58 0 24).toInt ∧ (g58 0 24).toInt ≤ (g58 0 22).toInt ∧ (g58 0 22).toInt ≤ (g58 0 21).toInt ∧ ((g58 0 23).toInt = 3 → (g58 0 24).toInt < (g58 0 22).toInt) by omega)⟩, (ex422.trans (ex404.trans (ex387.trans (ex71.trans (ex54.trans eg9_0))))), (ex424.trans (ex406.trans (ex389.trans (ex73.trans (ex56.trans eg9_1))))), (ex426.trans (ex408.trans (ex391.trans (ex75.trans (ex58.trans eg9_2))))), (ex428.trans (ex410.trans (ex393.trans (ex77.trans (ex60.trans eg9_3))))), (ex430.trans (ex412.trans (ex395.trans (ex79.trans (ex62.trans eg9_4))))), (show (h 0 22).toInt ≤ (g58 0 24).toInt by omega)⟩)
                  · skip
                    refine sf_ite (fun c59 => ?_) (fun c60 => ?_)
                    · skip
                      refine sf_oH (fun g61 hg61 => ?_)
                      have I_g61 : InvM g61 := by rw [hg61]; exact invM_free I_g12 rfl (by omega) (by omega)
                      have ex439 : g61 0 3 = g12 0 3 := by rw [hg61]; exact dU_ne (by omega)
                      have yx440 := congrArg Int32.toInt ex439
                      have ex441 : g61 0 4 = g12 0 4 := by rw [hg61]; exact dU_ne (by omega)
                      have yx442 := congrArg Int32.toInt ex441
                      have ex443 : g61 0 13 = g12 0 13 := by rw [hg61]; exact dU_ne (by omega)
                      have yx444 := congrArg Int32.toInt ex443
                      have ex445 : g61 0 20 = g12 0 20 := by rw [hg61]; exact dU_ne (by omega)
                      have yx446 := congrArg Int32.toInt ex445
                      have ex447 : g61 0 21 = g12 0 21 := by rw [hg61]; exact dU_ne (by omega)
                      have yx448 := congrArg Int32.toInt ex447
                      have ex449 : g61 0 22 = g12 0 22 := by rw [hg61]; exact dU_ne (by omega)
                      have yx450 := congrArg Int32.toInt ex449
                      have ex451 : g61 0 24 = g12 0 24 := by rw [hg61]; exact dU_ne (by omega)
                      have yx452 := congrArg Int32.toInt ex451
                      have ex453 : g61 0 25 = g12 0 25 := by rw [hg61]; exact dU_ne (by omega)
                      have yx454 := congrArg Int32.toInt ex453
                      have yx455 : (g61 0 23).toInt = 3 := by rw [hg61, dU_eq]; decide
                      refine sf_guard (l_fits (by omega) (by omega)) (fun c63 => ?_)
                      refine sf_oH (fun g62 hg62 => ?_)
                      have I_g62 : InvM g62 := by rw [hg62]; exact invM_free I_g61 rfl (by omega) (by omega)
                      have ex456 : g62 0 3 = g61 0 3 := by rw [hg62]; exact dU_ne (by omega)
                      have yx457 := congrArg Int32.toInt ex456
                      have ex458 : g62 0 4 = g61 0 4 := by rw [hg62]; exact dU_ne (by omega)
                      have yx459 := congrArg Int32.toInt ex458
                      have ex460 : g62 0 13 = g61 0 13 := by rw [hg62]; exact dU_ne (by omega)
                      have yx461 := congrArg Int32.toInt ex460
                      have ex462 : g62 0 20 = g61 0 20 := by rw [hg62]; exact dU_ne (by omega)
                      have yx463 := congrArg Int32.toInt ex462
                      have ex464 : g62 0 21 = g61 0 21 := by rw [hg62]; exact dU_ne (by omega)
                      have yx465 := congrArg Int32.toInt ex464
                      have ex466 : g62 0 22 = g61 0 22 := by rw [hg62]; exact dU_ne (by omega)
                      have yx467 := congrArg Int32.toInt ex466
                      have ex468 : g62 0 23 = g61 0 23 := by rw [hg62]; exact dU_ne (by omega)
                      have yx469 := congrArg Int32.toInt ex468
                      have ex470 : g62 0 24 = g61 0 24 := by rw [hg62]; exact dU_ne (by omega)
                      have yx471 := congrArg Int32.toInt ex470
                      have yx472 : (g62 0 25).toInt = r11.toInt64.toInt := by rw [hg62, dU_eq]; have := congrArg Int64.toInt c63; rw [l_i2l] at this; exact this
                      try have tx473 : ((g62 0 22) + 1).toInt = (g62 0 22).toInt + 1 := i_add rfl (by decide) (by omega) (by omega)
                      refine sf_oH (fun g64 hg64 => ?_)
                      have I_g64 : InvM g64 := by rw [hg64]; exact invM_free I_g62 rfl (by omega) (by omega)
                      have ex474 : g64 0 3 = g62 0 3 := by rw [hg64]; exact dU_ne (by omega)
                      have yx475 := congrArg Int32.toInt ex474
                      have ex476 : g64 0 4 = g62 0 4 := by rw [hg64]; exact dU_ne (by omega)
                      have yx477 := congrArg Int32.toInt ex476
                      have ex478 : g64 0 13 = g62 0 13 := by rw [hg64]; exact dU_ne (by omega)
                      have yx479 := congrArg Int32.toInt ex478
                      have ex480 : g64 0 20 = g62 0 20 := by rw [hg64]; exact dU_ne (by omega)
                      have yx481 := congrArg Int32.toInt ex480
                      have ex482 : g64 0 21 = g62 0 21 := by rw [hg64]; exact dU_ne (by omega)
                      have yx483 := congrArg Int32.toInt ex482
                      have ex484 : g64 0 23 = g62 0 23 := by rw [hg64]; exact dU_ne (by omega)
                      have yx485 := congrArg Int32.toInt ex484
                      have ex486 : g64 0 24 = g62 0 24 := by rw [hg64]; exact dU_ne (by omega)
                      have yx487 := congrArg Int32.toInt ex486
                      have ex488 : g64 0 25 = g62 0 25 := by rw [hg64]; exact dU_ne (by omega)
                      have yx489 := congrArg Int32.toInt ex488
                      have yx490 : (g64 0 22).toInt = ((g62 0 22) + 1).toInt := by rw [hg64, dU_eq]
                      exact sf_some (⟨⟨I_g64, (show 0 ≤ (g64 0 20).toInt ∧ (g64 0 20).toInt ≤ 800 ∧ 0 ≤ (g64 0 21).toInt ∧ (g64 0 21).toInt ≤ 160 ∧ 0 ≤ (g64 0 24).toInt ∧ (g64 0 24).toInt ≤ (g64 0 22).toInt ∧ (g64 0 22).toInt ≤ (g64 0 21).toInt ∧ ((g64 0 23).toInt = 3 → (g64 0 24).toInt < (g64 0 22).toInt) by omega)⟩, (ex474.trans (ex456.trans (ex439.trans (ex71.trans (ex54.trans eg9_0))))), (ex476.trans (ex458.trans (ex441.trans (ex73.trans (ex56.trans eg9_1))))), (ex478.trans (ex460.trans (ex443.trans (ex75.trans (ex58.trans eg9_2))))), (ex480.trans (ex462.trans (ex445.trans (ex77.trans (ex60.trans eg9_3))))), (ex482.trans (ex464.trans (ex447.trans (ex79.trans (ex62.trans eg9_4))))), (show (h 0 22).toInt ≤ (g64 0 24).toInt by omega)⟩)
                    · skip
                      refine sf_ite (fun c65 => ?_) (fun c66 => ?_)
                      · skip
                        refine sf_oH (fun g67 hg67 => ?_)
                        have I_g67 : InvM g67 := by rw [hg67]; exact invM_free I_g12 rfl (by omega) (by omega)
                        have ex491 : g67 0 3 = g12 0 3 := by rw [hg67]; exact dU_ne (by omega)
                        have yx492 := congrArg Int32.toInt ex491
                        have ex493 : g67 0 4 = g12 0 4 := by rw [hg67]; exact dU_ne (by omega)
                        have yx494 := congrArg Int32.toInt ex493
                        have ex495 : g67 0 13 = g12 0 13 := by rw [hg67]; exact dU_ne (by omega)
                        have yx496 := congrArg Int32.toInt ex495
                        have ex497 : g67 0 20 = g12 0 20 := by rw [hg67]; exact dU_ne (by omega)
                        have yx498 := congrArg Int32.toInt ex497
                        have ex499 : g67 0 21 = g12 0 21 := by rw [hg67]; exact dU_ne (by omega)
                        have yx500 := congrArg Int32.toInt ex499
                        have ex501 : g67 0 22 = g12 0 22 := by rw [hg67]; exact dU_ne (by omega)
                        have yx502 := congrArg Int32.toInt ex501
                        have ex503 : g67 0 24 = g12 0 24 := by rw [hg67]; exact dU_ne (by omega)
                        have yx504 := congrArg Int32.toInt ex503
                        have ex505 : g67 0 25 = g12 0 25 := by rw [hg67]; exact dU_ne (by omega)
                        have yx506 := congrArg Int32.toInt ex505
                        have yx507 : (g67 0 23).toInt = 3 := by rw [hg67, dU_eq]; decide
                        refine sf_guard (l_fits (by omega) (by omega)) (fun c69 => ?_)
                        refine sf_oH (fun g68 hg68 => ?_)
                        have I_g68 : InvM g68 := by rw [hg68]; exact invM_free I_g67 rfl (by omega) (by omega)
                        have ex508 : g68 0 3 = g67 0 3 := by rw [hg68]; exact dU_ne (by omega)
                        have yx509 := congrArg Int32.toInt ex508
                        have ex510 : g68 0 4 = g67 0 4 := by rw [hg68]; exact dU_ne (by omega)
                        have yx511 := congrArg Int32.toInt ex510
                        have ex512 : g68 0 13 = g67 0 13 := by rw [hg68]; exact dU_ne (by omega)
                        have yx513 := congrArg Int32.toInt ex512
                        have ex514 : g68 0 20 = g67 0 20 := by rw [hg68]; exact dU_ne (by omega)
                        have yx515 := congrArg Int32.toInt ex514
                        have ex516 : g68 0 21 = g67 0 21 := by rw [hg68]; exact dU_ne (by omega)
                        have yx517 := congrArg Int32.toInt ex516
                        have ex518 : g68 0 22 = g67 0 22 := by rw [hg68]; exact dU_ne (by omega)
                        have yx519 := congrArg Int32.toInt ex518
                        have ex520 : g68 0 23 = g67 0 23 := by rw [hg68]; exact dU_ne (by omega)
                        have yx521 := congrArg Int32.toInt ex520
                        have ex522 : g68 0 24 = g67 0 24 := by rw [hg68]; exact dU_ne (by omega)
                        have yx523 := congrArg Int32.toInt ex522
                        have yx524 : (g68 0 25).toInt = r11.toInt64.toInt := by rw [hg68, dU_eq]; have := congrArg Int64.toInt c69; rw [l_i2l] at this; exact this
                        try have tx525 : ((g68 0 22) + 1).toInt = (g68 0 22).toInt + 1 := i_add rfl (by decide) (by omega) (by omega)
                        refine sf_oH (fun g70 hg70 => ?_)
                        have I_g70 : InvM g70 := by rw [hg70]; exact invM_free I_g68 rfl (by omega) (by omega)
                        have ex526 : g70 0 3 = g68 0 3 := by rw [hg70]; exact dU_ne (by omega)
                        have yx527 := congrArg Int32.toInt ex526
                        have ex528 : g70 0 4 = g68 0 4 := by rw [hg70]; exact dU_ne (by omega)
                        have yx529 := congrArg Int32.toInt ex528
                        have ex530 : g70 0 13 = g68 0 13 := by rw [hg70]; exact dU_ne (by omega)
                        have yx531 := congrArg Int32.toInt ex530
                        have ex532 : g70 0 20 = g68 0 20 := by rw [hg70]; exact dU_ne (by omega)
                        have yx533 := congrArg Int32.toInt ex532
                        have ex534 : g70 0 21 = g68 0 21 := by rw [hg70]; exact dU_ne (by omega)
                        have yx535 := congrArg Int32.toInt ex534
                        have ex536 : g70 0 23 = g68 0 23 := by rw [hg70]; exact dU_ne (by omega)
                        have yx537 := congrArg Int32.toInt ex536
                        have ex538 : g70 0 24 = g68 0 24 := by rw [hg70]; exact dU_ne (by omega)
                        have yx539 := congrArg Int32.toInt ex538
                        have ex540 : g70 0 25 = g68 0 25 := by rw [hg70]; exact dU_ne (by omega)
                        have yx541 := congrArg Int32.toInt ex540
                        have yx542 : (g70 0 22).toInt = ((g68 0 22) + 1).toInt := by rw [hg70, dU_eq]
                        exact sf_some (⟨⟨I_g70, (show 0 ≤ (g70 0 20).toInt ∧ (g70 0 20).toInt ≤ 800 ∧ 0 ≤ (g70 0 21).toInt ∧ (g70 0 21).toInt ≤ 160 ∧ 0 ≤ (g70 0 24).toInt ∧ (g70 0 24).toInt ≤ (g70 0 22).toInt ∧ (g70 0 22).toInt ≤ (g70 0 21).toInt ∧ ((g70 0 23).toInt = 3 → (g70 0 24).toInt < (g70 0 22).toInt) by omega)⟩, (ex526.trans (ex508.trans (ex491.trans (ex71.trans (ex54.trans eg9_0))))), (ex528.trans (ex510.trans (ex493.trans (ex73.trans (ex56.trans eg9_1))))), (ex530.trans (ex512.trans (ex495.trans (ex75.trans (ex58.trans eg9_2))))), (ex532.trans (ex514.trans (ex497.trans (ex77.trans (ex60.trans eg9_3))))), (ex534.trans (ex516.trans (ex499.trans (ex79.trans (ex62.trans eg9_4))))), (show (h 0 22).toInt ≤ (g70 0 24).toInt by omega)⟩)
                      · skip
                        exact sf_some (⟨⟨I_g12, (show 0 ≤ (g12 0 20).toInt ∧ (g12 0 20).toInt ≤ 800 ∧ 0 ≤ (g12 0 21).toInt ∧ (g12 0 21).toInt ≤ 160 ∧ 0 ≤ (g12 0 24).toInt ∧ (g12 0 24).toInt ≤ (g12 0 22).toInt ∧ (g12 0 22).toInt ≤ (g12 0 21).toInt ∧ ((g12 0 23).toInt = 3 → (g12 0 24).toInt < (g12 0 22).toInt) by omega)⟩, (ex71.trans (ex54.trans eg9_0)), (ex73.trans (ex56.trans eg9_1)), (ex75.trans (ex58.trans eg9_2)), (ex77.trans (ex60.trans eg9_3)), (ex79.trans (ex62.trans eg9_4)), (show (h 0 22).toInt ≤ (g12 0 24).toInt by omega)⟩)
      · skip
        refine sf_oH (fun g71 hg71 => ?_)
        have I_g71 : InvM g71 := by rw [hg71]; exact invM_free I_g12 rfl (by omega) (by omega)
        have ex543 : g71 0 3 = g12 0 3 := by rw [hg71]; exact dU_ne (by omega)
        have yx544 := congrArg Int32.toInt ex543
        have ex545 : g71 0 4 = g12 0 4 := by rw [hg71]; exact dU_ne (by omega)
        have yx546 := congrArg Int32.toInt ex545
        have ex547 : g71 0 13 = g12 0 13 := by rw [hg71]; exact dU_ne (by omega)
        have yx548 := congrArg Int32.toInt ex547
        have ex549 : g71 0 20 = g12 0 20 := by rw [hg71]; exact dU_ne (by omega)
        have yx550 := congrArg Int32.toInt ex549
        have ex551 : g71 0 21 = g12 0 21 := by rw [hg71]; exact dU_ne (by omega)
        have yx552 := congrArg Int32.toInt ex551
        have ex553 : g71 0 22 = g12 0 22 := by rw [hg71]; exact dU_ne (by omega)
        have yx554 := congrArg Int32.toInt ex553
        have ex555 : g71 0 24 = g12 0 24 := by rw [hg71]; exact dU_ne (by omega)
        have yx556 := congrArg Int32.toInt ex555
        have ex557 : g71 0 25 = g12 0 25 := by rw [hg71]; exact dU_ne (by omega)
        have yx558 := congrArg Int32.toInt ex557
        have yx559 : (g71 0 23).toInt = 2 := by rw [hg71, dU_eq]; decide
        refine sf_oH (fun g72 hg72 => ?_)
        have I_g72 : InvM g72 := by rw [hg72]; exact invM_free I_g71 rfl (by omega) (by omega)
        have ex560 : g72 0 3 = g71 0 3 := by rw [hg72]; exact dU_ne (by omega)
        have yx561 := congrArg Int32.toInt ex560
        have ex562 : g72 0 4 = g71 0 4 := by rw [hg72]; exact dU_ne (by omega)
        have yx563 := congrArg Int32.toInt ex562
        have ex564 : g72 0 13 = g71 0 13 := by rw [hg72]; exact dU_ne (by omega)
        have yx565 := congrArg Int32.toInt ex564
        have ex566 : g72 0 20 = g71 0 20 := by rw [hg72]; exact dU_ne (by omega)
        have yx567 := congrArg Int32.toInt ex566
        have ex568 : g72 0 21 = g71 0 21 := by rw [hg72]; exact dU_ne (by omega)
        have yx569 := congrArg Int32.toInt ex568
        have ex570 : g72 0 22 = g71 0 22 := by rw [hg72]; exact dU_ne (by omega)
        have yx571 := congrArg Int32.toInt ex570
        have ex572 : g72 0 23 = g71 0 23 := by rw [hg72]; exact dU_ne (by omega)
        have yx573 := congrArg Int32.toInt ex572
        have ex574 : g72 0 24 = g71 0 24 := by rw [hg72]; exact dU_ne (by omega)
        have yx575 := congrArg Int32.toInt ex574
        have yx576 : (g72 0 25).toInt = 0 := by rw [hg72, dU_eq]; decide
        have tx665 : (0 : Int32).toInt = 0 := by decide
        refine sl_X7_next_160   g72 I_g72  _ _ (fun v2_86 g87 I_g87 eg87_0 eg87_1 eg87_2 eg87_3 eg87_4 eg87_5 eg87_6 px666 => ?_)  fuel0 (0 : Int32) g72 I_g72 rfl rfl rfl rfl rfl rfl rfl (by first | trivial | omega) (by have := fuel0_eq; omega)
        have yx667 := congrArg Int32.toInt eg87_0
        have yx668 := congrArg Int32.toInt eg87_1
        have yx669 := congrArg Int32.toInt eg87_2
        have yx670 := congrArg Int32.toInt eg87_3
        have yx671 := congrArg Int32.toInt eg87_4
        have yx672 := congrArg Int32.toInt eg87_5
        have yx673 := congrArg Int32.toInt eg87_6
        refine sf_ite (fun c88 => ?_) (fun c89 => ?_)
        · skip
          refine sf_oH (fun g90 hg90 => ?_)
          have I_g90 : InvM g90 := by rw [hg90]; exact invM_free I_g87 rfl (by omega) (by omega)
          have ex674 : g90 0 3 = g87 0 3 := by rw [hg90]; exact dU_ne (by omega)
          have yx675 := congrArg Int32.toInt ex674
          have ex676 : g90 0 4 = g87 0 4 := by rw [hg90]; exact dU_ne (by omega)
          have yx677 := congrArg Int32.toInt ex676
          have ex678 : g90 0 13 = g87 0 13 := by rw [hg90]; exact dU_ne (by omega)
          have yx679 := congrArg Int32.toInt ex678
          have ex680 : g90 0 20 = g87 0 20 := by rw [hg90]; exact dU_ne (by omega)
          have yx681 := congrArg Int32.toInt ex680
          have ex682 : g90 0 21 = g87 0 21 := by rw [hg90]; exact dU_ne (by omega)
          have yx683 := congrArg Int32.toInt ex682
          have ex684 : g90 0 22 = g87 0 22 := by rw [hg90]; exact dU_ne (by omega)
          have yx685 := congrArg Int32.toInt ex684
          have ex686 : g90 0 24 = g87 0 24 := by rw [hg90]; exact dU_ne (by omega)
          have yx687 := congrArg Int32.toInt ex686
          have ex688 : g90 0 25 = g87 0 25 := by rw [hg90]; exact dU_ne (by omega)
          have yx689 := congrArg Int32.toInt ex688
          have yx690 : (g90 0 23).toInt = 4 := by rw [hg90, dU_eq]; decide
          exact sf_some (⟨⟨I_g90, (show 0 ≤ (g90 0 20).toInt ∧ (g90 0 20).toInt ≤ 800 ∧ 0 ≤ (g90 0 21).toInt ∧ (g90 0 21).toInt ≤ 160 ∧ 0 ≤ (g90 0 24).toInt ∧ (g90 0 24).toInt ≤ (g90 0 22).toInt ∧ (g90 0 22).toInt ≤ (g90 0 21).toInt ∧ ((g90 0 23).toInt = 3 → (g90 0 24).toInt < (g90 0 22).toInt) by omega)⟩, (ex674.trans (eg87_0.trans (ex560.trans (ex543.trans (ex71.trans (ex54.trans eg9_0)))))), (ex676.trans (eg87_1.trans (ex562.trans (ex545.trans (ex73.trans (ex56.trans eg9_1)))))), (ex678.trans (eg87_2.trans (ex564.trans (ex547.trans (ex75.trans (ex58.trans eg9_2)))))), (ex680.trans (eg87_3.trans (ex566.trans (ex549.trans (ex77.trans (ex60.trans eg9_3)))))), (ex682.trans (eg87_4.trans (ex568.trans (ex551.trans (ex79.trans (ex62.trans eg9_4)))))), (show (h 0 22).toInt ≤ (g90 0 24).toInt by omega)⟩)
        · skip
          refine sf_oH (fun g91 hg91 => ?_)
          have I_g91 : InvM g91 := by rw [hg91]; exact invM_free I_g87 rfl (by omega) (by omega)
          have ex691 : g91 0 3 = g87 0 3 := by rw [hg91]; exact dU_ne (by omega)
          have yx692 := congrArg Int32.toInt ex691
          have ex693 : g91 0 4 = g87 0 4 := by rw [hg91]; exact dU_ne (by omega)
          have yx694 := congrArg Int32.toInt ex693
          have ex695 : g91 0 13 = g87 0 13 := by rw [hg91]; exact dU_ne (by omega)
          have yx696 := congrArg Int32.toInt ex695
          have ex697 : g91 0 20 = g87 0 20 := by rw [hg91]; exact dU_ne (by omega)
          have yx698 := congrArg Int32.toInt ex697
          have ex699 : g91 0 21 = g87 0 21 := by rw [hg91]; exact dU_ne (by omega)
          have yx700 := congrArg Int32.toInt ex699
          have ex701 : g91 0 22 = g87 0 22 := by rw [hg91]; exact dU_ne (by omega)
          have yx702 := congrArg Int32.toInt ex701
          have ex703 : g91 0 24 = g87 0 24 := by rw [hg91]; exact dU_ne (by omega)
          have yx704 := congrArg Int32.toInt ex703
          have ex705 : g91 0 25 = g87 0 25 := by rw [hg91]; exact dU_ne (by omega)
          have yx706 := congrArg Int32.toInt ex705
          have yx707 : (g91 0 23).toInt = 2 := by rw [hg91, dU_eq]; decide
          exact sf_some (⟨⟨I_g91, (show 0 ≤ (g91 0 20).toInt ∧ (g91 0 20).toInt ≤ 800 ∧ 0 ≤ (g91 0 21).toInt ∧ (g91 0 21).toInt ≤ 160 ∧ 0 ≤ (g91 0 24).toInt ∧ (g91 0 24).toInt ≤ (g91 0 22).toInt ∧ (g91 0 22).toInt ≤ (g91 0 21).toInt ∧ ((g91 0 23).toInt = 3 → (g91 0 24).toInt < (g91 0 22).toInt) by omega)⟩, (ex691.trans (eg87_0.trans (ex560.trans (ex543.trans (ex71.trans (ex54.trans eg9_0)))))), (ex693.trans (eg87_1.trans (ex562.trans (ex545.trans (ex73.trans (ex56.trans eg9_1)))))), (ex695.trans (eg87_2.trans (ex564.trans (ex547.trans (ex75.trans (ex58.trans eg9_2)))))), (ex697.trans (eg87_3.trans (ex566.trans (ex549.trans (ex77.trans (ex60.trans eg9_3)))))), (ex699.trans (eg87_4.trans (ex568.trans (ex551.trans (ex79.trans (ex62.trans eg9_4)))))), (show (h 0 22).toInt ≤ (g91 0 24).toInt by omega)⟩)
    · skip
      refine sf_oH (fun g92 hg92 => ?_)
      have I_g92 : InvM g92 := by rw [hg92]; exact invM_free I_g12 rfl (by omega) (by omega)
      have ex708 : g92 0 3 = g12 0 3 := by rw [hg92]; exact dU_ne (by omega)
      have yx709 := congrArg Int32.toInt ex708
      have ex710 : g92 0 4 = g12 0 4 := by rw [hg92]; exact dU_ne (by omega)
      have yx711 := congrArg Int32.toInt ex710
      have ex712 : g92 0 13 = g12 0 13 := by rw [hg92]; exact dU_ne (by omega)
      have yx713 := congrArg Int32.toInt ex712
      have ex714 : g92 0 20 = g12 0 20 := by rw [hg92]; exact dU_ne (by omega)
      have yx715 := congrArg Int32.toInt ex714
      have ex716 : g92 0 21 = g12 0 21 := by rw [hg92]; exact dU_ne (by omega)
      have yx717 := congrArg Int32.toInt ex716
      have ex718 : g92 0 22 = g12 0 22 := by rw [hg92]; exact dU_ne (by omega)
      have yx719 := congrArg Int32.toInt ex718
      have ex720 : g92 0 24 = g12 0 24 := by rw [hg92]; exact dU_ne (by omega)
      have yx721 := congrArg Int32.toInt ex720
      have ex722 : g92 0 25 = g12 0 25 := by rw [hg92]; exact dU_ne (by omega)
      have yx723 := congrArg Int32.toInt ex722
      have yx724 : (g92 0 23).toInt = 1 := by rw [hg92, dU_eq]; decide
      refine sl_X7_next_100   g92 I_g92  _ _ (fun g98 I_g98 eg98_0 eg98_1 eg98_2 eg98_3 eg98_4 eg98_5 eg98_6 eg98_7 px754 => ?_)  fuel0  g92 I_g92 rfl rfl rfl rfl rfl rfl rfl rfl (by first | trivial | omega) (by have := fuel0_eq; omega)
      have yx755 := congrArg Int32.toInt eg98_0
      have yx756 := congrArg Int32.toInt eg98_1
      have yx757 := congrArg Int32.toInt eg98_2
      have yx758 := congrArg Int32.toInt eg98_3
      have yx759 := congrArg Int32.toInt eg98_4
      have yx760 := congrArg Int32.toInt eg98_5
      have yx761 := congrArg Int32.toInt eg98_6
      have yx762 := congrArg Int32.toInt eg98_7
      exact sf_some (⟨⟨I_g98, (show 0 ≤ (g98 0 20).toInt ∧ (g98 0 20).toInt ≤ 800 ∧ 0 ≤ (g98 0 21).toInt ∧ (g98 0 21).toInt ≤ 160 ∧ 0 ≤ (g98 0 24).toInt ∧ (g98 0 24).toInt ≤ (g98 0 22).toInt ∧ (g98 0 22).toInt ≤ (g98 0 21).toInt ∧ ((g98 0 23).toInt = 3 → (g98 0 24).toInt < (g98 0 22).toInt) by omega)⟩, (eg98_0.trans (ex708.trans (ex71.trans (ex54.trans eg9_0)))), (eg98_1.trans (ex710.trans (ex73.trans (ex56.trans eg9_1)))), (eg98_2.trans (ex712.trans (ex75.trans (ex58.trans eg9_2)))), (eg98_3.trans (ex714.trans (ex77.trans (ex60.trans eg9_3)))), (eg98_4.trans (ex716.trans (ex79.trans (ex62.trans eg9_4)))), (show (h 0 22).toInt ≤ (g98 0 24).toInt by omega)⟩)
theorem s_X7_isSign (h : dH) (I_h : InvQ h) (v1 : Int32)  : Sf (f_X7_isSign v1 h) (fun r => r.toInt = 0 ∨ (h 0 23).toInt = 3) := by
  unfold f_X7_isSign
  have pq_h : 0 ≤ (h 0 20).toInt ∧ (h 0 20).toInt ≤ 800 ∧ 0 ≤ (h 0 21).toInt ∧ (h 0 21).toInt ≤ 160 ∧ 0 ≤ (h 0 24).toInt ∧ (h 0 24).toInt ≤ (h 0 22).toInt ∧ (h 0 22).toInt ≤ (h 0 21).toInt ∧ ((h 0 23).toInt = 3 → (h 0 24).toInt < (h 0 22).toInt) := I_h.2
  have u_v1 := Int32.toInt_lt v1
  have w_v1 := Int32.le_toInt v1
  refine sf_ite (fun c1 => ?_) (fun c2 => ?_)
  · skip
    refine sf_ite (fun c3 => ?_) (fun c4 => ?_)
    · skip
      have tx1 : (h 0 25).toInt64.toInt = (h 0 25).toInt := l_i2l
      have tx2 : v1.toInt64.toInt = v1.toInt := l_i2l
      have tx3 := dlcmp_ok ((h 0 25).toInt64) (v1.toInt64)
      refine sf_ite (fun c5 => ?_) (fun c6 => ?_)
      · skip
        have tx4 : (1 : Int32).toInt = 1 := by decide
        exact sf_some ((show (1 : Int32).toInt = 0 ∨ (h 0 23).toInt = 3 by omega))
      · skip
        have tx5 : (0 : Int32).toInt = 0 := by decide
        exact sf_some ((show (0 : Int32).toInt = 0 ∨ (h 0 23).toInt = 3 by omega))
    · skip
      have tx6 : (0 : Int32).toInt = 0 := by decide
      exact sf_some ((show (0 : Int32).toInt = 0 ∨ (h 0 23).toInt = 3 by omega))
  · skip
    have tx7 : (0 : Int32).toInt = 0 := by decide
    exact sf_some ((show (0 : Int32).toInt = 0 ∨ (h 0 23).toInt = 3 by omega))
end
