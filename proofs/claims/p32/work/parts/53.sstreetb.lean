section
/-! that they answer: X6_suppose, X6_possible, X6_tells, X6_film, X6_friendsDrawn, X6_drawn, X6_commonDivisor, X6_chance, X6_image, X6_back, X6_count, X6_isSort, X6_sheet, X6_cell, X6_copy, X6_houses, X6_isUnder, X6_taken (by program) -/
noncomputable section
theorem s_X6_suppose (h : dH) (I_h : InvC h) (v1 : Int32) (v2 : Int32) (v3 : Int32) (q0 : 0 ≤ v1.toInt ∧ v1.toInt ≤ 7) (q1 : v2.toInt = 1 ∧ 0 ≤ v3.toInt ∨ v2.toInt = 2 ∨ v2.toInt = 3 ∨ (0 ≤ v3.toInt ∧ v3.toInt < 6)) : Sf (f_X6_suppose v1 v2 v3 h) (fun o => InvC o ∧ o 0 3 = h 0 3 ∧ o 1 0 = h 1 0 ∧ o 1 5 = h 1 5 ∧ o 42 2 = h 42 2 ∧ o 43 2 = h 43 2 ∧ True) := by
  unfold f_X6_suppose
  have u_v1 := Int32.toInt_lt v1
  have w_v1 := Int32.le_toInt v1
  have u_v2 := Int32.toInt_lt v2
  have w_v2 := Int32.le_toInt v2
  have u_v3 := Int32.toInt_lt v3
  have w_v3 := Int32.le_toInt v3
  refine sf_ite (fun c1 => ?_) (fun c2 => ?_)
  · skip
    refine sf_guard (by omega) (fun c4 => ?_)
    refine sf_oH (fun g3 hg3 => ?_)
    have I_g3 : InvC g3 := by rw [hg3]; exact inv_free I_h (fS1 zS57)
    have ex1 : g3 0 3 = h 0 3 := by rw [hg3]; exact dU_ne (by omega)
    have yx2 := congrArg Int32.toInt ex1
    have ex3 : g3 1 0 = h 1 0 := by rw [hg3]; exact dU_ne (by omega)
    have yx4 := congrArg Int32.toInt ex3
    have ex5 : g3 1 5 = h 1 5 := by rw [hg3]; exact dU_ne (by omega)
    have yx6 := congrArg Int32.toInt ex5
    have ex7 : g3 42 2 = h 42 2 := by rw [hg3]; exact dU_ne (by omega)
    have yx8 := congrArg Int32.toInt ex7
    have ex9 : g3 43 2 = h 43 2 := by rw [hg3]; exact dU_ne (by omega)
    have yx10 := congrArg Int32.toInt ex9
    exact sf_some (⟨I_g3, ex1, ex3, ex5, ex7, ex9, trivial⟩)
  · skip
    refine sf_ite (fun c5 => ?_) (fun c6 => ?_)
    · skip
      refine sf_guard (by omega) (fun c8 => ?_)
      refine sf_oH (fun g7 hg7 => ?_)
      have I_g7 : InvC g7 := by rw [hg7]; exact inv_free I_h (fS2 zS57)
      have ex11 : g7 0 3 = h 0 3 := by rw [hg7]; exact dU_ne (by omega)
      have yx12 := congrArg Int32.toInt ex11
      have ex13 : g7 1 0 = h 1 0 := by rw [hg7]; exact dU_ne (by omega)
      have yx14 := congrArg Int32.toInt ex13
      have ex15 : g7 1 5 = h 1 5 := by rw [hg7]; exact dU_ne (by omega)
      have yx16 := congrArg Int32.toInt ex15
      have ex17 : g7 42 2 = h 42 2 := by rw [hg7]; exact dU_ne (by omega)
      have yx18 := congrArg Int32.toInt ex17
      have ex19 : g7 43 2 = h 43 2 := by rw [hg7]; exact dU_ne (by omega)
      have yx20 := congrArg Int32.toInt ex19
      exact sf_some (⟨I_g7, ex11, ex13, ex15, ex17, ex19, trivial⟩)
    · skip
      refine sf_ite (fun c9 => ?_) (fun c10 => ?_)
      · skip
        refine sf_guard (by omega) (fun c12 => ?_)
        refine sf_oH (fun g11 hg11 => ?_)
        have I_g11 : InvC g11 := by rw [hg11]; exact inv_free I_h (fS3 zS57)
        have ex21 : g11 0 3 = h 0 3 := by rw [hg11]; exact dU_ne (by omega)
        have yx22 := congrArg Int32.toInt ex21
        have ex23 : g11 1 0 = h 1 0 := by rw [hg11]; exact dU_ne (by omega)
        have yx24 := congrArg Int32.toInt ex23
        have ex25 : g11 1 5 = h 1 5 := by rw [hg11]; exact dU_ne (by omega)
        have yx26 := congrArg Int32.toInt ex25
        have ex27 : g11 42 2 = h 42 2 := by rw [hg11]; exact dU_ne (by omega)
        have yx28 := congrArg Int32.toInt ex27
        have ex29 : g11 43 2 = h 43 2 := by rw [hg11]; exact dU_ne (by omega)
        have yx30 := congrArg Int32.toInt ex29
        exact sf_some (⟨I_g11, ex21, ex23, ex25, ex27, ex29, trivial⟩)
      · skip
        refine sf_guard (by omega) (fun c13 => ?_)
        refine sf_oH (fun g14 hg14 => ?_)
        have I_g14 : InvC g14 := by rw [hg14]; exact inv_free I_h rfl
        have ex31 : g14 0 3 = h 0 3 := by rw [hg14]; exact dU_ne (by omega)
        have yx32 := congrArg Int32.toInt ex31
        have ex33 : g14 1 0 = h 1 0 := by rw [hg14]; exact dU_ne (by omega)
        have yx34 := congrArg Int32.toInt ex33
        have ex35 : g14 1 5 = h 1 5 := by rw [hg14]; exact dU_ne (by omega)
        have yx36 := congrArg Int32.toInt ex35
        have ex37 : g14 42 2 = h 42 2 := by rw [hg14]; exact dU_ne (by omega)
        have yx38 := congrArg Int32.toInt ex37
        have ex39 : g14 43 2 = h 43 2 := by rw [hg14]; exact dU_ne (by omega)
        have yx40 := congrArg Int32.toInt ex39
        exact sf_some (⟨I_g14, ex31, ex33, ex35, ex37, ex39, trivial⟩)
theorem sl_X6_possible_13 (a1 : Nat) (v2 : Int32) (v3 : Int32) (v5 : Int32) (ha1 : zW a1) (h0 : dH) (I_h0 : InvC h0) (r_v2 : 0 ≤ v2.toInt ∧ v2.toInt ≤ 7) (rn0 : v5.toInt ≤ 10 ∧ (v3.toInt = 1 ∨ v3.toInt = 2 ∨ v3.toInt = 3 ∨ v5.toInt ≤ 6)) (k : Int32 → dH → Option (Int32 × dH)) (Q : Int32 × dH → Prop) (hk : ∀ (v4 : Int32) (g : dH) (Ig : InvC g) (e0 : g 0 3 = h0 0 3) (e1 : g 1 0 = h0 1 0) (e2 : g 1 5 = h0 1 5) (e3 : g 42 2 = h0 42 2), True → Sf (k v4 g) Q)  : ∀ (n : Nat) (v4 : Int32) (v6 : Int32) (h : dH) (I_h : InvC h) (e0 : h 0 3 = h0 0 3) (e1 : h 1 0 = h0 1 0) (e2 : h 1 5 = h0 1 5) (e3 : h 42 2 = h0 42 2), 0 ≤ v6.toInt ∧ v6.toInt ≤ 10 → 10 - v6.toInt < (n : Int) → Sf (l_X6_possible_13 a1 v2 v3 v5 k n v4 v6 h) Q
  | 0, v4, v6, h, I_h, e0, e1, e2, e3, hi, hm => by omega
  | n + 1, v4, v6, h, I_h, e0, e1, e2, e3, hi, hm => by
    rw [l_X6_possible_13]
    have yx1 := congrArg Int32.toInt e0
    have yx2 := congrArg Int32.toInt e1
    have yx3 := congrArg Int32.toInt e2
    have yx4 := congrArg Int32.toInt e3
    have z_a1 : a1 = 34 ∨ a1 = 36 ∨ a1 = 38 ∨ a1 = 40 := ha1
    refine sf_ite (fun c2 => ?_) (fun c3 => ?_)
    · skip
      refine sf_oV (s_X3_become h I_h 57 zS57 43 zS43) (fun g4 pg4 => ?_)
      obtain ⟨I_g4, ex5, ex6, ex7, ex8, qg4⟩ := pg4
      try simp only at I_g4 ex5 ex6 ex7 ex8 qg4
      have yx9 := congrArg Int32.toInt ex5
      have yx10 := congrArg Int32.toInt ex6
      have yx11 := congrArg Int32.toInt ex7
      have yx12 := congrArg Int32.toInt ex8
      refine sf_oV (s_X6_suppose g4 I_g4 v2 v3 v6 (by omega) (by omega)) (fun g5 pg5 => ?_)
      obtain ⟨I_g5, ex13, ex14, ex15, ex16, ex17, qg5⟩ := pg5
      try simp only at I_g5 ex13 ex14 ex15 ex16 ex17 qg5
      have yx18 := congrArg Int32.toInt ex13
      have yx19 := congrArg Int32.toInt ex14
      have yx20 := congrArg Int32.toInt ex15
      have yx21 := congrArg Int32.toInt ex16
      have yx22 := congrArg Int32.toInt ex17
      refine sf_oV (s_X3_holdFeast g5 I_g5 57 zS57) (fun g6 pg6 => ?_)
      obtain ⟨I_g6, ex23, ex24, ex25, ex26, ex27, qg6⟩ := pg6
      try simp only at I_g6 ex23 ex24 ex25 ex26 ex27 qg6
      have yx28 := congrArg Int32.toInt ex23
      have yx29 := congrArg Int32.toInt ex24
      have yx30 := congrArg Int32.toInt ex25
      have yx31 := congrArg Int32.toInt ex26
      have yx32 := congrArg Int32.toInt ex27
      refine sf_guard (by omega) (fun c7 => ?_)
      refine sf_oP (s_X2_unlikeItems g6 I_g6 a1 ha1 (57 + 5 + v2.toInt.toNat) (shSr zS57 (by omega : v2.toInt.toNat < 8))) (fun r8 pr8 => ?_)
      refine sf_ite (fun c9 => ?_) (fun c10 => ?_)
      · skip
        try have tx33 := dshl1_ok (y := v6) (by omega) (by omega)
        try have tx34 : (v6 + 1).toInt = v6.toInt + 1 := i_add rfl (by decide) (by omega) (by omega)
        exact sl_X6_possible_13  a1 v2 v3 v5 ha1 h0 I_h0 r_v2 rn0 k Q hk n (v4 ||| (dshl 1 v6)) (v6 + 1) g6 I_g6 (ex23.trans (ex13.trans (ex5.trans e0))) (ex24.trans (ex14.trans (ex6.trans e1))) (ex25.trans (ex15.trans (ex7.trans e2))) (ex26.trans (ex16.trans (ex8.trans e3))) (by first | trivial | omega) (by omega)
      · skip
        try have tx35 : (v6 + 1).toInt = v6.toInt + 1 := i_add rfl (by decide) (by omega) (by omega)
        exact sl_X6_possible_13  a1 v2 v3 v5 ha1 h0 I_h0 r_v2 rn0 k Q hk n v4 (v6 + 1) g6 I_g6 (ex23.trans (ex13.trans (ex5.trans e0))) (ex24.trans (ex14.trans (ex6.trans e1))) (ex25.trans (ex15.trans (ex7.trans e2))) (ex26.trans (ex16.trans (ex8.trans e3))) (by first | trivial | omega) (by omega)
    · skip
      exact hk v4 h I_h e0 e1 e2 e3 (by first | trivial | omega)
theorem s_X6_possible (h : dH) (I_h : InvC h) (a1 : Nat) (ha1 : zW a1) (v2 : Int32) (v3 : Int32) (q0 : 0 ≤ v2.toInt ∧ v2.toInt ≤ 7) : Sf (f_X6_possible a1 v2 v3 h) (fun o => InvC o.2 ∧ o.2 0 3 = h 0 3 ∧ o.2 1 0 = h 1 0 ∧ o.2 1 5 = h 1 5 ∧ o.2 42 2 = h 42 2 ∧ True) := by
  unfold f_X6_possible
  have z_a1 : a1 = 34 ∨ a1 = 36 ∨ a1 = 38 ∨ a1 = 40 := ha1
  have u_v2 := Int32.toInt_lt v2
  have w_v2 := Int32.le_toInt v2
  have u_v3 := Int32.toInt_lt v3
  have w_v3 := Int32.le_toInt v3
  refine sf_oP (s_X6_choices h I_h v3) (fun r1 pr1 => ?_)
  have tx36 : (0 : Int32).toInt = 0 := by decide
  refine sl_X6_possible_13 a1 v2 v3 r1 ha1 h I_h (by omega) (by omega) _ _ (fun v4_11 g13 I_g13 eg13_0 eg13_1 eg13_2 eg13_3 px37 => ?_)  fuel0 (0 : Int32) (0 : Int32) h I_h rfl rfl rfl rfl (by first | trivial | omega) (by have := fuel0_eq; omega)
  have yx38 := congrArg Int32.toInt eg13_0
  have yx39 := congrArg Int32.toInt eg13_1
  have yx40 := congrArg Int32.toInt eg13_2
  have yx41 := congrArg Int32.toInt eg13_3
  exact sf_some (⟨I_g13, eg13_0, eg13_1, eg13_2, eg13_3, trivial⟩)
theorem s_X6_tells (h : dH) (I_h : InvC h) (v1 : Int32) (v2 : Int32) (v3 : Int32)  : Sf (f_X6_tells v1 v2 v3 h) (fun o => InvC o.2 ∧ o.2 0 3 = h 0 3 ∧ o.2 1 0 = h 1 0 ∧ o.2 1 5 = h 1 5 ∧ o.2 42 2 = h 42 2 ∧ True) := by
  unfold f_X6_tells
  have u_v1 := Int32.toInt_lt v1
  have w_v1 := Int32.le_toInt v1
  have u_v2 := Int32.toInt_lt v2
  have w_v2 := Int32.le_toInt v2
  have u_v3 := Int32.toInt_lt v3
  have w_v3 := Int32.le_toInt v3
  refine sf_oP (s_X6_isSheet h I_h v1) (fun r1 pr1 => ?_)
  refine sf_ite (fun c2 => ?_) (fun c3 => ?_)
  · skip
    exact sf_some (⟨I_h, rfl, rfl, rfl, rfl, trivial⟩)
  · skip
    refine sf_oP (s_X6_isHouse h I_h v2) (fun r4 pr4 => ?_)
    refine sf_ite (fun c5 => ?_) (fun c6 => ?_)
    · skip
      exact sf_some (⟨I_h, rfl, rfl, rfl, rfl, trivial⟩)
    · skip
      refine sf_ite (fun c7 => ?_) (fun c8 => ?_)
      · skip
        exact sf_some (⟨I_h, rfl, rfl, rfl, rfl, trivial⟩)
      · skip
        refine sf_ite (fun c9 => ?_) (fun c10 => ?_)
        · skip
          exact sf_some (⟨I_h, rfl, rfl, rfl, rfl, trivial⟩)
        · skip
          refine sf_guard (by omega) (fun c11 => ?_)
          refine sf_oP (s_X2_isMissing h I_h (34 + 2 * v1.toInt.toNat) (zW4 (by omega : v1.toInt.toNat < 4))) (fun r12 pr12 => ?_)
          refine sf_ite (fun c13 => ?_) (fun c14 => ?_)
          · skip
            have bx1 := I_h (34 + 2 * v1.toInt.toNat) 1 (0) (40) (bW1 (zW4 (by omega : v1.toInt.toNat < 4)))
            have bx2 := I_h 43 2 (0) (8) rfl
            refine sf_ite (fun c15 => ?_) (fun c16 => ?_)
            · skip
              refine sf_ite (fun c17 => ?_) (fun c18 => ?_)
              · skip
                refine sf_oI (s_X6_otherwise h I_h (34 + 2 * v1.toInt.toNat) (zW4 (by omega : v1.toInt.toNat < 4)) v2 (by omega)) (fun r19 g20 pg20 => ?_)
                obtain ⟨I_g20, ex3, ex4, ex5, ex6, qg20⟩ := pg20
                try simp only at I_g20 ex3 ex4 ex5 ex6 qg20
                have yx7 := congrArg Int32.toInt ex3
                have yx8 := congrArg Int32.toInt ex4
                have yx9 := congrArg Int32.toInt ex5
                have yx10 := congrArg Int32.toInt ex6
                exact sf_some (⟨I_g20, ex3, ex4, ex5, ex6, trivial⟩)
              · skip
                refine sf_ite (fun c21 => ?_) (fun c22 => ?_)
                · skip
                  refine sf_oP (s_X6_limits h I_h (34 + 2 * v1.toInt.toNat) (zW4 (by omega : v1.toInt.toNat < 4)) v2 (by omega)) (fun r23 pr23 => ?_)
                  exact sf_some (⟨I_h, rfl, rfl, rfl, rfl, trivial⟩)
                · skip
                  refine sf_ite (fun c24 => ?_) (fun c25 => ?_)
                  · skip
                    refine sf_oP (s_X6_leastLimit h I_h (34 + 2 * v1.toInt.toNat) (zW4 (by omega : v1.toInt.toNat < 4)) v2 (by omega)) (fun r26 pr26 => ?_)
                    exact sf_some (⟨I_h, rfl, rfl, rfl, rfl, trivial⟩)
                  · skip
                    refine sf_oI (s_X6_possible h I_h (34 + 2 * v1.toInt.toNat) (zW4 (by omega : v1.toInt.toNat < 4)) v2 v3 (by omega)) (fun r27 g28 pg28 => ?_)
                    obtain ⟨I_g28, ex11, ex12, ex13, ex14, qg28⟩ := pg28
                    try simp only at I_g28 ex11 ex12 ex13 ex14 qg28
                    have yx15 := congrArg Int32.toInt ex11
                    have yx16 := congrArg Int32.toInt ex12
                    have yx17 := congrArg Int32.toInt ex13
                    have yx18 := congrArg Int32.toInt ex14
                    exact sf_some (⟨I_g28, ex11, ex12, ex13, ex14, trivial⟩)
            · skip
              exact sf_some (⟨I_h, rfl, rfl, rfl, rfl, trivial⟩)
          · skip
            exact sf_some (⟨I_h, rfl, rfl, rfl, rfl, trivial⟩)
theorem sl_X6_film_58 (v2 : Int32) (a3 : Nat) (ha3 : zW a3) (h0 : dH) (I_h0 : InvC h0) (r_v2 : 0 ≤ v2.toInt ∧ v2.toInt ≤ 7) (k : dH → Option (Int32 × dH)) (Q : Int32 × dH → Prop) (hk : ∀  (g : dH) (Ig : InvC g) (e0 : g 0 3 = h0 0 3) (e1 : g 1 0 = h0 1 0) (e2 : g 1 5 = h0 1 5) (e3 : g 42 2 = h0 42 2) (e4 : g 43 2 = h0 43 2), True → Sf (k  g) Q)  : ∀ (n : Nat) (v4 : Int32) (h : dH) (I_h : InvC h) (e0 : h 0 3 = h0 0 3) (e1 : h 1 0 = h0 1 0) (e2 : h 1 5 = h0 1 5) (e3 : h 42 2 = h0 42 2) (e4 : h 43 2 = h0 43 2), 0 ≤ v4.toInt ∧ v4.toInt ≤ 8 → 8 - v4.toInt < (n : Int) → Sf (l_X6_film_58 v2 a3 k n v4 h) Q
  | 0, v4, h, I_h, e0, e1, e2, e3, e4, hi, hm => by omega
  | n + 1, v4, h, I_h, e0, e1, e2, e3, e4, hi, hm => by
    rw [l_X6_film_58]
    have yx31 := congrArg Int32.toInt e0
    have yx32 := congrArg Int32.toInt e1
    have yx33 := congrArg Int32.toInt e2
    have yx34 := congrArg Int32.toInt e3
    have yx35 := congrArg Int32.toInt e4
    have z_a3 : a3 = 34 ∨ a3 = 36 ∨ a3 = 38 ∨ a3 = 40 := ha3
    have bx36 := I_h 43 2 (0) (8) rfl
    refine sf_ite (fun c11 => ?_) (fun c12 => ?_)
    · skip
      refine sf_guard (by omega) (fun c13 => ?_)
      refine sf_guard (by omega) (fun c14 => ?_)
      refine sf_oV (s_X2_put h I_h a3 ha3 v4 (h (57 + 5 + v2.toInt.toNat) (v4.toInt.toNat)) (by omega)) (fun g15 pg15 => ?_)
      obtain ⟨I_g15, ex37, ex38, ex39, ex40, ex41, qg15⟩ := pg15
      try simp only at I_g15 ex37 ex38 ex39 ex40 ex41 qg15
      have yx42 := congrArg Int32.toInt ex37
      have yx43 := congrArg Int32.toInt ex38
      have yx44 := congrArg Int32.toInt ex39
      have yx45 := congrArg Int32.toInt ex40
      have yx46 := congrArg Int32.toInt ex41
      try have tx47 : (v4 + 1).toInt = v4.toInt + 1 := i_add rfl (by decide) (by omega) (by omega)
      exact sl_X6_film_58  v2 a3 ha3 h0 I_h0 r_v2 k Q hk n (v4 + 1) g15 I_g15 (ex37.trans e0) (ex38.trans e1) (ex39.trans e2) (ex40.trans e3) (ex41.trans e4) (by first | trivial | omega) (by omega)
    · skip
      exact hk  h I_h e0 e1 e2 e3 e4 (by first | trivial | omega)
theorem s_X6_film (h : dH) (I_h : InvC h) (v1 : Int32) (v2 : Int32)  : Sf (f_X6_film v1 v2 h) (fun o => InvC o.2 ∧ o.2 0 3 = h 0 3 ∧ o.2 1 0 = h 1 0 ∧ o.2 1 5 = h 1 5 ∧ o.2 42 2 = h 42 2 ∧ True) := by
  unfold f_X6_film
  have u_v1 := Int32.toInt_lt v1
  have w_v1 := Int32.le_toInt v1
  have u_v2 := Int32.toInt_lt v2
  have w_v2 := Int32.le_toInt v2
  refine sf_oP (s_X6_isSheet h I_h v1) (fun r1 pr1 => ?_)
  refine sf_ite (fun c2 => ?_) (fun c3 => ?_)
  · skip
    exact sf_some (⟨I_h, rfl, rfl, rfl, rfl, trivial⟩)
  · skip
    refine sf_oP (s_X6_isHouse h I_h v2) (fun r4 pr4 => ?_)
    refine sf_ite (fun c5 => ?_) (fun c6 => ?_)
    · skip
      exact sf_some (⟨I_h, rfl, rfl, rfl, rfl, trivial⟩)
    · skip
      refine sf_oV (s_X3_become h I_h 57 zS57 43 zS43) (fun g7 pg7 => ?_)
      obtain ⟨I_g7, ex1, ex2, ex3, ex4, qg7⟩ := pg7
      try simp only at I_g7 ex1 ex2 ex3 ex4 qg7
      have yx5 := congrArg Int32.toInt ex1
      have yx6 := congrArg Int32.toInt ex2
      have yx7 := congrArg Int32.toInt ex3
      have yx8 := congrArg Int32.toInt ex4
      refine sf_oV (s_X3_holdFeast g7 I_g7 57 zS57) (fun g8 pg8 => ?_)
      obtain ⟨I_g8, ex9, ex10, ex11, ex12, ex13, qg8⟩ := pg8
      try simp only at I_g8 ex9 ex10 ex11 ex12 ex13 qg8
      have yx14 := congrArg Int32.toInt ex9
      have yx15 := congrArg Int32.toInt ex10
      have yx16 := congrArg Int32.toInt ex11
      have yx17 := congrArg Int32.toInt ex12
      have yx18 := congrArg Int32.toInt ex13
      refine sf_guard (by omega) (fun c9 => ?_)
      have tx19 : (0 : Int32).toInt = 0 := by decide
      have bx20 := I_g8 43 2 (0) (8) rfl
      refine sf_oV (s_X2_lay g8 I_g8 (34 + 2 * v1.toInt.toNat) (zW4 (by omega : v1.toInt.toNat < 4)) (0 : Int32) (g8 43 2) (by omega)) (fun g10 pg10 => ?_)
      obtain ⟨I_g10, ex21, ex22, ex23, ex24, ex25, qg10⟩ := pg10
      try simp only at I_g10 ex21 ex22 ex23 ex24 ex25 qg10
      have yx26 := congrArg Int32.toInt ex21
      have yx27 := congrArg Int32.toInt ex22
      have yx28 := congrArg Int32.toInt ex23
      have yx29 := congrArg Int32.toInt ex24
      have yx30 := congrArg Int32.toInt ex25
      refine sl_X6_film_58 v2 (34 + 2 * v1.toInt.toNat) (zW4 (by omega : v1.toInt.toNat < 4)) g10 I_g10 (by omega) _ _ (fun g17 I_g17 eg17_0 eg17_1 eg17_2 eg17_3 eg17_4 px48 => ?_)  fuel0 (0 : Int32) g10 I_g10 rfl rfl rfl rfl rfl (by first | trivial | omega) (by have := fuel0_eq; omega)
      have yx49 := congrArg Int32.toInt eg17_0
      have yx50 := congrArg Int32.toInt eg17_1
      have yx51 := congrArg Int32.toInt eg17_2
      have yx52 := congrArg Int32.toInt eg17_3
      have yx53 := congrArg Int32.toInt eg17_4
      exact sf_some (⟨I_g17, (eg17_0.trans (ex21.trans (ex9.trans ex1))), (eg17_1.trans (ex22.trans (ex10.trans ex2))), (eg17_2.trans (ex23.trans (ex11.trans ex3))), (eg17_3.trans (ex24.trans (ex12.trans ex4))), trivial⟩)
theorem sl_X6_friendsDrawn_16   (h0 : dH) (I_h0 : InvC h0)  (k : dH → Option (Int32 × dH)) (Q : Int32 × dH → Prop) (hk : ∀  (g : dH) (Ig : InvC g) (e0 : g 0 3 = h0 0 3) (e1 : g 1 0 = h0 1 0) (e2 : g 1 5 = h0 1 5) (e3 : g 42 2 = h0 42 2) (e4 : g 43 2 = h0 43 2), True → Sf (k  g) Q)  : ∀ (n : Nat) (v3 : Int32) (v4 : Int32) (h : dH) (I_h : InvC h) (e0 : h 0 3 = h0 0 3) (e1 : h 1 0 = h0 1 0) (e2 : h 1 5 = h0 1 5) (e3 : h 42 2 = h0 42 2) (e4 : h 43 2 = h0 43 2), 0 ≤ v4.toInt ∧ v4.toInt ≤ 8 → 8 - v4.toInt < (n : Int) → Sf (l_X6_friendsDrawn_16  k n v3 v4 h) Q
  | 0, v3, v4, h, I_h, e0, e1, e2, e3, e4, hi, hm => by omega
  | n + 1, v3, v4, h, I_h, e0, e1, e2, e3, e4, hi, hm => by
    rw [l_X6_friendsDrawn_16]
    have yx9 := congrArg Int32.toInt e0
    have yx10 := congrArg Int32.toInt e1
    have yx11 := congrArg Int32.toInt e2
    have yx12 := congrArg Int32.toInt e3
    have yx13 := congrArg Int32.toInt e4
    have bx14 := I_h 43 2 (0) (8) rfl
    refine sf_ite (fun c2 => ?_) (fun c3 => ?_)
    · skip
      refine sf_guard (by omega) (fun c5 => ?_)
      try have tx15 : (v3 * 1103515245).toInt = v3.toInt * 1103515245 := i_mul rfl (by decide) (by omega) (by omega)
      try have tx16 : ((v3 * 1103515245) + 12345).toInt = (v3 * 1103515245).toInt + 12345 := i_add rfl (by decide) (by omega) (by omega)
      try have tx17 := drem_ok (x := (dushr ((v3 * 1103515245) + 12345) 9)) (y := (4 : Int32)) (by omega) (by omega)
      refine sf_oH (fun g4 hg4 => ?_)
      have I_g4 : InvC g4 := by rw [hg4]; exact inv_free I_h (fS3 zS57)
      have ex18 : g4 0 3 = h 0 3 := by rw [hg4]; exact dU_ne (by omega)
      have yx19 := congrArg Int32.toInt ex18
      have ex20 : g4 1 0 = h 1 0 := by rw [hg4]; exact dU_ne (by omega)
      have yx21 := congrArg Int32.toInt ex20
      have ex22 : g4 1 5 = h 1 5 := by rw [hg4]; exact dU_ne (by omega)
      have yx23 := congrArg Int32.toInt ex22
      have ex24 : g4 42 2 = h 42 2 := by rw [hg4]; exact dU_ne (by omega)
      have yx25 := congrArg Int32.toInt ex24
      have ex26 : g4 43 2 = h 43 2 := by rw [hg4]; exact dU_ne (by omega)
      have yx27 := congrArg Int32.toInt ex26
      try have tx28 : (v4 + 1).toInt = v4.toInt + 1 := i_add rfl (by decide) (by omega) (by omega)
      exact sl_X6_friendsDrawn_16    h0 I_h0  k Q hk n ((v3 * 1103515245) + 12345) (v4 + 1) g4 I_g4 (ex18.trans e0) (ex20.trans e1) (ex22.trans e2) (ex24.trans e3) (ex26.trans e4) (by first | trivial | omega) (by omega)
    · skip
      exact hk  h I_h e0 e1 e2 e3 e4 (by first | trivial | omega)
theorem s_X6_friendsDrawn (h : dH) (I_h : InvC h) (v1 : Int32) (v2 : Int32) (q0 : 0 ≤ v2.toInt ∧ v2.toInt ≤ 20) : Sf (f_X6_friendsDrawn v1 v2 h) (fun o => InvC o.2 ∧ o.2 0 3 = h 0 3 ∧ o.2 1 0 = h 1 0 ∧ o.2 1 5 = h 1 5 ∧ o.2 42 2 = h 42 2 ∧ True) := by
  unfold f_X6_friendsDrawn
  have u_v1 := Int32.toInt_lt v1
  have w_v1 := Int32.le_toInt v1
  have u_v2 := Int32.toInt_lt v2
  have w_v2 := Int32.le_toInt v2
  refine sf_oV (s_X3_become h I_h 57 zS57 43 zS43) (fun g1 pg1 => ?_)
  obtain ⟨I_g1, ex1, ex2, ex3, ex4, qg1⟩ := pg1
  try simp only at I_g1 ex1 ex2 ex3 ex4 qg1
  have yx5 := congrArg Int32.toInt ex1
  have yx6 := congrArg Int32.toInt ex2
  have yx7 := congrArg Int32.toInt ex3
  have yx8 := congrArg Int32.toInt ex4
  have tx29 : (0 : Int32).toInt = 0 := by decide
  refine sl_X6_friendsDrawn_16   g1 I_g1  _ _ (fun g8 I_g8 eg8_0 eg8_1 eg8_2 eg8_3 eg8_4 px30 => ?_)  fuel0 v1 (0 : Int32) g1 I_g1 rfl rfl rfl rfl rfl (by first | trivial | omega) (by have := fuel0_eq; omega)
  have yx31 := congrArg Int32.toInt eg8_0
  have yx32 := congrArg Int32.toInt eg8_1
  have yx33 := congrArg Int32.toInt eg8_2
  have yx34 := congrArg Int32.toInt eg8_3
  have yx35 := congrArg Int32.toInt eg8_4
  refine sf_oI (s_X3_pass g8 I_g8 57 zS57 v2 (by omega)) (fun r9 g10 pg10 => ?_)
  obtain ⟨I_g10, ex36, ex37, ex38, ex39, ex40, qg10⟩ := pg10
  try simp only at I_g10 ex36 ex37 ex38 ex39 ex40 qg10
  have yx41 := congrArg Int32.toInt ex36
  have yx42 := congrArg Int32.toInt ex37
  have yx43 := congrArg Int32.toInt ex38
  have yx44 := congrArg Int32.toInt ex39
  have yx45 := congrArg Int32.toInt ex40
  exact sf_some (⟨I_g10, (ex36.trans (eg8_0.trans ex1)), (ex37.trans (eg8_1.trans ex2)), (ex38.trans (eg8_2.trans ex3)), (ex39.trans (eg8_3.trans ex4)), trivial⟩)
theorem s_X6_drawn (h : dH) (I_h : InvC h) (v1 : Int32) (v2 : Int32)  : Sf (f_X6_drawn v1 v2 h) (fun o => InvC o.2 ∧ o.2 0 3 = h 0 3 ∧ o.2 1 0 = h 1 0 ∧ o.2 1 5 = h 1 5 ∧ o.2 42 2 = h 42 2 ∧ True) := by
  unfold f_X6_drawn
  have u_v1 := Int32.toInt_lt v1
  have w_v1 := Int32.le_toInt v1
  have u_v2 := Int32.toInt_lt v2
  have w_v2 := Int32.le_toInt v2
  refine sf_oP (s_X6_isYears h I_h v2) (fun r1 pr1 => ?_)
  refine sf_ite (fun c2 => ?_) (fun c3 => ?_)
  · skip
    exact sf_some (⟨I_h, rfl, rfl, rfl, rfl, trivial⟩)
  · skip
    refine sf_oI (s_X6_friendsDrawn h I_h v1 v2 (by omega)) (fun r4 g5 pg5 => ?_)
    obtain ⟨I_g5, ex1, ex2, ex3, ex4, qg5⟩ := pg5
    try simp only at I_g5 ex1 ex2 ex3 ex4 qg5
    have yx5 := congrArg Int32.toInt ex1
    have yx6 := congrArg Int32.toInt ex2
    have yx7 := congrArg Int32.toInt ex3
    have yx8 := congrArg Int32.toInt ex4
    exact sf_some (⟨I_g5, ex1, ex2, ex3, ex4, trivial⟩)
theorem sl_X6_commonDivisor_7   (h : dH) (I_h : InvC h)  (k : Int32 → Option (Int32)) (Q : Int32 → Prop) (hk : ∀ (v2 : Int32), True → Sf (k v2) Q)  : ∀ (n : Nat) (v2 : Int32) (v3 : Int32) (v4 : Int32), 0 ≤ v4.toInt ∧ v4.toInt ≤ 20 → 20 - v4.toInt < (n : Int) → Sf (l_X6_commonDivisor_7  k n v2 v3 v4) Q
  | 0, v2, v3, v4, hi, hm => by omega
  | n + 1, v2, v3, v4, hi, hm => by
    rw [l_X6_commonDivisor_7]
    refine sf_ite (fun c1 => ?_) (fun c2 => ?_)
    · skip
      refine sf_ite (fun c3 => ?_) (fun c4 => ?_)
      · skip
        refine sf_guard (i_ne0 (by omega)) (fun c5 => ?_)
        try have tx1 := drem_ok (x := v2) (y := v3) (by omega) (by omega)
        try have tx2 : (v4 + 1).toInt = v4.toInt + 1 := i_add rfl (by decide) (by omega) (by omega)
        exact sl_X6_commonDivisor_7    h I_h  k Q hk n v3 (drem v2 v3) (v4 + 1) (by first | trivial | omega) (by omega)
      · skip
        exact hk v2 (by first | trivial | omega)
    · skip
      exact hk v2 (by first | trivial | omega)
theorem s_X6_commonDivisor (h : dH) (I_h : InvC h) (v0 : Int32) (v1 : Int32) (q0 : 1 ≤ v1.toInt) : Sf (f_X6_commonDivisor v0 v1) (fun r => 1 ≤ r.toInt) := by
  unfold f_X6_commonDivisor
  have u_v0 := Int32.toInt_lt v0
  have w_v0 := Int32.le_toInt v0
  have u_v1 := Int32.toInt_lt v1
  have w_v1 := Int32.le_toInt v1
  have tx3 : (0 : Int32).toInt = 0 := by decide
  refine sl_X6_commonDivisor_7   h I_h  _ _ (fun v2_6 px4 => ?_)  fuel0 v1 v0 (0 : Int32)  (by first | trivial | omega) (by have := fuel0_eq; omega)
  have tx5 : (1 : Int32).toInt = 1 := by decide
  have tx6 := dmax_ok (1 : Int32) v2_6
  exact sf_some ((show 1 ≤ (dmax 1 v2_6).toInt by omega))
theorem sl_X6_chance_36 (v1 : Int32) (v2 : Int32) (v3 : Int32)  (h0 : dH) (I_h0 : InvC h0) (r_v2 : 0 ≤ v2.toInt ∧ v2.toInt ≤ 20) (rn0 : v2.toInt ≤ 20) (k : Int32 → dH → Option (Int64 × dH)) (Q : Int64 × dH → Prop) (hk : ∀ (v5 : Int32) (g : dH) (Ig : InvC g) (e0 : g 0 3 = h0 0 3) (e1 : g 1 0 = h0 1 0) (e2 : g 1 5 = h0 1 5) (e3 : g 42 2 = h0 42 2), True → Sf (k v5 g) Q)  : ∀ (n : Nat) (v5 : Int32) (v6 : Int32) (h : dH) (I_h : InvC h) (e0 : h 0 3 = h0 0 3) (e1 : h 1 0 = h0 1 0) (e2 : h 1 5 = h0 1 5) (e3 : h 42 2 = h0 42 2), 0 ≤ v6.toInt ∧ v6.toInt ≤ 20 → 20 - v6.toInt < (n : Int) → Sf (l_X6_chance_36 v1 v2 v3 k n v5 v6 h) Q
  | 0, v5, v6, h, I_h, e0, e1, e2, e3, hi, hm => by omega
  | n + 1, v5, v6, h, I_h, e0, e1, e2, e3, hi, hm => by
    rw [l_X6_chance_36]
    have yx1 := congrArg Int32.toInt e0
    have yx2 := congrArg Int32.toInt e1
    have yx3 := congrArg Int32.toInt e2
    have yx4 := congrArg Int32.toInt e3
    refine sf_ite (fun c11 => ?_) (fun c12 => ?_)
    · skip
      try have tx5 : (v1 + v6).toInt = v1.toInt + v6.toInt := i_add rfl rfl (by omega) (by omega)
      have tx6 : (3 : Int32).toInt = 3 := by decide
      refine sf_oI (s_X6_friendsDrawn h I_h (v1 + v6) (3 : Int32) (by omega)) (fun r13 g14 pg14 => ?_)
      obtain ⟨I_g14, ex7, ex8, ex9, ex10, qg14⟩ := pg14
      try simp only at I_g14 ex7 ex8 ex9 ex10 qg14
      have yx11 := congrArg Int32.toInt ex7
      have yx12 := congrArg Int32.toInt ex8
      have yx13 := congrArg Int32.toInt ex9
      have yx14 := congrArg Int32.toInt ex10
      refine sf_ite (fun c15 => ?_) (fun c16 => ?_)
      · skip
        try have tx15 : (v6 + 1).toInt = v6.toInt + 1 := i_add rfl (by decide) (by omega) (by omega)
        exact sl_X6_chance_36  v1 v2 v3  h0 I_h0 r_v2 rn0 k Q hk n v5 (v6 + 1) g14 I_g14 (ex7.trans e0) (ex8.trans e1) (ex9.trans e2) (ex10.trans e3) (by first | trivial | omega) (by omega)
      · skip
        try have tx16 : (v5 + 1).toInt = v5.toInt + 1 := i_add rfl (by decide) (by omega) (by omega)
        try have tx17 : (v6 + 1).toInt = v6.toInt + 1 := i_add rfl (by decide) (by omega) (by omega)
        exact sl_X6_chance_36  v1 v2 v3  h0 I_h0 r_v2 rn0 k Q hk n (v5 + 1) (v6 + 1) g14 I_g14 (ex7.trans e0) (ex8.trans e1) (ex9.trans e2) (ex10.trans e3) (by first | trivial | omega) (by omega)
    · skip
      exact hk v5 h I_h e0 e1 e2 e3 (by first | trivial | omega)
theorem s_X6_chance (h : dH) (I_h : InvC h) (v1 : Int32) (v2 : Int32) (v3 : Int32) (v4 : Int32)  : Sf (f_X6_chance v1 v2 v3 v4 h) (fun o => InvC o.2 ∧ o.2 0 3 = h 0 3 ∧ o.2 1 0 = h 1 0 ∧ o.2 1 5 = h 1 5 ∧ o.2 42 2 = h 42 2 ∧ True) := by
  unfold f_X6_chance
  have u_v1 := Int32.toInt_lt v1
  have w_v1 := Int32.le_toInt v1
  have u_v2 := Int32.toInt_lt v2
  have w_v2 := Int32.le_toInt v2
  have u_v3 := Int32.toInt_lt v3
  have w_v3 := Int32.le_toInt v3
  have u_v4 := Int32.toInt_lt v4
  have w_v4 := Int32.le_toInt v4
  refine sf_ite (fun c1 => ?_) (fun c2 => ?_)
  · skip
    exact sf_some (⟨I_h, rfl, rfl, rfl, rfl, trivial⟩)
  · skip
    refine sf_ite (fun c3 => ?_) (fun c4 => ?_)
    · skip
      exact sf_some (⟨I_h, rfl, rfl, rfl, rfl, trivial⟩)
    · skip
      refine sf_oP (s_X6_isFriends h I_h v3) (fun r5 pr5 => ?_)
      refine sf_ite (fun c6 => ?_) (fun c7 => ?_)
      · skip
        exact sf_some (⟨I_h, rfl, rfl, rfl, rfl, trivial⟩)
      · skip
        refine sf_oP (s_X6_isEither h I_h v4) (fun r8 pr8 => ?_)
        refine sf_ite (fun c9 => ?_) (fun c10 => ?_)
        · skip
          exact sf_some (⟨I_h, rfl, rfl, rfl, rfl, trivial⟩)
        · skip
          have tx18 : (0 : Int32).toInt = 0 := by decide
          refine sl_X6_chance_36 v1 v2 v3  h I_h (by omega) (by omega) _ _ (fun v5_17 g19 I_g19 eg19_0 eg19_1 eg19_2 eg19_3 px19 => ?_)  fuel0 (0 : Int32) (0 : Int32) h I_h rfl rfl rfl rfl (by first | trivial | omega) (by have := fuel0_eq; omega)
          have yx20 := congrArg Int32.toInt eg19_0
          have yx21 := congrArg Int32.toInt eg19_1
          have yx22 := congrArg Int32.toInt eg19_2
          have yx23 := congrArg Int32.toInt eg19_3
          refine sf_oP (s_X6_commonDivisor g19 I_g19 v5_17 v2 (by omega)) (fun r20 pr20 => ?_)
          refine sf_ite (fun c21 => ?_) (fun c22 => ?_)
          · skip
            refine sf_guard (i_ne0 (by omega)) (fun c23 => ?_)
            exact sf_some (⟨I_g19, eg19_0, eg19_1, eg19_2, eg19_3, trivial⟩)
          · skip
            refine sf_guard (i_ne0 (by omega)) (fun c24 => ?_)
            exact sf_some (⟨I_g19, eg19_0, eg19_1, eg19_2, eg19_3, trivial⟩)
theorem s_X6_image (h : dH) (I_h : InvC h)   : Sf (f_X6_image  h) (fun o => InvC o.2 ∧ o.2 0 3 = h 0 3 ∧ o.2 1 0 = h 1 0 ∧ o.2 1 5 = h 1 5 ∧ o.2 42 2 = h 42 2 ∧ True) := by
  unfold f_X6_image
  refine sf_oV (s_X3_become h I_h 71 zS71 43 zS43) (fun g1 pg1 => ?_)
  obtain ⟨I_g1, ex1, ex2, ex3, ex4, qg1⟩ := pg1
  try simp only at I_g1 ex1 ex2 ex3 ex4 qg1
  have yx5 := congrArg Int32.toInt ex1
  have yx6 := congrArg Int32.toInt ex2
  have yx7 := congrArg Int32.toInt ex3
  have yx8 := congrArg Int32.toInt ex4
  refine sf_oH (fun g2 hg2 => ?_)
  have I_g2 : InvC g2 := by rw [hg2]; exact inv_free I_g1 rfl
  have ex9 : g2 0 3 = g1 0 3 := by rw [hg2]; exact dU_ne (by omega)
  have yx10 := congrArg Int32.toInt ex9
  have ex11 : g2 1 0 = g1 1 0 := by rw [hg2]; exact dU_ne (by omega)
  have yx12 := congrArg Int32.toInt ex11
  have ex13 : g2 1 5 = g1 1 5 := by rw [hg2]; exact dU_ne (by omega)
  have yx14 := congrArg Int32.toInt ex13
  have ex15 : g2 42 2 = g1 42 2 := by rw [hg2]; exact dU_ne (by omega)
  have yx16 := congrArg Int32.toInt ex15
  have ex17 : g2 43 2 = g1 43 2 := by rw [hg2]; exact dU_ne (by omega)
  have yx18 := congrArg Int32.toInt ex17
  have yx19 : (g2 0 7).toInt = 1 := by rw [hg2, dU_eq]; decide
  exact sf_some (⟨I_g2, (ex9.trans ex1), (ex11.trans ex2), (ex13.trans ex3), (ex15.trans ex4), trivial⟩)
theorem s_X6_back (h : dH) (I_h : InvC h)   : Sf (f_X6_back  h) (fun o => InvC o.2 ∧ o.2 0 3 = h 0 3 ∧ o.2 1 0 = h 1 0 ∧ o.2 1 5 = h 1 5 ∧ o.2 42 2 = h 42 2 ∧ True) := by
  unfold f_X6_back
  refine sf_ite (fun c1 => ?_) (fun c2 => ?_)
  · skip
    exact sf_some (⟨I_h, rfl, rfl, rfl, rfl, trivial⟩)
  · skip
    refine sf_oV (s_X3_become h I_h 43 zS43 71 zS71) (fun g3 pg3 => ?_)
    obtain ⟨I_g3, ex1, ex2, ex3, ex4, qg3⟩ := pg3
    try simp only at I_g3 ex1 ex2 ex3 ex4 qg3
    have yx5 := congrArg Int32.toInt ex1
    have yx6 := congrArg Int32.toInt ex2
    have yx7 := congrArg Int32.toInt ex3
    have yx8 := congrArg Int32.toInt ex4
    exact sf_some (⟨I_g3, ex1, ex2, ex3, ex4, trivial⟩)
theorem s_X6_count (h : dH) (I_h : InvC h) (v1 : Int32)  : Sf (f_X6_count v1 h) (fun r => True) := by
  unfold f_X6_count
  have u_v1 := Int32.toInt_lt v1
  have w_v1 := Int32.le_toInt v1
  refine sf_ite (fun c1 => ?_) (fun c2 => ?_)
  · skip
    exact sf_some (trivial)
  · skip
    refine sf_ite (fun c3 => ?_) (fun c4 => ?_)
    · skip
      refine sf_oP (s_X3_seated h I_h 43 zS43) (fun r5 pr5 => ?_)
      exact sf_some (trivial)
    · skip
      refine sf_ite (fun c6 => ?_) (fun c7 => ?_)
      · skip
        exact sf_some (trivial)
      · skip
        refine sf_ite (fun c8 => ?_) (fun c9 => ?_)
        · skip
          exact sf_some (trivial)
        · skip
          refine sf_ite (fun c10 => ?_) (fun c11 => ?_)
          · skip
            exact sf_some (trivial)
          · skip
            refine sf_ite (fun c12 => ?_) (fun c13 => ?_)
            · skip
              exact sf_some (trivial)
            · skip
              exact sf_some (trivial)
theorem s_X6_isSort (h : dH) (I_h : InvC h) (v0 : Int32)  : Sf (f_X6_isSort v0) (fun r => r.toInt = 0 ∨ (0 ≤ v0.toInt ∧ v0.toInt < 3)) := by
  unfold f_X6_isSort
  have u_v0 := Int32.toInt_lt v0
  have w_v0 := Int32.le_toInt v0
  refine sf_ite (fun c1 => ?_) (fun c2 => ?_)
  · skip
    have tx1 : (0 : Int32).toInt = 0 := by decide
    exact sf_some ((show (0 : Int32).toInt = 0 ∨ (0 ≤ v0.toInt ∧ v0.toInt < 3) by omega))
  · skip
    refine sf_ite (fun c3 => ?_) (fun c4 => ?_)
    · skip
      have tx2 : (1 : Int32).toInt = 1 := by decide
      exact sf_some ((show (1 : Int32).toInt = 0 ∨ (0 ≤ v0.toInt ∧ v0.toInt < 3) by omega))
    · skip
      have tx3 : (0 : Int32).toInt = 0 := by decide
      exact sf_some ((show (0 : Int32).toInt = 0 ∨ (0 ≤ v0.toInt ∧ v0.toInt < 3) by omega))
theorem s_X6_sheet (h : dH) (I_h : InvC h) (v1 : Int32) (v2 : Int32) (v3 : Int32)  : Sf (f_X6_sheet v1 v2 v3 h) (fun o => InvC o.2 ∧ o.2 0 3 = h 0 3 ∧ o.2 1 0 = h 1 0 ∧ o.2 1 5 = h 1 5 ∧ o.2 42 2 = h 42 2 ∧ o.2 43 2 = h 43 2 ∧ True) := by
  unfold f_X6_sheet
  have u_v1 := Int32.toInt_lt v1
  have w_v1 := Int32.le_toInt v1
  have u_v2 := Int32.toInt_lt v2
  have w_v2 := Int32.le_toInt v2
  have u_v3 := Int32.toInt_lt v3
  have w_v3 := Int32.le_toInt v3
  refine sf_oP (s_X6_isSheet h I_h v1) (fun r1 pr1 => ?_)
  refine sf_ite (fun c2 => ?_) (fun c3 => ?_)
  · skip
    exact sf_some (⟨I_h, rfl, rfl, rfl, rfl, rfl, trivial⟩)
  · skip
    refine sf_ite (fun c4 => ?_) (fun c5 => ?_)
    · skip
      refine sf_ite (fun c6 => ?_) (fun c7 => ?_)
      · skip
        refine sf_guard (by omega) (fun c8 => ?_)
        have tx1 : ((-1) : Int32).toInt = (-1) := by decide
        have tx2 : (0 : Int32).toInt = 0 := by decide
        refine sf_oV (s_X2_lay h I_h (34 + 2 * v1.toInt.toNat) (zW4 (by omega : v1.toInt.toNat < 4)) ((-1) : Int32) (0 : Int32) (by omega)) (fun g9 pg9 => ?_)
        obtain ⟨I_g9, ex3, ex4, ex5, ex6, ex7, qg9⟩ := pg9
        try simp only at I_g9 ex3 ex4 ex5 ex6 ex7 qg9
        have yx8 := congrArg Int32.toInt ex3
        have yx9 := congrArg Int32.toInt ex4
        have yx10 := congrArg Int32.toInt ex5
        have yx11 := congrArg Int32.toInt ex6
        have yx12 := congrArg Int32.toInt ex7
        exact sf_some (⟨I_g9, ex3, ex4, ex5, ex6, ex7, trivial⟩)
      · skip
        refine sf_ite (fun c10 => ?_) (fun c11 => ?_)
        · skip
          exact sf_some (⟨I_h, rfl, rfl, rfl, rfl, rfl, trivial⟩)
        · skip
          refine sf_ite (fun c12 => ?_) (fun c13 => ?_)
          · skip
            exact sf_some (⟨I_h, rfl, rfl, rfl, rfl, rfl, trivial⟩)
          · skip
            refine sf_guard (by omega) (fun c14 => ?_)
            refine sf_oV (s_X2_lay h I_h (34 + 2 * v1.toInt.toNat) (zW4 (by omega : v1.toInt.toNat < 4)) v2 v3 (by omega)) (fun g15 pg15 => ?_)
            obtain ⟨I_g15, ex13, ex14, ex15, ex16, ex17, qg15⟩ := pg15
            try simp only at I_g15 ex13 ex14 ex15 ex16 ex17 qg15
            have yx18 := congrArg Int32.toInt ex13
            have yx19 := congrArg Int32.toInt ex14
            have yx20 := congrArg Int32.toInt ex15
            have yx21 := congrArg Int32.toInt ex16
            have yx22 := congrArg Int32.toInt ex17
            exact sf_some (⟨I_g15, ex13, ex14, ex15, ex16, ex17, trivial⟩)
    · skip
      refine sf_oP (s_X6_isSort h I_h v2) (fun r16 pr16 => ?_)
      refine sf_ite (fun c17 => ?_) (fun c18 => ?_)
      · skip
        exact sf_some (⟨I_h, rfl, rfl, rfl, rfl, rfl, trivial⟩)
      · skip
        refine sf_ite (fun c19 => ?_) (fun c20 => ?_)
        · skip
          refine sf_guard (by omega) (fun c21 => ?_)
          have tx23 : ((-1) : Int32).toInt = (-1) := by decide
          have tx24 : (0 : Int32).toInt = 0 := by decide
          refine sf_oV (s_X2_lay h I_h (34 + 2 * v1.toInt.toNat) (zW4 (by omega : v1.toInt.toNat < 4)) ((-1) : Int32) (0 : Int32) (by omega)) (fun g22 pg22 => ?_)
          obtain ⟨I_g22, ex25, ex26, ex27, ex28, ex29, qg22⟩ := pg22
          try simp only at I_g22 ex25 ex26 ex27 ex28 ex29 qg22
          have yx30 := congrArg Int32.toInt ex25
          have yx31 := congrArg Int32.toInt ex26
          have yx32 := congrArg Int32.toInt ex27
          have yx33 := congrArg Int32.toInt ex28
          have yx34 := congrArg Int32.toInt ex29
          exact sf_some (⟨I_g22, ex25, ex26, ex27, ex28, ex29, trivial⟩)
        · skip
          refine sf_ite (fun c23 => ?_) (fun c24 => ?_)
          · skip
            exact sf_some (⟨I_h, rfl, rfl, rfl, rfl, rfl, trivial⟩)
          · skip
            refine sf_ite (fun c25 => ?_) (fun c26 => ?_)
            · skip
              exact sf_some (⟨I_h, rfl, rfl, rfl, rfl, rfl, trivial⟩)
            · skip
              refine sf_guard (by omega) (fun c27 => ?_)
              refine sf_oV (s_X2_lay h I_h (34 + 2 * v1.toInt.toNat) (zW4 (by omega : v1.toInt.toNat < 4)) v2 v3 (by omega)) (fun g28 pg28 => ?_)
              obtain ⟨I_g28, ex35, ex36, ex37, ex38, ex39, qg28⟩ := pg28
              try simp only at I_g28 ex35 ex36 ex37 ex38 ex39 qg28
              have yx40 := congrArg Int32.toInt ex35
              have yx41 := congrArg Int32.toInt ex36
              have yx42 := congrArg Int32.toInt ex37
              have yx43 := congrArg Int32.toInt ex38
              have yx44 := congrArg Int32.toInt ex39
              exact sf_some (⟨I_g28, ex35, ex36, ex37, ex38, ex39, trivial⟩)
theorem s_X6_cell (h : dH) (I_h : InvC h) (v1 : Int32) (v2 : Int32) (v3 : Int32)  : Sf (f_X6_cell v1 v2 v3 h) (fun o => InvC o.2 ∧ o.2 0 3 = h 0 3 ∧ o.2 1 0 = h 1 0 ∧ o.2 1 5 = h 1 5 ∧ o.2 42 2 = h 42 2 ∧ o.2 43 2 = h 43 2 ∧ True) := by
  unfold f_X6_cell
  have u_v1 := Int32.toInt_lt v1
  have w_v1 := Int32.le_toInt v1
  have u_v2 := Int32.toInt_lt v2
  have w_v2 := Int32.le_toInt v2
  have u_v3 := Int32.toInt_lt v3
  have w_v3 := Int32.le_toInt v3
  refine sf_oP (s_X6_isSheet h I_h v1) (fun r1 pr1 => ?_)
  refine sf_ite (fun c2 => ?_) (fun c3 => ?_)
  · skip
    exact sf_some (⟨I_h, rfl, rfl, rfl, rfl, rfl, trivial⟩)
  · skip
    refine sf_guard (by omega) (fun c4 => ?_)
    refine sf_oP (s_X2_isMissing h I_h (34 + 2 * v1.toInt.toNat) (zW4 (by omega : v1.toInt.toNat < 4))) (fun r5 pr5 => ?_)
    refine sf_ite (fun c6 => ?_) (fun c7 => ?_)
    · skip
      have tx1 : (1 : Int32).toInt = 1 := by decide
      refine sf_oP (s_X2_holds h I_h (34 + 2 * v1.toInt.toNat) (zW4 (by omega : v1.toInt.toNat < 4)) v2 (1 : Int32)) (fun r8 pr8 => ?_)
      refine sf_ite (fun c9 => ?_) (fun c10 => ?_)
      · skip
        exact sf_some (⟨I_h, rfl, rfl, rfl, rfl, rfl, trivial⟩)
      · skip
        refine sf_oV (s_X2_put h I_h (34 + 2 * v1.toInt.toNat) (zW4 (by omega : v1.toInt.toNat < 4)) v2 v3 (by omega)) (fun g11 pg11 => ?_)
        obtain ⟨I_g11, ex2, ex3, ex4, ex5, ex6, qg11⟩ := pg11
        try simp only at I_g11 ex2 ex3 ex4 ex5 ex6 qg11
        have yx7 := congrArg Int32.toInt ex2
        have yx8 := congrArg Int32.toInt ex3
        have yx9 := congrArg Int32.toInt ex4
        have yx10 := congrArg Int32.toInt ex5
        have yx11 := congrArg Int32.toInt ex6
        exact sf_some (⟨I_g11, ex2, ex3, ex4, ex5, ex6, trivial⟩)
    · skip
      exact sf_some (⟨I_h, rfl, rfl, rfl, rfl, rfl, trivial⟩)
theorem s_X6_copy (h : dH) (I_h : InvC h) (v1 : Int32) (v2 : Int32) (v3 : Int32) (v4 : Int32) (v5 : Int32)  : Sf (f_X6_copy v1 v2 v3 v4 v5 h) (fun o => InvC o.2 ∧ o.2 0 3 = h 0 3 ∧ o.2 1 0 = h 1 0 ∧ o.2 1 5 = h 1 5 ∧ o.2 42 2 = h 42 2 ∧ o.2 43 2 = h 43 2 ∧ True) := by
  unfold f_X6_copy
  have u_v1 := Int32.toInt_lt v1
  have w_v1 := Int32.le_toInt v1
  have u_v2 := Int32.toInt_lt v2
  have w_v2 := Int32.le_toInt v2
  have u_v3 := Int32.toInt_lt v3
  have w_v3 := Int32.le_toInt v3
  have u_v4 := Int32.toInt_lt v4
  have w_v4 := Int32.le_toInt v4
  have u_v5 := Int32.toInt_lt v5
  have w_v5 := Int32.le_toInt v5
  refine sf_oP (s_X6_isSheet h I_h v1) (fun r1 pr1 => ?_)
  refine sf_ite (fun c2 => ?_) (fun c3 => ?_)
  · skip
    exact sf_some (⟨I_h, rfl, rfl, rfl, rfl, rfl, trivial⟩)
  · skip
    refine sf_oP (s_X6_isSheet h I_h v3) (fun r4 pr4 => ?_)
    refine sf_ite (fun c5 => ?_) (fun c6 => ?_)
    · skip
      exact sf_some (⟨I_h, rfl, rfl, rfl, rfl, rfl, trivial⟩)
    · skip
      refine sf_guard (by omega) (fun c7 => ?_)
      refine sf_guard (by omega) (fun c8 => ?_)
      refine sf_oP (s_X2_isMissing h I_h (34 + 2 * v1.toInt.toNat) (zW4 (by omega : v1.toInt.toNat < 4))) (fun r9 pr9 => ?_)
      refine sf_ite (fun c10 => ?_) (fun c11 => ?_)
      · skip
        refine sf_oP (s_X2_isMissing h I_h (34 + 2 * v3.toInt.toNat) (zW4 (by omega : v3.toInt.toNat < 4))) (fun r12 pr12 => ?_)
        refine sf_ite (fun c13 => ?_) (fun c14 => ?_)
        · skip
          refine sf_ite (fun c15 => ?_) (fun c16 => ?_)
          · skip
            refine sf_oP (s_X2_holds h I_h (34 + 2 * v1.toInt.toNat) (zW4 (by omega : v1.toInt.toNat < 4)) v2 v5) (fun r17 pr17 => ?_)
            refine sf_ite (fun c18 => ?_) (fun c19 => ?_)
            · skip
              exact sf_some (⟨I_h, rfl, rfl, rfl, rfl, rfl, trivial⟩)
            · skip
              refine sf_oP (s_X2_holds h I_h (34 + 2 * v3.toInt.toNat) (zW4 (by omega : v3.toInt.toNat < 4)) v4 v5) (fun r20 pr20 => ?_)
              refine sf_ite (fun c21 => ?_) (fun c22 => ?_)
              · skip
                exact sf_some (⟨I_h, rfl, rfl, rfl, rfl, rfl, trivial⟩)
              · skip
                refine sf_guard (by omega) (fun c24 => ?_)
                refine sf_oH (fun g23 hg23 => ?_)
                have I_g23 : InvC g23 := by rw [hg23]; exact inv_cpy I_h (fun k => (fW1 (zW4 (by omega : v3.toInt.toNat < 4))))
                have ex1 : g23 0 3 = h 0 3 := by rw [hg23]; exact dcopy_ne (by omega)
                have yx2 := congrArg Int32.toInt ex1
                have ex3 : g23 1 0 = h 1 0 := by rw [hg23]; exact dcopy_ne (by omega)
                have yx4 := congrArg Int32.toInt ex3
                have ex5 : g23 1 5 = h 1 5 := by rw [hg23]; exact dcopy_ne (by omega)
                have yx6 := congrArg Int32.toInt ex5
                have ex7 : g23 42 2 = h 42 2 := by rw [hg23]; exact dcopy_ne (by omega)
                have yx8 := congrArg Int32.toInt ex7
                have ex9 : g23 43 2 = h 43 2 := by rw [hg23]; exact dcopy_ne (by omega)
                have yx10 := congrArg Int32.toInt ex9
                exact sf_some (⟨I_g23, ex1, ex3, ex5, ex7, ex9, trivial⟩)
          · skip
            exact sf_some (⟨I_h, rfl, rfl, rfl, rfl, rfl, trivial⟩)
        · skip
          exact sf_some (⟨I_h, rfl, rfl, rfl, rfl, rfl, trivial⟩)
      · skip
        exact sf_some (⟨I_h, rfl, rfl, rfl, rfl, rfl, trivial⟩)
theorem sl_X6_houses_74 (v3 : Int32) (v4 : Int32) (a5 : Nat) (ha5 : zW a5) (h0 : dH) (I_h0 : InvC h0) (r_v4 : 0 ≤ v4.toInt ∧ v4.toInt ≤ 8) (rn0 : v4.toInt ≤ 8) (k : Int32 → dH → Option (Int32 × dH)) (Q : Int32 × dH → Prop) (hk : ∀ (v6 : Int32) (g : dH) (Ig : InvC g) (e0 : g 0 3 = h0 0 3) (e1 : g 1 0 = h0 1 0) (e2 : g 1 5 = h0 1 5) (e3 : g 42 2 = h0 42 2), True → Sf (k v6 g) Q) (hQ : ∀ o, InvC o.2 ∧ o.2 0 3 = h0 0 3 ∧ o.2 1 0 = h0 1 0 ∧ o.2 1 5 = h0 1 5 ∧ o.2 42 2 = h0 42 2 ∧ True → Q o) : ∀ (n : Nat) (v6 : Int32) (v7 : Int32) (h : dH) (I_h : InvC h) (e0 : h 0 3 = h0 0 3) (e1 : h 1 0 = h0 1 0) (e2 : h 1 5 = h0 1 5) (e3 : h 42 2 = h0 42 2), 0 ≤ v7.toInt ∧ v7.toInt ≤ 8 → 8 - v7.toInt < (n : Int) → Sf (l_X6_houses_74 v3 v4 a5 k n v6 v7 h) Q
  | 0, v6, v7, h, I_h, e0, e1, e2, e3, hi, hm => by omega
  | n + 1, v6, v7, h, I_h, e0, e1, e2, e3, hi, hm => by
    rw [l_X6_houses_74]
    have yx1 := congrArg Int32.toInt e0
    have yx2 := congrArg Int32.toInt e1
    have yx3 := congrArg Int32.toInt e2
    have yx4 := congrArg Int32.toInt e3
    have z_a5 : a5 = 34 ∨ a5 = 36 ∨ a5 = 38 ∨ a5 = 40 := ha5
    refine sf_ite (fun c20 => ?_) (fun c21 => ?_)
    · skip
      try have tx5 : (2 * v7).toInt = 2 * v7.toInt := i_mul (by decide) rfl (by omega) (by omega)
      try have tx6 : (v3 + (2 * v7)).toInt = v3.toInt + (2 * v7).toInt := i_add rfl rfl (by omega) (by omega)
      have tx7 : (2 : Int32).toInt = 2 := by decide
      refine sf_oP (s_X2_holds h I_h a5 ha5 (v3 + (2 * v7)) (2 : Int32)) (fun r22 pr22 => ?_)
      refine sf_ite (fun c23 => ?_) (fun c24 => ?_)
      · skip
        exact sf_some (hQ _ ⟨I_h, e0, e1, e2, e3, trivial⟩)
      · skip
        refine sf_guard (by omega) (fun c25 => ?_)
        try have tx8 : ((v3 + (2 * v7)) + 1).toInt = (v3 + (2 * v7)).toInt + 1 := i_add rfl (by decide) (by omega) (by omega)
        refine sf_guard (by omega) (fun c26 => ?_)
        refine sf_oI (s_X6_settle h I_h (h (a5 + 1) ((v3 + (2 * v7)).toInt.toNat)) (h (a5 + 1) (((v3 + (2 * v7)) + 1).toInt.toNat))) (fun r27 g28 pg28 => ?_)
        obtain ⟨I_g28, ex9, ex10, ex11, ex12, qg28⟩ := pg28
        try simp only at I_g28 ex9 ex10 ex11 ex12 qg28
        have yx13 := congrArg Int32.toInt ex9
        have yx14 := congrArg Int32.toInt ex10
        have yx15 := congrArg Int32.toInt ex11
        have yx16 := congrArg Int32.toInt ex12
        refine sf_ite (fun c29 => ?_) (fun c30 => ?_)
        · skip
          try have tx17 : (v7 + 1).toInt = v7.toInt + 1 := i_add rfl (by decide) (by omega) (by omega)
          exact sl_X6_houses_74  v3 v4 a5 ha5 h0 I_h0 r_v4 rn0 k Q hk hQ n v6 (v7 + 1) g28 I_g28 (ex9.trans e0) (ex10.trans e1) (ex11.trans e2) (ex12.trans e3) (by first | trivial | omega) (by omega)
        · skip
          try have tx18 : (v6 + 1).toInt = v6.toInt + 1 := i_add rfl (by decide) (by omega) (by omega)
          try have tx19 : (v7 + 1).toInt = v7.toInt + 1 := i_add rfl (by decide) (by omega) (by omega)
          exact sl_X6_houses_74  v3 v4 a5 ha5 h0 I_h0 r_v4 rn0 k Q hk hQ n (v6 + 1) (v7 + 1) g28 I_g28 (ex9.trans e0) (ex10.trans e1) (ex11.trans e2) (ex12.trans e3) (by first | trivial | omega) (by omega)
    · skip
      exact hk v6 h I_h e0 e1 e2 e3 (by first | trivial | omega)
theorem s_X6_houses (h : dH) (I_h : InvC h) (v1 : Int32) (v2 : Int32) (v3 : Int32) (v4 : Int32)  : Sf (f_X6_houses v1 v2 v3 v4 h) (fun o => InvC o.2 ∧ o.2 0 3 = h 0 3 ∧ o.2 1 0 = h 1 0 ∧ o.2 1 5 = h 1 5 ∧ o.2 42 2 = h 42 2 ∧ True) := by
  unfold f_X6_houses
  have u_v1 := Int32.toInt_lt v1
  have w_v1 := Int32.le_toInt v1
  have u_v2 := Int32.toInt_lt v2
  have w_v2 := Int32.le_toInt v2
  have u_v3 := Int32.toInt_lt v3
  have w_v3 := Int32.le_toInt v3
  have u_v4 := Int32.toInt_lt v4
  have w_v4 := Int32.le_toInt v4
  refine sf_oP (s_X6_isSheet h I_h v1) (fun r1 pr1 => ?_)
  refine sf_ite (fun c2 => ?_) (fun c3 => ?_)
  · skip
    exact sf_some (⟨I_h, rfl, rfl, rfl, rfl, trivial⟩)
  · skip
    refine sf_oP (s_X6_isSort h I_h v2) (fun r4 pr4 => ?_)
    refine sf_ite (fun c5 => ?_) (fun c6 => ?_)
    · skip
      exact sf_some (⟨I_h, rfl, rfl, rfl, rfl, trivial⟩)
    · skip
      refine sf_ite (fun c7 => ?_) (fun c8 => ?_)
      · skip
        exact sf_some (⟨I_h, rfl, rfl, rfl, rfl, trivial⟩)
      · skip
        refine sf_ite (fun c9 => ?_) (fun c10 => ?_)
        · skip
          exact sf_some (⟨I_h, rfl, rfl, rfl, rfl, trivial⟩)
        · skip
          refine sf_guard (by omega) (fun c11 => ?_)
          refine sf_oP (s_X2_isMissing h I_h (34 + 2 * v1.toInt.toNat) (zW4 (by omega : v1.toInt.toNat < 4))) (fun r12 pr12 => ?_)
          refine sf_ite (fun c13 => ?_) (fun c14 => ?_)
          · skip
            refine sf_ite (fun c15 => ?_) (fun c16 => ?_)
            · skip
              refine sf_oP (s_X2_isMissing h I_h (34 + 2 * v1.toInt.toNat) (zW4 (by omega : v1.toInt.toNat < 4))) (fun r17 pr17 => ?_)
              refine sf_ite (fun c18 => ?_) (fun c19 => ?_)
              · skip
                have tx20 : (0 : Int32).toInt = 0 := by decide
                refine sl_X6_houses_74 v3 v4 (34 + 2 * v1.toInt.toNat) (zW4 (by omega : v1.toInt.toNat < 4)) h I_h (by omega) (by omega) _ _ (fun v6_31 g34 I_g34 eg34_0 eg34_1 eg34_2 eg34_3 px21 => ?_) (fun o ho => ⟨ho.1, (ho.2.1.trans rfl), (ho.2.2.1.trans rfl), (ho.2.2.2.1.trans rfl), (ho.2.2.2.2.1.trans rfl), trivial⟩) fuel0 (0 : Int32) (0 : Int32) h I_h rfl rfl rfl rfl (by first | trivial | omega) (by have := fuel0_eq; omega)
                have yx22 := congrArg Int32.toInt eg34_0
                have yx23 := congrArg Int32.toInt eg34_1
                have yx24 := congrArg Int32.toInt eg34_2
                have yx25 := congrArg Int32.toInt eg34_3
                exact sf_some (⟨I_g34, eg34_0, eg34_1, eg34_2, eg34_3, trivial⟩)
              · skip
                exact sf_some (⟨I_h, rfl, rfl, rfl, rfl, trivial⟩)
            · skip
              exact sf_some (⟨I_h, rfl, rfl, rfl, rfl, trivial⟩)
          · skip
            refine sf_oP (s_X2_isMissing h I_h (34 + 2 * v1.toInt.toNat) (zW4 (by omega : v1.toInt.toNat < 4))) (fun r35 pr35 => ?_)
            refine sf_ite (fun c36 => ?_) (fun c37 => ?_)
            · skip
              have tx26 : (0 : Int32).toInt = 0 := by decide
              refine sl_X6_houses_74 v3 v4 (34 + 2 * v1.toInt.toNat) (zW4 (by omega : v1.toInt.toNat < 4)) h I_h (by omega) (by omega) _ _ (fun v6_38 g41 I_g41 eg41_0 eg41_1 eg41_2 eg41_3 px27 => ?_) (fun o ho => ⟨ho.1, (ho.2.1.trans rfl), (ho.2.2.1.trans rfl), (ho.2.2.2.1.trans rfl), (ho.2.2.2.2.1.trans rfl), trivial⟩) fuel0 (0 : Int32) (0 : Int32) h I_h rfl rfl rfl rfl (by first | trivial | omega) (by have := fuel0_eq; omega)
              have yx28 := congrArg Int32.toInt eg41_0
              have yx29 := congrArg Int32.toInt eg41_1
              have yx30 := congrArg Int32.toInt eg41_2
              have yx31 := congrArg Int32.toInt eg41_3
              exact sf_some (⟨I_g41, eg41_0, eg41_1, eg41_2, eg41_3, trivial⟩)
            · skip
              exact sf_some (⟨I_h, rfl, rfl, rfl, rfl, trivial⟩)
theorem sl_X6_isUnder_4 (v1 : Int32)  (h : dH) (I_h : InvC h)  (k : Option (Int32)) (Q : Int32 → Prop) (hk : True → Sf (k ) Q) (hQ : ∀ o, True → Q o) : ∀ (n : Nat) (v2 : Int32) (v3 : Int32), 0 ≤ v3.toInt ∧ v3.toInt ≤ 6 → 6 - v3.toInt < (n : Int) → Sf (l_X6_isUnder_4 v1 k n v2 v3) Q
  | 0, v2, v3, hi, hm => by omega
  | n + 1, v2, v3, hi, hm => by
    rw [l_X6_isUnder_4]
    refine sf_ite (fun c1 => ?_) (fun c2 => ?_)
    · skip
      refine sf_ite (fun c3 => ?_) (fun c4 => ?_)
      · skip
        exact hk  (by first | trivial | omega)
      · skip
        refine sf_ite (fun c5 => ?_) (fun c6 => ?_)
        · skip
          refine sf_ite (fun c7 => ?_) (fun c8 => ?_)
          · skip
            exact sf_some (hQ _ trivial)
          · skip
            refine sf_guard (by omega) (fun c9 => ?_)
            try have tx1 : (v3 + 1).toInt = v3.toInt + 1 := i_add rfl (by decide) (by omega) (by omega)
            exact sl_X6_isUnder_4  v1  h I_h  k Q hk hQ n (dtab 0 (v2.toInt.toNat)) (v3 + 1) (by first | trivial | omega) (by omega)
        · skip
          exact hk  (by first | trivial | omega)
    · skip
      exact hk  (by first | trivial | omega)
theorem s_X6_isUnder (h : dH) (I_h : InvC h) (v0 : Int32) (v1 : Int32)  : Sf (f_X6_isUnder v0 v1) (fun r => True) := by
  unfold f_X6_isUnder
  have u_v0 := Int32.toInt_lt v0
  have w_v0 := Int32.le_toInt v0
  have u_v1 := Int32.toInt_lt v1
  have w_v1 := Int32.le_toInt v1
  have tx2 : (0 : Int32).toInt = 0 := by decide
  refine sl_X6_isUnder_4 v1  h I_h  _ _ (fun  px3 => ?_) (fun _ h => h) fuel0 v0 (0 : Int32)  (by first | trivial | omega) (by have := fuel0_eq; omega)
  exact sf_some (trivial)
theorem s_X6_taken (h : dH) (I_h : InvC h) (v1 : Int32) (v2 : Int32)  : Sf (f_X6_taken v1 v2 h) (fun r => True) := by
  unfold f_X6_taken
  have u_v1 := Int32.toInt_lt v1
  have w_v1 := Int32.le_toInt v1
  have u_v2 := Int32.toInt_lt v2
  have w_v2 := Int32.le_toInt v2
  refine sf_ite (fun c1 => ?_) (fun c2 => ?_)
  · skip
    exact sf_some (trivial)
  · skip
    refine sf_ite (fun c3 => ?_) (fun c4 => ?_)
    · skip
      refine sf_oP (s_X6_isHouse h I_h v1) (fun r5 pr5 => ?_)
      refine sf_ite (fun c6 => ?_) (fun c7 => ?_)
      · skip
        exact sf_some (trivial)
      · skip
        refine sf_guard (by omega) (fun c8 => ?_)
        refine sf_oP (s_X6_isUnder h I_h (h (43 + 1) (v1.toInt.toNat)) v2) (fun r9 pr9 => ?_)
        refine sf_ite (fun c10 => ?_) (fun c11 => ?_)
        · skip
          exact sf_some (trivial)
        · skip
          refine sf_guard (by omega) (fun c12 => ?_)
          exact sf_some (trivial)
    · skip
      exact sf_some (trivial)
end
end

section
/-! sheets, kinds -/
noncomputable section
theorem invM_sheet {h : dH} (I : InvM h) {k : Nat} {b x y : Int32} (hb : ¬ b.toInt = 0 → 0 ≤ y.toInt ∧ y.toInt ≤ 40) : InvM (dU (dU (dU h 14 k b) 15 k x) 16 k y) := by
  refine ⟨fun a j lo hi e => ?_, fun s hs h14 => ?_⟩
  · have n14 : ¬ a = 14 := fun q => by subst q; cases e
    have n15 : ¬ a = 15 := fun q => by subst q; cases e
    have n16 : ¬ a = 16 := fun q => by subst q; cases e
    rw [dU_ne (by omega), dU_ne (by omega), dU_ne (by omega)]
    exact I.1 a j lo hi e
  · rw [dU_ne (by omega), dU_ne (by omega)] at h14
    by_cases hk : s = k
    · subst hk
      rw [dU_eq] at h14 ⊢
      exact hb h14
    · rw [dU_ne (by omega)] at h14
      rw [dU_ne (by omega), dU_ne (by omega), dU_ne (by omega)]
      exact I.2 s hs h14
def rkx (x : Int32) : Int := if x.toInt = -1 then 0 else if x.toInt = 0 then 1 else if x.toInt = 3 ∨ x.toInt = 4 then 3 else 2
theorem rk_ok (x : Int32) : (x.toInt = -1 ∧ rkx x = 0) ∨ (x.toInt = 0 ∧ rkx x = 1) ∨ ((x.toInt = 3 ∨ x.toInt = 4) ∧ rkx x = 3) ∨ (¬ x.toInt = -1 ∧ ¬ x.toInt = 0 ∧ ¬ x.toInt = 3 ∧ ¬ x.toInt = 4 ∧ rkx x = 2) := by
  unfold rkx
  by_cases h1 : x.toInt = -1
  · simp [h1]
  · by_cases h2 : x.toInt = 0
    · simp [h2]
    · by_cases h3 : x.toInt = 3 ∨ x.toInt = 4
      · rcases h3 with h3 | h3 <;> simp [h3]
      · rw [if_neg h1, if_neg h2, if_neg h3]; omega
end
end
