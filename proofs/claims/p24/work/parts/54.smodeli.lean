/-! that they answer: X7_copy, X7_houses, X7_over, X7_taken (by program) -/
noncomputable section
theorem sl_X7_copy_121 (v1 : Int32) (v2 : Int32) (v3 : Int32) (v4 : Int32) (v5 : Int32) (v6 : Int32)  (h0 : dH) (I_h0 : InvM h0) (r_v1 : 0 ≤ v1.toInt ∧ v1.toInt ≤ 3) (r_v3 : 0 ≤ v3.toInt ∧ v3.toInt ≤ 3) (rn0 : 0 ≤ v2.toInt ∧ 0 ≤ v4.toInt ∧ v2.toInt + v5.toInt ≤ 40 ∧ v4.toInt + v5.toInt ≤ 40 ∧ 0 ≤ v5.toInt) (k : dH → Option (Int32 × dH)) (Q : Int32 × dH → Prop) (hk : ∀  (g : dH) (Ig : InvM g) (e0 : g 0 3 = h0 0 3) (e1 : g 0 4 = h0 0 4) (e2 : g 0 13 = h0 0 13), True → Sf (k  g) Q)  : ∀ (n : Nat) (v7 : Int32) (h : dH) (I_h : InvM h) (e0 : h 0 3 = h0 0 3) (e1 : h 0 4 = h0 0 4) (e2 : h 0 13 = h0 0 13), 0 ≤ v7.toInt ∧ v7.toInt ≤ 40 → 40 - v7.toInt < (n : Int) → Sf (l_X7_copy_121 v1 v2 v3 v4 v5 v6 k n v7 h) Q
  | 0, v7, h, I_h, e0, e1, e2, hi, hm => by omega
  | n + 1, v7, h, I_h, e0, e1, e2, hi, hm => by
    rw [l_X7_copy_121]
    have yx3 := congrArg Int32.toInt e0
    have yx4 := congrArg Int32.toInt e1
    have yx5 := congrArg Int32.toInt e2
    refine sf_ite (fun c33 => ?_) (fun c34 => ?_)
    · skip
      refine sf_ite (fun c35 => ?_) (fun c36 => ?_)
      · skip
        try have tx6 : (40 * v1).toInt = 40 * v1.toInt := i_mul (by decide) rfl (by omega) (by omega)
        try have tx7 : ((40 * v1) + v2).toInt = (40 * v1).toInt + v2.toInt := i_add rfl rfl (by omega) (by omega)
        try have tx8 : (((40 * v1) + v2) + v7).toInt = ((40 * v1) + v2).toInt + v7.toInt := i_add rfl rfl (by omega) (by omega)
        try have shx := I_h.2 v1.toInt.toNat (by omega) (by omega)
        try have shz := I_h.2 v3.toInt.toNat (by omega) (by omega)
        refine sf_guard (by omega) (fun c37 => ?_)
        try have tx9 : (40 * v3).toInt = 40 * v3.toInt := i_mul (by decide) rfl (by omega) (by omega)
        try have tx10 : ((40 * v3) + v4).toInt = (40 * v3).toInt + v4.toInt := i_add rfl rfl (by omega) (by omega)
        try have tx11 : (((40 * v3) + v4) + v7).toInt = ((40 * v3) + v4).toInt + v7.toInt := i_add rfl rfl (by omega) (by omega)
        try have shx := I_h.2 v1.toInt.toNat (by omega) (by omega)
        try have shz := I_h.2 v3.toInt.toNat (by omega) (by omega)
        refine sf_guard (by omega) (fun c39 => ?_)
        refine sf_oH (fun g38 hg38 => ?_)
        have I_g38 : InvM g38 := by rw [hg38]; exact invM_free I_h rfl (by omega) (by omega)
        have ex12 : g38 0 3 = h 0 3 := by rw [hg38]; exact dU_ne (by omega)
        have yx13 := congrArg Int32.toInt ex12
        have ex14 : g38 0 4 = h 0 4 := by rw [hg38]; exact dU_ne (by omega)
        have yx15 := congrArg Int32.toInt ex14
        have ex16 : g38 0 13 = h 0 13 := by rw [hg38]; exact dU_ne (by omega)
        have yx17 := congrArg Int32.toInt ex16
        try have tx18 : (v7 + 1).toInt = v7.toInt + 1 := i_add rfl (by decide) (by omega) (by omega)
        exact sl_X7_copy_121  v1 v2 v3 v4 v5 v6  h0 I_h0 r_v1 r_v3 rn0 k Q hk n (v7 + 1) g38 I_g38 (ex12.trans e0) (ex14.trans e1) (ex16.trans e2) (by first | trivial | omega) (by omega)
      · skip
        try have tx19 : (40 * v1).toInt = 40 * v1.toInt := i_mul (by decide) rfl (by omega) (by omega)
        try have tx20 : ((40 * v1) + v2).toInt = (40 * v1).toInt + v2.toInt := i_add rfl rfl (by omega) (by omega)
        try have tx21 : (v5 - 1).toInt = v5.toInt - 1 := i_sub rfl (by decide) (by omega) (by omega)
        try have tx22 : ((v5 - 1) - v7).toInt = (v5 - 1).toInt - v7.toInt := i_sub rfl rfl (by omega) (by omega)
        try have tx23 : (((40 * v1) + v2) + ((v5 - 1) - v7)).toInt = ((40 * v1) + v2).toInt + ((v5 - 1) - v7).toInt := i_add rfl rfl (by omega) (by omega)
        try have shx := I_h.2 v1.toInt.toNat (by omega) (by omega)
        try have shz := I_h.2 v3.toInt.toNat (by omega) (by omega)
        refine sf_guard (by omega) (fun c40 => ?_)
        try have tx24 : (40 * v3).toInt = 40 * v3.toInt := i_mul (by decide) rfl (by omega) (by omega)
        try have tx25 : ((40 * v3) + v4).toInt = (40 * v3).toInt + v4.toInt := i_add rfl rfl (by omega) (by omega)
        try have tx26 : (((40 * v3) + v4) + ((v5 - 1) - v7)).toInt = ((40 * v3) + v4).toInt + ((v5 - 1) - v7).toInt := i_add rfl rfl (by omega) (by omega)
        try have shx := I_h.2 v1.toInt.toNat (by omega) (by omega)
        try have shz := I_h.2 v3.toInt.toNat (by omega) (by omega)
        refine sf_guard (by omega) (fun c42 => ?_)
        refine sf_oH (fun g41 hg41 => ?_)
        have I_g41 : InvM g41 := by rw [hg41]; exact invM_free I_h rfl (by omega) (by omega)
        have ex27 : g41 0 3 = h 0 3 := by rw [hg41]; exact dU_ne (by omega)
        have yx28 := congrArg Int32.toInt ex27
        have ex29 : g41 0 4 = h 0 4 := by rw [hg41]; exact dU_ne (by omega)
        have yx30 := congrArg Int32.toInt ex29
        have ex31 : g41 0 13 = h 0 13 := by rw [hg41]; exact dU_ne (by omega)
        have yx32 := congrArg Int32.toInt ex31
        try have tx33 : (v7 + 1).toInt = v7.toInt + 1 := i_add rfl (by decide) (by omega) (by omega)
        exact sl_X7_copy_121  v1 v2 v3 v4 v5 v6  h0 I_h0 r_v1 r_v3 rn0 k Q hk n (v7 + 1) g41 I_g41 (ex27.trans e0) (ex29.trans e1) (ex31.trans e2) (by first | trivial | omega) (by omega)
    · skip
      exact hk  h I_h e0 e1 e2 (by first | trivial | omega)
theorem s_X7_copy (h : dH) (I_h : InvM h) (v1 : Int32) (v2 : Int32) (v3 : Int32) (v4 : Int32) (v5 : Int32)  : Sf (f_X7_copy v1 v2 v3 v4 v5 h) (fun o => InvM o.2 ∧ o.2 0 3 = h 0 3 ∧ o.2 0 4 = h 0 4 ∧ o.2 0 13 = h 0 13 ∧ True) := by
  unfold f_X7_copy
  have u_v1 := Int32.toInt_lt v1
  have w_v1 := Int32.le_toInt v1
  have u_v2 := Int32.toInt_lt v2
  have w_v2 := Int32.le_toInt v2
  have u_v3 := Int32.toInt_lt v3
  have w_v3 := Int32.le_toInt v3
  have u_v4 := Int32.toInt_lt v4
  have w_v4 := Int32.le_toInt v4
  have u_v5 := Int32.toInt_lt v5
  have w_v5 := Int32.le_toInt v5
  refine sf_oP (s_X7_isSheet h I_h v1) (fun r1 pr1 => ?_)
  refine sf_ite (fun c2 => ?_) (fun c3 => ?_)
  · skip
    exact sf_some (⟨I_h, rfl, rfl, rfl, trivial⟩)
  · skip
    refine sf_oP (s_X7_isSheet h I_h v3) (fun r4 pr4 => ?_)
    refine sf_ite (fun c5 => ?_) (fun c6 => ?_)
    · skip
      exact sf_some (⟨I_h, rfl, rfl, rfl, trivial⟩)
    · skip
      try have shx := I_h.2 v1.toInt.toNat (by omega) (by omega)
      try have shz := I_h.2 v3.toInt.toNat (by omega) (by omega)
      refine sf_guard (by omega) (fun c7 => ?_)
      refine sf_ite (fun c8 => ?_) (fun c9 => ?_)
      · skip
        exact sf_some (⟨I_h, rfl, rfl, rfl, trivial⟩)
      · skip
        try have shx := I_h.2 v1.toInt.toNat (by omega) (by omega)
        try have shz := I_h.2 v3.toInt.toNat (by omega) (by omega)
        refine sf_guard (by omega) (fun c10 => ?_)
        refine sf_ite (fun c11 => ?_) (fun c12 => ?_)
        · skip
          exact sf_some (⟨I_h, rfl, rfl, rfl, trivial⟩)
        · skip
          try have shx := I_h.2 v1.toInt.toNat (by omega) (by omega)
          try have shz := I_h.2 v3.toInt.toNat (by omega) (by omega)
          refine sf_guard (by omega) (fun c13 => ?_)
          try have shx := I_h.2 v1.toInt.toNat (by omega) (by omega)
          try have shz := I_h.2 v3.toInt.toNat (by omega) (by omega)
          refine sf_guard (by omega) (fun c14 => ?_)
          refine sf_ite (fun c15 => ?_) (fun c16 => ?_)
          · skip
            refine sf_ite (fun c17 => ?_) (fun c18 => ?_)
            · skip
              exact sf_some (⟨I_h, rfl, rfl, rfl, trivial⟩)
            · skip
              refine sf_ite (fun c19 => ?_) (fun c20 => ?_)
              · skip
                exact sf_some (⟨I_h, rfl, rfl, rfl, trivial⟩)
              · skip
                refine sf_ite (fun c21 => ?_) (fun c22 => ?_)
                · skip
                  exact sf_some (⟨I_h, rfl, rfl, rfl, trivial⟩)
                · skip
                  try have shx := I_h.2 v1.toInt.toNat (by omega) (by omega)
                  try have shz := I_h.2 v3.toInt.toNat (by omega) (by omega)
                  refine sf_guard (by omega) (fun c23 => ?_)
                  try have tx1 : ((h 16 (v1.toInt.toNat)) - v5).toInt = (h 16 (v1.toInt.toNat)).toInt - v5.toInt := i_sub rfl rfl (by omega) (by omega)
                  refine sf_ite (fun c24 => ?_) (fun c25 => ?_)
                  · skip
                    exact sf_some (⟨I_h, rfl, rfl, rfl, trivial⟩)
                  · skip
                    try have shx := I_h.2 v1.toInt.toNat (by omega) (by omega)
                    try have shz := I_h.2 v3.toInt.toNat (by omega) (by omega)
                    refine sf_guard (by omega) (fun c26 => ?_)
                    try have tx2 : ((h 16 (v3.toInt.toNat)) - v5).toInt = (h 16 (v3.toInt.toNat)).toInt - v5.toInt := i_sub rfl rfl (by omega) (by omega)
                    refine sf_ite (fun c27 => ?_) (fun c28 => ?_)
                    · skip
                      exact sf_some (⟨I_h, rfl, rfl, rfl, trivial⟩)
                    · skip
                      refine sf_ite (fun c29 => ?_) (fun c30 => ?_)
                      · skip
                        refine sf_ite (fun c31 => ?_) (fun c32 => ?_)
                        · skip
                          have tx34 : (1 : Int32).toInt = 1 := by decide
                          have tx35 : (0 : Int32).toInt = 0 := by decide
                          refine sl_X7_copy_121 v1 v2 v3 v4 v5 (1 : Int32)  h I_h (by omega) (by omega) (by omega) _ _ (fun g45 I_g45 eg45_0 eg45_1 eg45_2 px36 => ?_)  fuel0 (0 : Int32) h I_h rfl rfl rfl (by first | trivial | omega) (by have := fuel0_eq; omega)
                          have yx37 := congrArg Int32.toInt eg45_0
                          have yx38 := congrArg Int32.toInt eg45_1
                          have yx39 := congrArg Int32.toInt eg45_2
                          exact sf_some (⟨I_g45, eg45_0, eg45_1, eg45_2, trivial⟩)
                        · skip
                          have tx40 : (0 : Int32).toInt = 0 := by decide
                          refine sl_X7_copy_121 v1 v2 v3 v4 v5 (0 : Int32)  h I_h (by omega) (by omega) (by omega) _ _ (fun g48 I_g48 eg48_0 eg48_1 eg48_2 px41 => ?_)  fuel0 (0 : Int32) h I_h rfl rfl rfl (by first | trivial | omega) (by have := fuel0_eq; omega)
                          have yx42 := congrArg Int32.toInt eg48_0
                          have yx43 := congrArg Int32.toInt eg48_1
                          have yx44 := congrArg Int32.toInt eg48_2
                          exact sf_some (⟨I_g48, eg48_0, eg48_1, eg48_2, trivial⟩)
                      · skip
                        have tx45 : (0 : Int32).toInt = 0 := by decide
                        refine sl_X7_copy_121 v1 v2 v3 v4 v5 (0 : Int32)  h I_h (by omega) (by omega) (by omega) _ _ (fun g51 I_g51 eg51_0 eg51_1 eg51_2 px46 => ?_)  fuel0 (0 : Int32) h I_h rfl rfl rfl (by first | trivial | omega) (by have := fuel0_eq; omega)
                        have yx47 := congrArg Int32.toInt eg51_0
                        have yx48 := congrArg Int32.toInt eg51_1
                        have yx49 := congrArg Int32.toInt eg51_2
                        exact sf_some (⟨I_g51, eg51_0, eg51_1, eg51_2, trivial⟩)
          · skip
            exact sf_some (⟨I_h, rfl, rfl, rfl, trivial⟩)
theorem sl_X7_houses_75 (v1 : Int32) (v3 : Int32) (v4 : Int32)  (h0 : dH) (I_h0 : InvM h0) (r_v1 : 0 ≤ v1.toInt ∧ v1.toInt ≤ 3) (r_v4 : 0 ≤ v4.toInt ∧ v4.toInt ≤ 8) (rn0 : ¬ (h0 14 (v1.toInt.toNat)).toInt = 0) (k : Int32 → dH → Option (Int32 × dH)) (Q : Int32 × dH → Prop) (hk : ∀ (v5 : Int32) (g : dH) (Ig : InvM g) (e0 : g 0 3 = h0 0 3) (e1 : g 0 4 = h0 0 4) (e2 : (∀ k, g 14 k = h0 14 k)) (e3 : (∀ k, g 16 k = h0 16 k)), True → Sf (k v5 g) Q) (hQ : ∀ o, InvM o.2 ∧ o.2 0 3 = h0 0 3 ∧ o.2 0 4 = h0 0 4 ∧ (∀ k, o.2 14 k = h0 14 k) ∧ (∀ k, o.2 16 k = h0 16 k) ∧ True → Q o) : ∀ (n : Nat) (v5 : Int32) (v6 : Int32) (h : dH) (I_h : InvM h) (e0 : h 0 3 = h0 0 3) (e1 : h 0 4 = h0 0 4) (e2 : (∀ k, h 14 k = h0 14 k)) (e3 : (∀ k, h 16 k = h0 16 k)), 0 ≤ v6.toInt ∧ v6.toInt ≤ 8 → 8 - v6.toInt < (n : Int) → Sf (l_X7_houses_75 v1 v3 v4 k n v5 v6 h) Q
  | 0, v5, v6, h, I_h, e0, e1, e2, e3, hi, hm => by omega
  | n + 1, v5, v6, h, I_h, e0, e1, e2, e3, hi, hm => by
    rw [l_X7_houses_75]
    have yx6 := congrArg Int32.toInt e0
    have yx7 := congrArg Int32.toInt e1
    refine sf_ite (fun c16 => ?_) (fun c17 => ?_)
    · skip
      refine sf_ite (fun c18 => ?_) (fun c19 => ?_)
      · skip
        exact sf_some (hQ _ ⟨I_h, e0, e1, e2, e3, trivial⟩)
      · skip
        try have shx := I_h.2 v1.toInt.toNat (by omega) (by omega)
        try have shy := congrArg Int32.toInt (e2 v1.toInt.toNat)
        try have shx := I_h.2 v1.toInt.toNat (by omega) (by omega)
        refine sf_guard (by omega) (fun c20 => ?_)
        try have tx8 : (2 * v6).toInt = 2 * v6.toInt := i_mul (by decide) rfl (by omega) (by omega)
        try have tx9 : ((h 16 (v1.toInt.toNat)) - (2 * v6)).toInt = (h 16 (v1.toInt.toNat)).toInt - (2 * v6).toInt := i_sub rfl rfl (by omega) (by omega)
        try have tx10 : (((h 16 (v1.toInt.toNat)) - (2 * v6)) - 2).toInt = ((h 16 (v1.toInt.toNat)) - (2 * v6)).toInt - 2 := i_sub rfl (by decide) (by omega) (by omega)
        refine sf_ite (fun c21 => ?_) (fun c22 => ?_)
        · skip
          exact sf_some (hQ _ ⟨I_h, e0, e1, e2, e3, trivial⟩)
        · skip
          try have tx11 : (40 * v1).toInt = 40 * v1.toInt := i_mul (by decide) rfl (by omega) (by omega)
          try have tx12 : ((40 * v1) + v3).toInt = (40 * v1).toInt + v3.toInt := i_add rfl rfl (by omega) (by omega)
          try have tx13 : (((40 * v1) + v3) + (2 * v6)).toInt = ((40 * v1) + v3).toInt + (2 * v6).toInt := i_add rfl rfl (by omega) (by omega)
          try have shx := I_h.2 v1.toInt.toNat (by omega) (by omega)
          try have shy := congrArg Int32.toInt (e2 v1.toInt.toNat)
          try have shx := I_h.2 v1.toInt.toNat (by omega) (by omega)
          refine sf_guard (by omega) (fun c23 => ?_)
          try have tx14 : ((((40 * v1) + v3) + (2 * v6)) + 1).toInt = (((40 * v1) + v3) + (2 * v6)).toInt + 1 := i_add rfl (by decide) (by omega) (by omega)
          try have shx := I_h.2 v1.toInt.toNat (by omega) (by omega)
          try have shy := congrArg Int32.toInt (e2 v1.toInt.toNat)
          try have shx := I_h.2 v1.toInt.toNat (by omega) (by omega)
          refine sf_guard (by omega) (fun c24 => ?_)
          refine sf_oI (s_X7_house h I_h (h 17 ((((40 * v1) + v3) + (2 * v6)).toInt.toNat)) (h 17 (((((40 * v1) + v3) + (2 * v6)) + 1).toInt.toNat))) (fun r25 g26 pg26 => ?_)
          obtain ⟨I_g26, ex15, ex16, ex17, ex18, qg26⟩ := pg26
          try simp only at I_g26 ex15 ex16 ex17 ex18 qg26
          have yx19 := congrArg Int32.toInt ex15
          have yx20 := congrArg Int32.toInt ex16
          refine sf_ite (fun c27 => ?_) (fun c28 => ?_)
          · skip
            try have tx21 : (v5 + 0).toInt = v5.toInt + 0 := i_add rfl (by decide) (by omega) (by omega)
            try have tx22 : (v6 + 1).toInt = v6.toInt + 1 := i_add rfl (by decide) (by omega) (by omega)
            exact sl_X7_houses_75  v1 v3 v4  h0 I_h0 r_v1 r_v4 rn0 k Q hk hQ n (v5 + 0) (v6 + 1) g26 I_g26 (ex15.trans e0) (ex16.trans e1) (fun k => (ex17 k).trans (e2 k)) (fun k => (ex18 k).trans (e3 k)) (by first | trivial | omega) (by omega)
          · skip
            try have tx23 : (v5 + 1).toInt = v5.toInt + 1 := i_add rfl (by decide) (by omega) (by omega)
            try have tx24 : (v6 + 1).toInt = v6.toInt + 1 := i_add rfl (by decide) (by omega) (by omega)
            exact sl_X7_houses_75  v1 v3 v4  h0 I_h0 r_v1 r_v4 rn0 k Q hk hQ n (v5 + 1) (v6 + 1) g26 I_g26 (ex15.trans e0) (ex16.trans e1) (fun k => (ex17 k).trans (e2 k)) (fun k => (ex18 k).trans (e3 k)) (by first | trivial | omega) (by omega)
    · skip
      exact hk v5 h I_h e0 e1 e2 e3 (by first | trivial | omega)
theorem s_X7_houses (h : dH) (I_h : InvM h) (v1 : Int32) (v2 : Int32) (v3 : Int32) (v4 : Int32)  : Sf (f_X7_houses v1 v2 v3 v4 h) (fun o => InvM o.2 ∧ o.2 0 3 = h 0 3 ∧ o.2 0 4 = h 0 4 ∧ (∀ k, o.2 14 k = h 14 k) ∧ (∀ k, o.2 16 k = h 16 k) ∧ True) := by
  unfold f_X7_houses
  have u_v1 := Int32.toInt_lt v1
  have w_v1 := Int32.le_toInt v1
  have u_v2 := Int32.toInt_lt v2
  have w_v2 := Int32.le_toInt v2
  have u_v3 := Int32.toInt_lt v3
  have w_v3 := Int32.le_toInt v3
  have u_v4 := Int32.toInt_lt v4
  have w_v4 := Int32.le_toInt v4
  refine sf_oP (s_X7_isSheet h I_h v1) (fun r1 pr1 => ?_)
  refine sf_ite (fun c2 => ?_) (fun c3 => ?_)
  · skip
    exact sf_some (⟨I_h, rfl, rfl, (fun _ => rfl), (fun _ => rfl), trivial⟩)
  · skip
    have tx1 : v2.toInt64.toInt = v2.toInt := l_i2l
    have tx2 : (0 : Int64).toInt = 0 := by decide
    have tx3 : (2 : Int64).toInt = 2 := by decide
    refine sf_oP (s_X7_in h I_h (v2.toInt64) 0 2) (fun r4 pr4 => ?_)
    refine sf_ite (fun c5 => ?_) (fun c6 => ?_)
    · skip
      exact sf_some (⟨I_h, rfl, rfl, (fun _ => rfl), (fun _ => rfl), trivial⟩)
    · skip
      have tx4 : v4.toInt64.toInt = v4.toInt := l_i2l
      have tx5 : (8 : Int64).toInt = 8 := by decide
      refine sf_oP (s_X7_in h I_h (v4.toInt64) 0 8) (fun r7 pr7 => ?_)
      refine sf_ite (fun c8 => ?_) (fun c9 => ?_)
      · skip
        exact sf_some (⟨I_h, rfl, rfl, (fun _ => rfl), (fun _ => rfl), trivial⟩)
      · skip
        try have shx := I_h.2 v1.toInt.toNat (by omega) (by omega)
        try have shy := congrArg Int32.toInt (e2 v1.toInt.toNat)
        try have shx := I_h.2 v1.toInt.toNat (by omega) (by omega)
        refine sf_guard (by omega) (fun c10 => ?_)
        refine sf_ite (fun c11 => ?_) (fun c12 => ?_)
        · skip
          try have shx := I_h.2 v1.toInt.toNat (by omega) (by omega)
          try have shy := congrArg Int32.toInt (e2 v1.toInt.toNat)
          try have shx := I_h.2 v1.toInt.toNat (by omega) (by omega)
          refine sf_guard (by omega) (fun c13 => ?_)
          refine sf_ite (fun c14 => ?_) (fun c15 => ?_)
          · skip
            exact sf_some (⟨I_h, rfl, rfl, (fun _ => rfl), (fun _ => rfl), trivial⟩)
          · skip
            have tx25 : (0 : Int32).toInt = 0 := by decide
            refine sl_X7_houses_75 v1 v3 v4  h I_h (by omega) (by omega) (by omega) _ _ (fun v5_29 g32 I_g32 eg32_0 eg32_1 eg32_2 eg32_3 px26 => ?_) (fun o ho => ⟨ho.1, (ho.2.1.trans rfl), (ho.2.2.1.trans rfl), (fun k => (ho.2.2.2.1 k).trans ((fun _ => rfl) k)), (fun k => (ho.2.2.2.2.1 k).trans ((fun _ => rfl) k)), trivial⟩) fuel0 (0 : Int32) (0 : Int32) h I_h rfl rfl (fun _ => rfl) (fun _ => rfl) (by first | trivial | omega) (by have := fuel0_eq; omega)
            have yx27 := congrArg Int32.toInt eg32_0
            have yx28 := congrArg Int32.toInt eg32_1
            exact sf_some (⟨I_g32, eg32_0, eg32_1, eg32_2, eg32_3, trivial⟩)
        · skip
          try have shx := I_h.2 v1.toInt.toNat (by omega) (by omega)
          try have shy := congrArg Int32.toInt (e2 v1.toInt.toNat)
          try have shx := I_h.2 v1.toInt.toNat (by omega) (by omega)
          refine sf_guard (by omega) (fun c33 => ?_)
          refine sf_ite (fun c34 => ?_) (fun c35 => ?_)
          · skip
            try have shx := I_h.2 v1.toInt.toNat (by omega) (by omega)
            try have shy := congrArg Int32.toInt (e2 v1.toInt.toNat)
            try have shx := I_h.2 v1.toInt.toNat (by omega) (by omega)
            refine sf_guard (by omega) (fun c36 => ?_)
            refine sf_ite (fun c37 => ?_) (fun c38 => ?_)
            · skip
              exact sf_some (⟨I_h, rfl, rfl, (fun _ => rfl), (fun _ => rfl), trivial⟩)
            · skip
              have tx29 : (0 : Int32).toInt = 0 := by decide
              refine sl_X7_houses_75 v1 v3 v4  h I_h (by omega) (by omega) (by omega) _ _ (fun v5_39 g42 I_g42 eg42_0 eg42_1 eg42_2 eg42_3 px30 => ?_) (fun o ho => ⟨ho.1, (ho.2.1.trans rfl), (ho.2.2.1.trans rfl), (fun k => (ho.2.2.2.1 k).trans ((fun _ => rfl) k)), (fun k => (ho.2.2.2.2.1 k).trans ((fun _ => rfl) k)), trivial⟩) fuel0 (0 : Int32) (0 : Int32) h I_h rfl rfl (fun _ => rfl) (fun _ => rfl) (by first | trivial | omega) (by have := fuel0_eq; omega)
              have yx31 := congrArg Int32.toInt eg42_0
              have yx32 := congrArg Int32.toInt eg42_1
              exact sf_some (⟨I_g42, eg42_0, eg42_1, eg42_2, eg42_3, trivial⟩)
          · skip
            exact sf_some (⟨I_h, rfl, rfl, (fun _ => rfl), (fun _ => rfl), trivial⟩)
theorem s_X7_over (h : dH) (I_h : InvM h) (v0 : Int32)  : Sf (f_X7_over v0) (fun r => (v0.toInt = 0 ∧ r.toInt = -1) ∨ (v0.toInt = 3 ∧ r.toInt = 1) ∨ (v0.toInt = 4 ∧ r.toInt = 2) ∨ (¬ v0.toInt = 0 ∧ ¬ v0.toInt = 3 ∧ ¬ v0.toInt = 4 ∧ r.toInt = 0)) := by
  unfold f_X7_over
  have u_v0 := Int32.toInt_lt v0
  have w_v0 := Int32.le_toInt v0
  refine sf_ite (fun c1 => ?_) (fun c2 => ?_)
  · skip
    have tx1 : ((-1) : Int32).toInt = (-1) := by decide
    exact sf_some ((show (v0.toInt = 0 ∧ ((-1) : Int32).toInt = -1) ∨ (v0.toInt = 3 ∧ ((-1) : Int32).toInt = 1) ∨ (v0.toInt = 4 ∧ ((-1) : Int32).toInt = 2) ∨ (¬ v0.toInt = 0 ∧ ¬ v0.toInt = 3 ∧ ¬ v0.toInt = 4 ∧ ((-1) : Int32).toInt = 0) by omega))
  · skip
    refine sf_ite (fun c3 => ?_) (fun c4 => ?_)
    · skip
      have tx2 : (1 : Int32).toInt = 1 := by decide
      exact sf_some ((show (v0.toInt = 0 ∧ (1 : Int32).toInt = -1) ∨ (v0.toInt = 3 ∧ (1 : Int32).toInt = 1) ∨ (v0.toInt = 4 ∧ (1 : Int32).toInt = 2) ∨ (¬ v0.toInt = 0 ∧ ¬ v0.toInt = 3 ∧ ¬ v0.toInt = 4 ∧ (1 : Int32).toInt = 0) by omega))
    · skip
      refine sf_ite (fun c5 => ?_) (fun c6 => ?_)
      · skip
        have tx3 : (2 : Int32).toInt = 2 := by decide
        exact sf_some ((show (v0.toInt = 0 ∧ (2 : Int32).toInt = -1) ∨ (v0.toInt = 3 ∧ (2 : Int32).toInt = 1) ∨ (v0.toInt = 4 ∧ (2 : Int32).toInt = 2) ∨ (¬ v0.toInt = 0 ∧ ¬ v0.toInt = 3 ∧ ¬ v0.toInt = 4 ∧ (2 : Int32).toInt = 0) by omega))
      · skip
        have tx4 : (0 : Int32).toInt = 0 := by decide
        exact sf_some ((show (v0.toInt = 0 ∧ (0 : Int32).toInt = -1) ∨ (v0.toInt = 3 ∧ (0 : Int32).toInt = 1) ∨ (v0.toInt = 4 ∧ (0 : Int32).toInt = 2) ∨ (¬ v0.toInt = 0 ∧ ¬ v0.toInt = 3 ∧ ¬ v0.toInt = 4 ∧ (0 : Int32).toInt = 0) by omega))
theorem sl_X7_taken_33 (v2 : Int32)  (h : dH) (I_h : InvM h)  (k : Int32 → Option (Int32)) (Q : Int32 → Prop) (hk : ∀ (v3 : Int32), True → Sf (k v3) Q)  : ∀ (n : Nat) (v3 : Int32), True → rkx v3 < (n : Int) → Sf (l_X7_taken_33 v2 k n v3) Q
  | 0, v3, hi, hm => by have := rk_ok v3; omega
  | n + 1, v3, hi, hm => by
    rw [l_X7_taken_33]
    have rk0 := rk_ok v3
    refine sf_ite (fun c8 => ?_) (fun c9 => ?_)
    · skip
      exact hk v3 (by first | trivial | omega)
    · skip
      refine sf_ite (fun c10 => ?_) (fun c11 => ?_)
      · skip
        exact hk v3 (by first | trivial | omega)
      · skip
        refine sf_oP (s_X7_over h I_h v3) (fun r12 pr12 => ?_)
        have kx6 := rk_ok r12
        exact sl_X7_taken_33  v2  h I_h  k Q hk n r12 (by first | trivial | omega) (by omega)
theorem s_X7_taken (h : dH) (I_h : InvM h) (v1 : Int32) (v2 : Int32)  : Sf (f_X7_taken v1 v2 h) (fun r => True) := by
  unfold f_X7_taken
  have u_v1 := Int32.toInt_lt v1
  have w_v1 := Int32.le_toInt v1
  have u_v2 := Int32.toInt_lt v2
  have w_v2 := Int32.le_toInt v2
  have tx1 : v2.toInt64.toInt = v2.toInt := l_i2l
  have tx2 : (0 : Int64).toInt = 0 := by decide
  have tx3 : (5 : Int64).toInt = 5 := by decide
  refine sf_oP (s_X7_in h I_h (v2.toInt64) 0 5) (fun r1 pr1 => ?_)
  have kx4 := rk_ok r1
  refine sf_ite (fun c2 => ?_) (fun c3 => ?_)
  · skip
    exact sf_some (trivial)
  · skip
    refine sf_oP (s_X7_isHouse h I_h v1) (fun r4 pr4 => ?_)
    have kx5 := rk_ok r4
    refine sf_ite (fun c5 => ?_) (fun c6 => ?_)
    · skip
      exact sf_some (trivial)
    · skip
      refine sf_guard (by omega) (fun c7 => ?_)
      have kx7 := rk_ok (h 4 (v1.toInt.toNat))
      refine sl_X7_taken_33 v2  h I_h  _ _ (fun v3_13 px8 => ?_)  fuel0 (h 4 (v1.toInt.toNat))  (by first | trivial | omega) (by have := fuel0_eq; omega)
      refine sf_ite (fun c14 => ?_) (fun c15 => ?_)
      · skip
        refine sf_guard (by omega) (fun c16 => ?_)
        exact sf_some (trivial)
      · skip
        exact sf_some (trivial)
end
