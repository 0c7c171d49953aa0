section
/-! that they answer: X7_copy, X7_houses, X7_over, X7_taken (by program) -/
noncomputable section
theorem sl_X7_copy_121 (v1 : Int32) (v2 : Int32) (v3 : Int32) (v4 : Int32) (v5 : Int32) (v6 : Int32)  (h0 : dH) (I_h0 : InvM h0) (r_v1 : 0 ≤ v1.toInt ∧ v1.toInt ≤ 3) (r_v3 : 0 ≤ v3.toInt ∧ v3.toInt ≤ 3) (rn0 : 0 ≤ v2.toInt ∧ 0 ≤ v4.toInt ∧ v2.toInt + v5.toInt ≤ 40 ∧ v4.toInt + v5.toInt ≤ 40 ∧ 0 ≤ v5.toInt) (k : dH → Option (Int32 × dH)) (Q : Int32 × dH → Prop) (hk : ∀  (g : dH) (Ig : InvM g) (e0 : g 0 3 = h0 0 3) (e1 : g 0 4 = h0 0 4) (e2 : g 0 13 = h0 0 13), True → Sf (k  g) Q)  : ∀ (n : Nat) (v7 : Int32) (h : dH) (I_h : InvM h) (e0 : h 0 3 = h0 0 3) (e1 : h 0 4 = h0 0 4) (e2 : h 0 13 = h0 0 13), 0 ≤ v7.toInt ∧ v7.toInt ≤ 40 → 40 - v7.toInt < (n : Int) → Sf (l_X7_copy_121 v1 v2 v3 v4 v5 v6 k n v7 h) Q
  | 0, v7, h, I_h, e0, e1, e2, hi, hm => by omega
  | n + 1, v7, h, I_h, e0, e1, e2, hi, hm => by
    rw [l_X7_copy_121]
    have yx3 := congrArg Int32.toInt e0
    have yx4 := congrArg Int32.toInt e1
    have yx5 := congrArg Int32.toInt e2
    refine sf_ite (fun c33 => ?_) (fun c34 => ?_)
    · skip
      refine sf_ite (fun c35 => ?_) (fun c36 => ?_)
      · skip
        try have tx6 : (40 * v1).toInt = 40 * v1.toInt := i_mul (by decide) rfl (by omega) (by omega)
        try have tx7 : ((40 * v1) + v2).toInt = (40 * v1).toInt + v2.toInt := i_add rfl rfl (by omega) (by omega)
        try have tx8 : (((40 * v1) + v2) + v7).toInt = ((40 * v1) + v2).toInt + v7.toInt := i_add rfl rfl (by omega) (by omega)
        try have shx := I_h.2 v1.toInt.toNat (by omega) (by omega)
        try have shz := I_h.2 v3.toInt.toNat (by omega) (by omega)
        refine sf_guard (by omega) (fun c37 => ?_)
        try have tx9 : (40 * v3).toInt = 40 * v3.toInt := i_mul (by decide) rfl (by omega) (by omega)
        try have tx10 : ((40 * v3) + v4).toInt = (40 * v3).toInt + v4.toInt := i_add rfl rfl (by omega) (by omega)
        try have tx11 : (((40 * v3) + v4) + v7).toInt = ((40 * v3) + v4).toInt + v7.toInt := i_add rfl rfl (by omega) (by omega)
        try have shx := I_h.2 v1.toInt.toNat (by omega) (by omega)
        try have shz := I_h.2 v3.toInt.toNat (by omega) (by omega)
        refine sf_guard (by omega) (fun c39 => ?_)
        refine sf_oH (fun g38 hg38 => ?_)
        have I_g38 : InvM g38 := by rw [hg38]; exact invM_free I_h rfl (by omega) (by omega)
        have ex12 : g38 0 3 = h 0 3 := by rw [hg38]; exact dU_ne (by omega)
        have yx13 := congrArg Int32.toInt ex12
        have ex14 : g38 0 4 = h 0 4 := by rw [hg38]; exact dU_ne (by omega)
        have yx15 := congrArg Int32.toInt ex14
        have ex16 : g38 0 13 = h 0 13 := by rw [hg38]; exact dU_ne (by omega)
        have yx17 := congrArg Int32.toInt ex16
        try have tx18 : (v7 + 1).toInt = v7.toInt + 1 := i_add rfl (by decide) (by omega) (by omega)
        exact sl_X7_copy_121  v1 v2 v3 v4 v5 v6  h0 I_h0 r_v1 r_v3 rn0 k Q hk n (v7 + 1) g38 I_g38 (ex12.trans e0) (ex14.trans e1) (ex16.trans e2) (by first | trivial | omega) (by omega)
      · skip
        try have tx19 : (40 * v1).toInt = 40 * v1.toInt := i_mul (by decide) rfl (by omega) (by omega)
        try have tx20 : ((40 * v1) + v2).toInt = (40 * v1).toInt + v2.toInt := i_add rfl rfl (by omega) (by omega)
        try have tx21 : (v5 - 1).toInt = v5.toInt - 1 := i_sub rfl (by decide) (by omega) (by omega)
        try have tx22 : ((v5 - 1) - v7).toInt = (v5 - 1).toInt - v7.toInt := i_sub rfl rfl (by omega) (by omega)
        try have tx23 : (((40 * v1) + v2) + ((v5 - 1) - v7)).toInt = ((40 * v1) + v2).toInt + ((v5 - 1) - v7).toInt := i_add rfl rfl (by omega) (by omega)
        try have shx := I_h.2 v1.toInt.toNat (by omega) (by omega)
        try have shz := I_h.2 v3.toInt.toNat (by omega) (by omega)
        refine sf_guard (by omega) (fun c40 => ?_)
        try have tx24 : (40 * v3).toInt = 40 * v3.toInt := i_mul (by decide) rfl (by omega) (by omega)
        try have tx25 : ((40 * v3) + v4).toInt = (40 * v3).toInt + v4.toInt := i_add rfl rfl (by omega) (by omega)
        try have tx26 : (((40 * v3) + v4) + ((v5 - 1) - v7)).toInt = ((40 * v3) + v4).toInt + ((v5 - 1) - v7).toInt := i_add rfl rfl (by omega) (by omega)
        try have shx := I_h.2 v1.toInt.toNat (by omega) (by omega)
        try have shz := I_h.2 v3.toInt.toNat (by omega) (by omega)
        refine sf_guard (by omega) (fun c42 => ?_)
        refine sf_oH (fun g41 hg41 => ?_)
        have I_g41 : InvM g41 := by rw [hg41]; exact invM_free I_h rfl (by omega) (by omega)
        have ex27 : g41 0 3 = h 0 3 := by rw [hg41]; exact dU_ne (by omega)
        have yx28 := congrArg Int32.toInt ex27
        have ex29 : g41 0 4 = h 0 4 := by rw [hg41]; exact dU_ne (by omega)
        have yx30 := congrArg Int32.toInt ex29
        have ex31 : g41 0 13 = h 0 13 := by rw [hg41]; exact dU_ne (by omega)
        have yx32 := congrArg Int32.toInt ex31
        try have tx33 : (v7 + 1).toInt = v7.toInt + 1 := i_add rfl (by decide) (by omega) (by omega)
        exact sl_X7_copy_121  v1 v2 v3 v4 v5 v6  h0 I_h0 r_v1 r_v3 rn0 k Q hk n (v7 + 1) g41 I_g41 (ex27.trans e0) (ex29.trans e1) (ex31.trans e2) (by first | trivial | omega) (by omega)
    · skip
      exact hk  h I_h e0 e1 e2 (by first | trivial | omega)
theorem s_X7_copy (h : dH) (I_h : InvM h) (v1 : Int32) (v2 : Int32) (v3 : Int32) (v4 : Int32) (v5 : Int32)  : Sf (f_X7_copy v1 v2 v3 v4 v5 h) (fun o => InvM o.2 ∧ o.2 0 3 = h 0 3 ∧ o.2 0 4 = h 0 4 ∧ o.2 0 13 = h 0 13 ∧ True) := by
  unfold f_X7_copy
  have u_v1 := Int32.toInt_lt v1
  have w_v1 := Int32.le_toInt v1
  have u_v2 := Int32.toInt_lt v2
  have w_v2 := Int32.le_toInt v2
  have u_v3 := Int32.toInt_lt v3
  have w_v3 := Int32.le_toInt v3
  have u_v4 := Int32.toInt_lt v4
  have w_v4 := Int32.le_toInt v4
  have u_v5 := Int32.toInt_lt v5
  have w_v5 := Int32.le_toInt v5
  refine sf_oP (s_X7_isSheet h I_h v1) (fun r1 pr1 => ?_)
  refine sf_ite (fun c2 => ?_) (fun c3 => ?_)
  · skip
    exact sf_some (⟨I_h, rfl, rfl, rfl, trivial⟩)
  · skip
    refine sf_oP (s_X7_isSheet h I_h v3) (fun r4 pr4 => ?_)
    refine sf_ite (fun c5 => ?_) (fun c6 => ?_)
    · skip
      exact sf_some (⟨I_h, rfl, rfl, rfl, trivial⟩)
    · skip
      try have shx := I_h.2 v1.toInt.toNat (by omega) (by omega)
      try have shz := I_h.2 v3.toInt.toNat (by omega) (by omega)
      refine sf_guard (by omega) (fun c7 => ?_)
      refine sf_ite (fun c8 => ?_) (fun c9 => ?_)
      · skip
        exact sf_some (⟨I_h, rfl, rfl, rfl, trivial⟩)
      · skip
        try have shx := I_h.2 v1.toInt.toNat (by omega) (by omega)
        try have shz := I_h.2 v3.toInt.toNat (by omega) (by omega)
        refine sf_guard (by omega) (fun c10 => ?_)
        refine sf_ite (fun c11 => ?_) (fun c12 => ?_)
        · skip
          exact sf_some (⟨I_h, rfl, rfl, rfl, trivial⟩)
        · skip
          try have shx := I_h.2 v1.toInt.toNat (by omega) (by omega)
          try have shz := I_h.2 v3.toInt.toNat (by omega) (by omega)
          refine sf_guard (by omega) (fun c13 => ?_)
          try have shx := I_h.2 v1.toInt.toNat (by omega) (by omega)
          try have shz := I_h.2 v3.toInt.toNat (by omega) (by omega)
          refine sf_guard (by omega) (fun c14 => ?_)
          refine sf_ite (fun c15 => ?_) (fun c16 => ?_)
          · skip
            refine sf_ite (fun c17 => ?_) (fun c18 => ?_)
            · skip
              exact sf_some (⟨I_h, rfl, rfl, rfl, trivial⟩)
            · skip
              refine sf_ite (fun c19 => ?_) (fun c20 => ?_)
              · skip
                exact sf_some (⟨I_h, rfl, rfl, rfl, trivial⟩)
              · skip
                refine sf_ite (fun c21 => ?_) (fun c22 => ?_)
                · skip
                  exact sf_some (⟨I_h, rfl, rfl, rfl, trivial⟩)
                · skip
                  try have shx := I_h.2 v1.toInt.toNat (by omega) (by omega)
                  try have shz := I_h.2 v3.toInt.toNat (by omega) (by omega)
                  refine sf_guard (by omega) (fun c23 => ?_)
                  try have tx1 : ((h 16 (v1.toInt.toNat)) - v5).toInt = (h 16 (v1.toInt.toNat)).toInt - v5.toInt := i_sub rfl rfl (by omega) (by omega)
                  refine sf_ite (fun c24 => ?_) (fun c25 => ?_)
                  · skip
                    exact sf_some (⟨I_h, rfl, rfl, rfl, trivial⟩)
                  · skip
                    try have shx := I_h.2 v1.toInt.toNat (by omega) (by omega)
                    try have shz := I_h.2 v3.toInt.toNat (by omega) (by omega)
                    refine sf_guard (by omega) (fun c26 => ?_)
                    try have tx2 : ((h 16 (v3.toInt.toNat)) - v5).toInt = (h 16 (v3.toInt.toNat)).toInt - v5.toInt := i_sub rfl rfl (by omega) (by omega)
                    refine sf_ite (fun c27 => ?_) (fun c28 => ?_)
                    · skip
                      exact sf_some (⟨I_h, rfl, rfl, rfl, trivial⟩)
                    · skip
                      refine sf_ite (fun c29 => ?_) (fun c30 => ?_)
                      · skip
                        refine sf_ite (fun c31 => ?_) (fun c32 => ?_)
                        · skip
                          have tx34 : (1 : Int32).toInt = 1 := by decide
                          have tx35 : (0 : Int32).toInt = 0 := by decide
                          refine sl_X7_copy_121 v1 v2 v3 v4 v5 (1 : Int32)  h I_h (by omega) (by omega) (by omega) _ _ (fun g45 I_g45 eg45_0 eg45_1 eg45_2 px36 => ?_)  fuel0 (0 : Int32) h I_h rfl rfl rfl (by first | trivial | omega) (by have := fuel0_eq; omega)
                          have yx37 := congrArg Int32.toInt eg45_0
                          have yx38 := congrArg Int32.toInt eg45_1
                          have yx39 := congrArg Int32.toInt eg45_2
                          exact sf_some (⟨I_g45, eg45_0, eg45_1, eg45_2, trivial⟩)
                        · skip
                          have tx40 : (0 : Int32).toInt = 0 := by decide
                          refine sl_X7_copy_121 v1 v2 v3 v4 v5 (0 : Int32)  h I_h (by omega) (by omega) (by omega) _ _ (fun g48 I_g48 eg48_0 eg48_1 eg48_2 px41 => ?_)  fuel0 (0 : Int32) h I_h rfl rfl rfl (by first | trivial | omega) (by have := fuel0_eq; omega)
                          have yx42 := congrArg Int32.toInt eg48_0
                          have yx43 := congrArg Int32.toInt eg48_1
                          have yx44 := congrArg Int32.toInt eg48_2
                          exact sf_some (⟨I_g48, eg48_0, eg48_1, eg48_2, trivial⟩)
                      · skip
                        have tx45 : (0 : Int32).toInt = 0 := by decide
                        refine sl_X7_copy_121 v1 v2 v3 v4 v5 (0 : Int32)  h I_h (by omega) (by omega) (by omega) _ _ (fun g51 I_g51 eg51_0 eg51_1 eg51_2 px46 => ?_)  fuel0 (0 : Int32) h I_h rfl rfl rfl (by first | trivial | omega) (by have := fuel0_eq; omega)
                        have yx47 := congrArg Int32.toInt eg51_0
                        have yx48 := congrArg Int32.toInt eg51_1
                        have yx49 := congrArg Int32.toInt eg51_2
                        exact sf_some (⟨I_g51, eg51_0, eg51_1, eg51_2, trivial⟩)
          · skip
            exact sf_some (⟨I_h, rfl, rfl, rfl, trivial⟩)
theorem sl_X7_houses_75 (v1 : Int32) (v3 : Int32) (v4 : Int32)  (h0 : dH) (I_h0 : InvM h0) (r_v1 : 0 ≤ v1.toInt ∧ v1.toInt ≤ 3) (r_v4 : 0 ≤ v4.toInt ∧ v4.toInt ≤ 8) (rn0 : ¬ (h0 14 (v1.toInt.toNat)).toInt = 0) (k : Int32 → dH → Option (Int32 × dH)) (Q : Int32 × dH → Prop) (hk : ∀ (v5 : Int32) (g : dH) (Ig : InvM g) (e0 : g 0 3 = h0 0 3) (e1 : g 0 4 = h0 0 4) (e2 : (∀ k, g 14 k = h0 14 k)) (e3 : (∀ k, g 16 k = h0 16 k)), True → Sf (k v5 g) Q) (hQ : ∀ o, InvM o.2 ∧ o.2 0 3 = h0 0 3 ∧ o.2 0 4 = h0 0 4 ∧ (∀ k, o.2 14 k = h0 14 k) ∧ (∀ k, o.2 16 k = h0 16 k) ∧ True → Q o) : ∀ (n : Nat) (v5 : Int32) (v6 : Int32) (h : dH) (I_h : InvM h) (e0 : h 0 3 = h0 0 3) (e1 : h 0 4 = h0 0 4) (e2 : (∀ k, h 14 k = h0 14 k)) (e3 : (∀ k, h 16 k = h0 16 k)), 0 ≤ v6.toInt ∧ v6.toInt ≤ 8 → 8 - v6.toInt < (n : Int) → Sf (l_X7_houses_75 v1 v3 v4 k n v5 v6 h) Q
  | 0, v5, v6, h, I_h, e0, e1, e2, e3, hi, hm => by omega
  | n + 1, v5, v6, h, I_h, e0, e1, e2, e3, hi, hm => by
    rw [l_X7_houses_75]
    have yx6 := congrArg Int32.toInt e0
    have yx7 := congrArg Int32.toInt e1
    refine sf_ite (fun c16 => ?_) (fun c17 => ?_)
    · skip
      refine sf_ite (fun c18 => ?_) (fun c19 => ?_)
      · skip
        exact sf_some (hQ _ ⟨I_h, e0, e1, e2, e3, trivial⟩)
      · skip
        try have shx := I_h.2 v1.toInt.toNat (by omega) (by omega)
        try have shy := congrArg Int32.toInt (e2 v1.toInt.toNat)
        try have shx := I_h.2 v1.toInt.toNat (by omega) (by omega)
        refine sf_guard (by omega) (fun c20 => ?_)
        try have tx8 : (2 * v6).toInt = 2 * v6.toInt := i_mul (by decide) rfl (by omega) (by omega)
        try have tx9 : ((h 16 (v1.toInt.toNat)) - (2 * v6)).toInt = (h 16 (v1.toInt.toNat)).toInt - (2 * v6).toInt := i_sub rfl rfl (by omega) (by omega)
        try have tx10 : (((h 16 (v1.toInt.toNat)) - (2 * v6)) - 2).toInt = ((h 16 (v1.toInt.toNat)) - (2 * v6)).toInt - 2 := i_sub rfl (by decide) (by omega) (by omega)
        refine sf_ite (fun c21 => ?_) (fun c22 => ?_)
        · skip
          exact sf_some (hQ _ ⟨I_h, e0, e1, e2, e3, trivial⟩)
        · skip
          try have tx11 : (40 * v1).toInt = 40 * v1.toInt := i_mul (by decide) rfl (by omega) (by omega)
          try have tx12 : ((40 * v1) + v3).toInt = (40 * v1).toInt + v3.toInt := i_add rfl rfl (by omega) (by omega)
          try have tx13 : (((40 * v1) + v3) + (2 * v6)).toInt = ((40 * v1) + v3).toInt + (2 * v6).toInt := i_add rfl rfl (by omega) (by omega)
          try have shx := I_h.2 v1.toInt.toNat (by omega) (by omega)
          try have shy := congrArg Int32.toInt (e2 v1.toInt.toNat)
          try have shx := I_h.2 v1.toInt.toNat (by omega) (by omega)
          refine sf_guard (by omega) (fun c23 => ?_)
          try have tx14 : ((((40 * v1) + v3) + (2 * v6)) + 1).toInt = (((40 * v1) + v3) + (2 * v6)).toInt + 1 := i_add rfl (by decide) (by omega) (by omega)
          try have shx := I_h.2 v1.toInt.toNat (by omega) (by omega)
          try have shy := congrArg Int32.toInt (e2 v1.toInt.toNat)
          try have shx := I_h.2 v1.toInt.toNat (by omega) (by omega)
          refine sf_guard (by omega) (fun c24 => ?_)
          refine sf_oI (s_X7_house h I_h (h 17 ((((40 * v1) + v3) + (2 * v6)).toInt.toNat)) (h 17 (((((40 * v1) + v3) + (2 * v6)) + 1).toInt.toNat))) (fun r25 g26 pg26 => ?_)
          obtain ⟨I_g26, ex15, ex16, ex17, ex18, qg26⟩ := pg26
          try simp only at I_g26 ex15 ex16 ex17 ex18 qg26
          have yx19 := congrArg Int32.toInt ex15
          have yx20 := congrArg Int32.toInt ex16
          refine sf_ite (fun c27 => ?_) (fun c28 => ?_)
          · skip
            try have tx21 : (v5 + 0).toInt = v5.toInt + 0 := i_add rfl (by decide) (by omega) (by omega)
            try have tx22 : (v6 + 1).toInt = v6.toInt + 1 := i_add rfl (by decide) (by omega) (by omega)
            exact sl_X7_houses_75  v1 v3 v4  h0 I_h0 r_v1 r_v4 rn0 k Q hk hQ n (v5 + 0) (v6 + 1) g26 I_g26 (ex15.trans e0) (ex16.trans e1) (fun k => (ex17 k).trans (e2 k)) (fun k => (ex18 k).trans (e3 k)) (by first | trivial | omega) (by omega)
          · skip
            try have tx23 : (v5 + 1).toInt = v5.toInt + 1 := i_add rfl (by decide) (by omega) (by omega)
            try have tx24 : (v6 + 1).toInt = v6.toInt + 1 := i_add rfl (by decide) (by omega) (by omega)
            exact sl_X7_houses_75  v1 v3 v4  h0 I_h0 r_v1 r_v4 rn0 k Q hk hQ n (v5 + 1) (v6 + 1) g26 I_g26 (ex15.trans e0) (ex16.trans e1) (fun k => (ex17 k).trans (e2 k)) (fun k => (ex18 k).trans (e3 k)) (by first | trivial | omega) (by omega)
    · skip
      exact hk v5 h I_h e0 e1 e2 e3 (by first | trivial | omega)
theorem s_X7_houses (h : dH) (I_h : InvM h) (v1 : Int32) (v2 : Int32) (v3 : Int32) (v4 : Int32)  : Sf (f_X7_houses v1 v2 v3 v4 h) (fun o => InvM o.2 ∧ o.2 0 3 = h 0 3 ∧ o.2 0 4 = h 0 4 ∧ (∀ k, o.2 14 k = h 14 k) ∧ (∀ k, o.2 16 k = h 16 k) ∧ True) := by
  unfold f_X7_houses
  have u_v1 := Int32.toInt_lt v1
  have w_v1 := Int32.le_toInt v1
  have u_v2 := Int32.toInt_lt v2
  have w_v2 := Int32.le_toInt v2
  have u_v3 := Int32.toInt_lt v3
  have w_v3 := Int32.le_toInt v3
  have u_v4 := Int32.toInt_lt v4
  have w_v4 := Int32.le_toInt v4
  refine sf_oP (s_X7_isSheet h I_h v1) (fun r1 pr1 => ?_)
  refine sf_ite (fun c2 => ?_) (fun c3 => ?_)
  · skip
    exact sf_some (⟨I_h, rfl, rfl, (fun _ => rfl), (fun _ => rfl), trivial⟩)
  · skip
    have tx1 : v2.toInt64.toInt = v2.toInt := l_i2l
    have tx2 : (0 : Int64).toInt = 0 := by decide
    have tx3 : (2 : Int64).toInt = 2 := by decide
    refine sf_oP (s_X7_in h I_h (v2.toInt64) 0 2) (fun r4 pr4 => ?_)
    refine sf_ite (fun c5 => ?_) (fun c6 => ?_)
    · skip
      exact sf_some (⟨I_h, rfl, rfl, (fun _ => rfl), (fun _ => rfl), trivial⟩)
    · skip
      have tx4 : v4.toInt64.toInt = v4.toInt := l_i2l
      have tx5 : (8 : Int64).toInt = 8 := by decide
      refine sf_oP (s_X7_in h I_h (v4.toInt64) 0 8) (fun r7 pr7 => ?_)
      refine sf_ite (fun c8 => ?_) (fun c9 => ?_)
      · skip
        exact sf_some (⟨I_h, rfl, rfl, (fun _ => rfl), (fun _ => rfl), trivial⟩)
      · skip
        try have shx := I_h.2 v1.toInt.toNat (by omega) (by omega)
        try have shy := congrArg Int32.toInt (e2 v1.toInt.toNat)
        try have shx := I_h.2 v1.toInt.toNat (by omega) (by omega)
        refine sf_guard (by omega) (fun c10 => ?_)
        refine sf_ite (fun c11 => ?_) (fun c12 => ?_)
        · skip
          try have shx := I_h.2 v1.toInt.toNat (by omega) (by omega)
          try have shy := congrArg Int32.toInt (e2 v1.toInt.toNat)
          try have shx := I_h.2 v1.toInt.toNat (by omega) (by omega)
          refine sf_guard (by omega) (fun c13 => ?_)
          refine sf_ite (fun c14 => ?_) (fun c15 => ?_)
          · skip
            exact sf_some (⟨I_h, rfl, rfl, (fun _ => rfl), (fun _ => rfl), trivial⟩)
          · skip
            have tx25 : (0 : Int32).toInt = 0 := by decide
            refine sl_X7_houses_75 v1 v3 v4  h I_h (by omega) (by omega) (by omega) _ _ (fun v5_29 g32 I_g32 eg32_0 eg32_1 eg32_2 eg32_3 px26 => ?_) (fun o ho => ⟨ho.1, (ho.2.1.trans rfl), (ho.2.2.1.trans rfl), (fun k => (ho.2.2.2.1 k).trans ((fun _ => rfl) k)), (fun k => (ho.2.2.2.2.1 k).trans ((fun _ => rfl) k)), trivial⟩) fuel0 (0 : Int32) (0 : Int32) h I_h rfl rfl (fun _ => rfl) (fun _ => rfl) (by first | trivial | omega) (by have := fuel0_eq; omega)
            have yx27 := congrArg Int32.toInt eg32_0
            have yx28 := congrArg Int32.toInt eg32_1
            exact sf_some (⟨I_g32, eg32_0, eg32_1, eg32_2, eg32_3, trivial⟩)
        · skip
          try have shx := I_h.2 v1.toInt.toNat (by omega) (by omega)
          try have shy := congrArg Int32.toInt (e2 v1.toInt.toNat)
          try have shx := I_h.2 v1.toInt.toNat (by omega) (by omega)
          refine sf_guard (by omega) (fun c33 => ?_)
          refine sf_ite (fun c34 => ?_) (fun c35 => ?_)
          · skip
            try have shx := I_h.2 v1.toInt.toNat (by omega) (by omega)
            try have shy := congrArg Int32.toInt (e2 v1.toInt.toNat)
            try have shx := I_h.2 v1.toInt.toNat (by omega) (by omega)
            refine sf_guard (by omega) (fun c36 => ?_)
            refine sf_ite (fun c37 => ?_) (fun c38 => ?_)
            · skip
              exact sf_some (⟨I_h, rfl, rfl, (fun _ => rfl), (fun _ => rfl), trivial⟩)
            · skip
              have tx29 : (0 : Int32).toInt = 0 := by decide
              refine sl_X7_houses_75 v1 v3 v4  h I_h (by omega) (by omega) (by omega) _ _ (fun v5_39 g42 I_g42 eg42_0 eg42_1 eg42_2 eg42_3 px30 => ?_) (fun o ho => ⟨ho.1, (ho.2.1.trans rfl), (ho.2.2.1.trans rfl), (fun k => (ho.2.2.2.1 k).trans ((fun _ => rfl) k)), (fun k => (ho.2.2.2.2.1 k).trans ((fun _ => rfl) k)), trivial⟩) fuel0 (0 : Int32) (0 : Int32) h I_h rfl rfl (fun _ => rfl) (fun _ => rfl) (by first | trivial | omega) (by have := fuel0_eq; omega)
              have yx31 := congrArg Int32.toInt eg42_0
              have yx32 := congrArg Int32.toInt eg42_1
              exact sf_some (⟨I_g42, eg42_0, eg42_1, eg42_2, eg42_3, trivial⟩)
          · skip
            exact sf_some (⟨I_h, rfl, rfl, (fun _ => rfl), (fun _ => rfl), trivial⟩)
theorem s_X7_over (h : dH) (I_h : InvM h) (v0 : Int32)  : Sf (f_X7_over v0) (fun r => (v0.toInt = 0 ∧ r.toInt = -1) ∨ (v0.toInt = 3 ∧ r.toInt = 1) ∨ (v0.toInt = 4 ∧ r.toInt = 2) ∨ (¬ v0.toInt = 0 ∧ ¬ v0.toInt = 3 ∧ ¬ v0.toInt = 4 ∧ r.toInt = 0)) := by
  unfold f_X7_over
  have u_v0 := Int32.toInt_lt v0
  have w_v0 := Int32.le_toInt v0
  refine sf_ite (fun c1 => ?_) (fun c2 => ?_)
  · skip
    have tx1 : ((-1) : Int32).toInt = (-1) := by decide
    exact sf_some ((show (v0.toInt = 0 ∧ ((-1) : Int32).toInt = -1) ∨ (v0.toInt = 3 ∧ ((-1) : Int32).toInt = 1) ∨ (v0.toInt = 4 ∧ ((-1) : Int32).toInt = 2) ∨ (¬ v0.toInt = 0 ∧ ¬ v0.toInt = 3 ∧ ¬ v0.toInt = 4 ∧ ((-1) : Int32).toInt = 0) by omega))
  · skip
    refine sf_ite (fun c3 => ?_) (fun c4 => ?_)
    · skip
      have tx2 : (1 : Int32).toInt = 1 := by decide
      exact sf_some ((show (v0.toInt = 0 ∧ (1 : Int32).toInt = -1) ∨ (v0.toInt = 3 ∧ (1 : Int32).toInt = 1) ∨ (v0.toInt = 4 ∧ (1 : Int32).toInt = 2) ∨ (¬ v0.toInt = 0 ∧ ¬ v0.toInt = 3 ∧ ¬ v0.toInt = 4 ∧ (1 : Int32).toInt = 0) by omega))
    · skip
      refine sf_ite (fun c5 => ?_) (fun c6 => ?_)
      · skip
        have tx3 : (2 : Int32).toInt = 2 := by decide
        exact sf_some ((show (v0.toInt = 0 ∧ (2 : Int32).toInt = -1) ∨ (v0.toInt = 3 ∧ (2 : Int32).toInt = 1) ∨ (v0.toInt = 4 ∧ (2 : Int32).toInt = 2) ∨ (¬ v0.toInt = 0 ∧ ¬ v0.toInt = 3 ∧ ¬ v0.toInt = 4 ∧ (2 : Int32).toInt = 0) by omega))
      · skip
        have tx4 : (0 : Int32).toInt = 0 := by decide
        exact sf_some ((show (v0.toInt = 0 ∧ (0 : Int32).toInt = -1) ∨ (v0.toInt = 3 ∧ (0 : Int32).toInt = 1) ∨ (v0.toInt = 4 ∧ (0 : Int32).toInt = 2) ∨ (¬ v0.toInt = 0 ∧ ¬ v0.toInt = 3 ∧ ¬ v0.toInt = 4 ∧ (0 : Int32).toInt = 0) by omega))
theorem sl_X7_taken_33 (v2 : Int32)  (h : dH) (I_h : InvM h)  (k : Int32 → Option (Int32)) (Q : Int32 → Prop) (hk : ∀ (v3 : Int32), True → Sf (k v3) Q)  : ∀ (n : Nat) (v3 : Int32), True → rkx v3 < (n : Int) → Sf (l_X7_taken_33 v2 k n v3) Q
  | 0, v3, hi, hm => by have := rk_ok v3; omega
  | n + 1, v3, hi, hm => by
    rw [l_X7_taken_33]
    have rk0 := rk_ok v3
    refine sf_ite (fun c8 => ?_) (fun c9 => ?_)
    · skip
      exact hk v3 (by first | trivial | omega)
    · skip
      refine sf_ite (fun c10 => ?_) (fun c11 => ?_)
      · skip
        exact hk v3 (by first | trivial | omega)
      · skip
        refine sf_oP (s_X7_over h I_h v3) (fun r12 pr12 => ?_)
        have kx6 := rk_ok r12
        exact sl_X7_taken_33  v2  h I_h  k Q hk n r12 (by first | trivial | omega) (by omega)
theorem s_X7_taken (h : dH) (I_h : InvM h) (v1 : Int32) (v2 : Int32)  : Sf (f_X7_taken v1 v2 h) (fun r => True) := by
  unfold f_X7_taken
  have u_v1 := Int32.toInt_lt v1
  have w_v1 := Int32.le_toInt v1
  have u_v2 := Int32.toInt_lt v2
  have w_v2 := Int32.le_toInt v2
  have tx1 : v2.toInt64.toInt = v2.toInt := l_i2l
  have tx2 : (0 : Int64).toInt = 0 := by decide
  have tx3 : (5 : Int64).toInt = 5 := by decide
  refine sf_oP (s_X7_in h I_h (v2.toInt64) 0 5) (fun r1 pr1 => ?_)
  have kx4 := rk_ok r1
  refine sf_ite (fun c2 => ?_) (fun c3 => ?_)
  · skip
    exact sf_some (trivial)
  · skip
    refine sf_oP (s_X7_isHouse h I_h v1) (fun r4 pr4 => ?_)
    have kx5 := rk_ok r4
    refine sf_ite (fun c5 => ?_) (fun c6 => ?_)
    · skip
      exact sf_some (trivial)
    · skip
      refine sf_guard (by omega) (fun c7 => ?_)
      have kx7 := rk_ok (h 4 (v1.toInt.toNat))
      refine sl_X7_taken_33 v2  h I_h  _ _ (fun v3_13 px8 => ?_)  fuel0 (h 4 (v1.toInt.toNat))  (by first | trivial | omega) (by have := fuel0_eq; omega)
      refine sf_ite (fun c14 => ?_) (fun c15 => ?_)
      · skip
        refine sf_guard (by omega) (fun c16 => ?_)
        exact sf_some (trivial)
      · skip
        exact sf_some (trivial)
end
end

section
/-! what a sheet's making answers -/
noncomputable section
theorem oP_some {α : Type} (x : Int32) (f : Int32 → Option α) : oP (some x) f = f x := rfl
theorem oP_ite {α : Type} {p : Prop} [Decidable p] (a b : Option Int32) (f : Int32 → Option α) : oP (if p then a else b) f = if p then oP a f else oP b f := by
  by_cases h : p
  · rw [if_pos h, if_pos h]
  · rw [if_neg h, if_neg h]
theorem ti0 : (0 : Int32).toInt = 0 := by decide
theorem ti1 : (1 : Int32).toInt = 1 := by decide
def ansS (v1 v2 v3 : Int32) : Int32 := if v1.toInt < 0 ∨ 3 < v1.toInt ∨ v2.toInt < -1 ∨ 2 < v2.toInt ∨ (0 ≤ v2.toInt ∧ 40 < v3.toInt) then -2 else if 0 ≤ v2.toInt ∧ v3.toInt < 0 then -14 else 1
theorem ansS_bad {v1 v2 v3 : Int32} (h : v1.toInt < 0 ∨ 3 < v1.toInt ∨ v2.toInt < -1 ∨ 2 < v2.toInt ∨ (0 ≤ v2.toInt ∧ 40 < v3.toInt)) : ansS v1 v2 v3 = -2 := if_pos h
theorem ansS_neg {v1 v2 v3 : Int32} (h : ¬ (v1.toInt < 0 ∨ 3 < v1.toInt ∨ v2.toInt < -1 ∨ 2 < v2.toInt ∨ (0 ≤ v2.toInt ∧ 40 < v3.toInt))) (h2 : 0 ≤ v2.toInt ∧ v3.toInt < 0) : ansS v1 v2 v3 = -14 := (if_neg h).trans (if_pos h2)
theorem ansS_one {v1 v2 v3 : Int32} (h : ¬ (v1.toInt < 0 ∨ 3 < v1.toInt ∨ v2.toInt < -1 ∨ 2 < v2.toInt ∨ (0 ≤ v2.toInt ∧ 40 < v3.toInt))) (h2 : ¬ (0 ≤ v2.toInt ∧ v3.toInt < 0)) : ansS v1 v2 v3 = 1 := (if_neg h).trans (if_neg h2)
/-- every answer of a tree is this one -/
def Al {α : Type} (t : Option α) (P : α → Prop) : Prop := ∀ o, t = some o → P o
section AL
variable {α : Type} {A B : Option α} {P : α → Prop}
theorem al_none : Al (none : Option α) P := fun _ h => by cases h
theorem al_some {o : α} (h : P o) : Al (some o) P := fun _ e => by cases e; exact h
theorem al_ite {p : Prop} [Decidable p] (h1 : p → Al A P) (h2 : ¬ p → Al B P) : Al (if p then A else B) P := by
  by_cases hp : p
  · rw [if_pos hp]; exact h1 hp
  · rw [if_neg hp]; exact h2 hp
theorem al_oP {t : Option Int32} {f : Int32 → Option α} (h : ∀ r, t = some r → Al (f r) P) : Al (oP t f) P := by
  intro o ho
  cases t with
  | none => cases ho
  | some r => exact h r rfl o ho
theorem al_oV {t : Option dH} {f : dH → Option α} (h : ∀ g, Al (f g) P) : Al (oV t f) P := by
  intro o ho
  cases t with
  | none => cases ho
  | some r => exact h r o ho
theorem al_oI {t : Option (Int32 × dH)} {f : Int32 → dH → Option α} (h : ∀ r g, t = some (r, g) → Al (f r g) P) : Al (oI t f) P := by
  intro o ho
  cases t with
  | none => cases ho
  | some r => exact h r.1 r.2 rfl o ho
theorem al_oH {u : dH} {f : dH → Option α} (h : ∀ g, Al (f g) P) : Al (oH u f) P := h u
end AL
theorem isSheet6 {v r : Int32} (h : f_X6_isSheet v = some r) : (r.toInt = 0 ∧ (v.toInt < 0 ∨ 3 < v.toInt)) ∨ (r.toInt = 1 ∧ 0 ≤ v.toInt ∧ v.toInt ≤ 3) := by
  refine (show Al (f_X6_isSheet v) (fun r => (r.toInt = 0 ∧ (v.toInt < 0 ∨ 3 < v.toInt)) ∨ (r.toInt = 1 ∧ 0 ≤ v.toInt ∧ v.toInt ≤ 3)) from ?_) r h
  unfold f_X6_isSheet
  refine al_ite (fun c => al_some (by rw [ti0]; omega)) (fun c => al_ite (fun d => al_some (by rw [ti1]; omega)) (fun d => al_some (by rw [ti0]; omega)))
theorem isSort6 {v r : Int32} (h : f_X6_isSort v = some r) : (r.toInt = 0 ∧ (v.toInt < 0 ∨ 2 < v.toInt)) ∨ (r.toInt = 1 ∧ 0 ≤ v.toInt ∧ v.toInt ≤ 2) := by
  refine (show Al (f_X6_isSort v) (fun r => (r.toInt = 0 ∧ (v.toInt < 0 ∨ 2 < v.toInt)) ∨ (r.toInt = 1 ∧ 0 ≤ v.toInt ∧ v.toInt ≤ 2)) from ?_) r h
  unfold f_X6_isSort
  refine al_ite (fun c => al_some (by rw [ti0]; omega)) (fun c => al_ite (fun d => al_some (by rw [ti1]; omega)) (fun d => al_some (by rw [ti0]; omega)))
theorem in7 {a b c : Int64} {r : Int32} (h : f_X7_in a b c = some r) : (r.toInt = 0 ∧ (a.toInt < b.toInt ∨ c.toInt < a.toInt)) ∨ (r.toInt = 1 ∧ b.toInt ≤ a.toInt ∧ a.toInt ≤ c.toInt) := by
  refine (show Al (f_X7_in a b c) (fun r => (r.toInt = 0 ∧ (a.toInt < b.toInt ∨ c.toInt < a.toInt)) ∨ (r.toInt = 1 ∧ b.toInt ≤ a.toInt ∧ a.toInt ≤ c.toInt)) from ?_) r h
  unfold f_X7_in
  have h1 := dlcmp_ok a b
  have h2 := dlcmp_ok a c
  refine al_ite (fun c => al_some (by rw [ti0]; omega)) (fun c => al_ite (fun d => al_some (by first | (rw [ti1]; omega) | (rw [ti0]; omega))) (fun d => al_some (by first | (rw [ti1]; omega) | (rw [ti0]; omega))))
theorem isSheet7 {v r : Int32} (h : f_X7_isSheet v = some r) : (r.toInt = 0 ∧ (v.toInt < 0 ∨ 3 < v.toInt)) ∨ (r.toInt = 1 ∧ 0 ≤ v.toInt ∧ v.toInt ≤ 3) := by
  refine (show Al (f_X7_isSheet v) (fun r => (r.toInt = 0 ∧ (v.toInt < 0 ∨ 3 < v.toInt)) ∨ (r.toInt = 1 ∧ 0 ≤ v.toInt ∧ v.toInt ≤ 3)) from ?_) r h
  unfold f_X7_isSheet
  refine al_oP (fun r hr => ?_)
  have h9 := in7 hr
  rw [l_i2l, show (0 : Int64).toInt = 0 by decide, show (3 : Int64).toInt = 3 by decide] at h9
  refine al_ite (fun _ => al_some (by omega)) (fun _ => al_none)
theorem l_sheet1 (v1 v2 v3 : Int32) : ∀ (n : Nat) (v4 : Int32) (h : dH), Al (l_X7_sheet_77 v1 v2 v3 (fun g => some (1, g)) n v4 h) (fun o => o.1 = 1)
  | 0, _, _ => al_none
  | n + 1, v4, h => by
    rw [l_X7_sheet_77]
    refine al_ite (fun _ => al_ite (fun _ => al_some rfl) (fun _ => al_ite (fun _ => al_oH (fun g => l_sheet1 v1 v2 v3 n _ g)) (fun _ => al_none))) (fun _ => al_some rfl)
theorem a_X6_sheet (v1 v2 v3 : Int32) (h : dH) : Al (f_X6_sheet v1 v2 v3 h) (fun o => o.1 = ansS v1 v2 v3) := by
  unfold f_X6_sheet
  refine al_oP (fun r hr => ?_)
  have h1 := isSheet6 hr
  refine al_ite (fun c => al_some (ansS_bad (by omega)).symm) (fun c => al_ite (fun c2 => ?_) (fun c2 => al_oP (fun r2 hr2 => ?_)))
  · refine al_ite (fun c3 => al_ite (fun _ => al_oV (fun g => al_some (ansS_one (by omega) (by omega)).symm)) (fun _ => al_none)) (fun c3 => absurd c2 c3)
  · have h2 := isSort6 hr2
    refine al_ite (fun c3 => al_some (ansS_bad (by omega)).symm) (fun c3 => al_ite (fun c4 => absurd c4 c2) (fun c4 => al_ite (fun c5 => al_some (ansS_bad (by omega)).symm) (fun c5 => al_ite (fun c6 => al_some (ansS_neg (by omega) (by omega)).symm) (fun c6 => al_ite (fun _ => al_oV (fun g => al_some (ansS_one (by omega) (by omega)).symm)) (fun _ => al_none)))))
theorem al_sheet {v1 v2 v3 : Int32} {n : Nat} {v4 : Int32} {h : dH} (e : ansS v1 v2 v3 = 1) : Al (l_X7_sheet_77 v1 v2 v3 (fun g => some (1, g)) n v4 h) (fun o => o.1 = ansS v1 v2 v3) := fun o ho => (l_sheet1 v1 v2 v3 n v4 h o ho).trans e.symm
theorem a_X7_sheet (v1 v2 v3 : Int32) (h : dH) : Al (f_X7_sheet v1 v2 v3 h) (fun o => o.1 = ansS v1 v2 v3) := by
  unfold f_X7_sheet
  refine al_oP (fun r hr => ?_)
  have h1 := isSheet7 hr
  refine al_ite (fun c => al_some (ansS_bad (by omega)).symm) (fun c => al_oP (fun r2 hr2 => ?_))
  have h2 := in7 hr2
  rw [l_i2l, show (-1 : Int64).toInt = -1 by decide, show (2 : Int64).toInt = 2 by decide] at h2
  repeat' (with_reducible first | exact al_none | refine al_ite (fun _ => ?_) (fun _ => ?_) | refine al_oH (fun _ => ?_))
  all_goals with_reducible first
    | exact al_sheet (ansS_one (by omega) (by omega))
    | exact al_some (ansS_bad (by omega)).symm
    | exact al_some (ansS_neg (by omega) (by omega)).symm
end
end

section
/-! TOKENS: the bytes of a text, read alike by class and reference -/
noncomputable section
def isBl (b : Int) : Prop := b = 32 ∨ b = 10
def isDg (b : Int) : Prop := 48 ≤ b ∧ b ≤ 57
def isSm (b : Int) : Prop := 97 ≤ b ∧ b ≤ 122
/-- from p on f holds, up to q, where it ends -/
def Run (f : Int → Prop) (B : Nat → Int) (N p q : Nat) : Prop := p ≤ q ∧ q ≤ N ∧ (∀ j, p ≤ j → j < q → f (B j)) ∧ (q < N → ¬ f (B q))
theorem Run.uniq {f : Int → Prop} {B : Nat → Int} {N p q r : Nat} (h1 : Run f B N p q) (h2 : Run f B N p r) : q = r := by
  obtain ⟨a1, a2, a3, a4⟩ := h1
  obtain ⟨b1, b2, b3, b4⟩ := h2
  rcases Nat.lt_trichotomy q r with h | h | h
  · exact absurd (b3 q a1 h) (a4 (by omega))
  · exact h
  · exact absurd (a3 r b1 h) (b4 (by omega))
theorem Run.stop {f : Int → Prop} {B : Nat → Int} {N p : Nat} (h : p ≤ N) (hn : p < N → ¬ f (B p)) : Run f B N p p := ⟨Nat.le_refl _, h, fun _ _ _ => by omega, hn⟩
theorem Run.step {f : Int → Prop} {B : Nat → Int} {N p q : Nat} (hp : f (B p)) (h : Run f B N (p + 1) q) : Run f B N p q := by
  obtain ⟨a1, a2, a3, a4⟩ := h
  refine ⟨by omega, a2, fun j h1 h2 => ?_, a4⟩
  by_cases e : j = p
  · rw [e]; exact hp
  · exact a3 j (by omega) h2
/-- what so many digits say -/
def numV (B : Nat → Int) (s : Nat) : Nat → Int
  | 0 => 0
  | n + 1 => 10 * numV B s n + (B (s + n) - 48)
/-- the letters from s to e are these -/
def isW (B : Nat → Int) (s e : Nat) (l : List Int) : Prop := e = s + l.length ∧ ∀ j, j < l.length → some (B (s + j)) = l[j]?
def wName (i : Nat) : List Int := [[115, 116, 114, 101, 110, 103, 116, 104], [110, 117, 109, 98, 101, 114], [111, 116, 104, 101, 114], [115, 101, 97, 116, 115], [121, 101, 97, 114], [97, 112, 97, 114, 116]].getD i []
def wKey (i : Nat) : List Int := [[109, 101, 101, 116, 115], [102, 97, 100, 101, 115], [115, 111, 117, 110, 100, 115], [111, 114], [97, 110, 100], [110, 111, 116]].getD i []
/-- the token behind p: its code c in the class, its start and end, what it writes into a text -/
def Tok (B : Nat → Int) (N p : Nat) (c : Int) (s e : Nat) (w : Int) : Prop := Run isBl B N p s ∧
  ((s = N ∧ c = 300 ∧ e = N) ∨
   (s < N ∧ isDg (B s) ∧ Run isDg B N s e ∧ ((s + 4 < e ∧ c = 301) ∨ (e ≤ s + 4 ∧ c = 302 ∧ w = numV B s (e - s)))) ∨
   (s < N ∧ isSm (B s) ∧ Run isSm B N s e ∧ ((∃ i, i < 6 ∧ isW B s e (wName i) ∧ c = 303 ∧ w = -1 - (i : Int)) ∨ (∃ i, i < 6 ∧ isW B s e (wKey i) ∧ c = 304 + (i : Int)) ∨ ((∀ i, i < 6 → ¬ isW B s e (wName i) ∧ ¬ isW B s e (wKey i)) ∧ c = 301))) ∨
   (s < N ∧ ¬ isDg (B s) ∧ ¬ isSm (B s) ∧ ¬ isBl (B s) ∧ c = B s ∧ e = s + 1))
theorem al_oH' {α : Type} {P : α → Prop} {u : dH} {f : dH → Option α} (h : ∀ g, g = u → Al (f g) P) : Al (oH u f) P := h u rfl
/-! the reference's bytes -/
def mB (h : dH) (j : Nat) : Int := (h 1 ((h 0 20).toInt.toNat + j)).toInt
def mOk (h : dH) : Prop := 0 ≤ (h 0 20).toInt ∧ (h 0 20).toInt ≤ 800 ∧ 0 ≤ (h 0 21).toInt ∧ (h 0 21).toInt ≤ 160
theorem byte_ok {v : Int32} {h : dH} (ho : mOk h) (h0 : 0 ≤ v.toInt) : Al (f_X7_byteAt v h) (fun r => (v.toInt < (h 0 21).toInt ∧ r.toInt = mB h v.toInt.toNat) ∨ ((h 0 21).toInt ≤ v.toInt ∧ r.toInt = -1)) := by
  unfold f_X7_byteAt
  obtain ⟨o1, o2, o3, o4⟩ := ho
  refine al_ite (fun c => ?_) (fun c => al_some (Or.inr ⟨by omega, by decide⟩))
  have e : ((h 0 20) + v).toInt = (h 0 20).toInt + v.toInt := i_add rfl rfl (by omega) (by omega)
  refine al_ite (fun _ => al_some (Or.inl ⟨c, ?_⟩)) (fun _ => al_none)
  unfold mB
  rw [e, Int.toNat_add o1 h0]
/-- a heap that differs in the reference's own numbers from 22 on alone -/
def mSame (g h : dH) : Prop := (∀ a k, ¬ a = 0 → g a k = h a k) ∧ ∀ k, ¬ (22 ≤ k ∧ k ≤ 28) → g 0 k = h 0 k
theorem mSame.refl (h : dH) : mSame h h := ⟨fun _ _ _ => rfl, fun _ _ => rfl⟩
theorem mSame.trans {f g h : dH} (h1 : mSame f g) (h2 : mSame g h) : mSame f h := ⟨fun a k q => (h1.1 a k q).trans (h2.1 a k q), fun k q => (h1.2 k q).trans (h2.2 k q)⟩
theorem mSame.up {h : dH} {k : Nat} {x : Int32} (hk : 22 ≤ k ∧ k ≤ 28) : mSame (dU h 0 k x) h := ⟨fun a j q => dU_ne (fun e => q e.1), fun j q => dU_ne (fun e => q (by omega))⟩
theorem mSame.bytes {g h : dH} (q : mSame g h) : mB g = mB h := by
  funext j
  unfold mB
  rw [q.2 20 (by omega), q.1 1 _ (by decide)]
theorem mSame.ok {g h : dH} (q : mSame g h) (o : mOk h) : mOk g := by
  unfold mOk
  rw [q.2 20 (by omega), q.2 21 (by omega)]
  exact o
theorem inc22 {h : dH} (h0 : 0 ≤ (h 0 22).toInt) (h1 : (h 0 22).toInt ≤ 1000) : ((dU h 0 22 ((h 0 22) + 1)) 0 22).toInt = (h 0 22).toInt + 1 := by
  rw [dU_eq]
  exact i_add rfl (by decide) (by omega) (by omega)
theorem inc22n {h : dH} (h0 : 0 ≤ (h 0 22).toInt) (h1 : (h 0 22).toInt ≤ 1000) : ((dU h 0 22 ((h 0 22) + 1)) 0 22).toInt.toNat = (h 0 22).toInt.toNat + 1 := by
  rw [inc22 h0 h1]; omega
/-- letters are passed over -/
theorem next_100 {k : dH → Option dH} {P : dH → Prop} : ∀ (n : Nat) (h : dH), mOk h → 0 ≤ (h 0 22).toInt → (h 0 22).toInt ≤ (h 0 21).toInt →
    (∀ g, mSame g h → (g 0 23) = (h 0 23) → (g 0 24) = (h 0 24) → (g 0 25) = (h 0 25) → (g 0 26) = (h 0 26) → (g 0 27) = (h 0 27) → (g 0 28) = (h 0 28) → 0 ≤ (g 0 22).toInt → Run isSm (mB h) (h 0 21).toInt.toNat (h 0 22).toInt.toNat (g 0 22).toInt.toNat → Al (k g) P) → Al (l_X7_next_100 k n h) P
  | 0, _, _, _, _, _ => al_none
  | n + 1, h, ho, h0, h1, K => by
    rw [l_X7_next_100]
    have o4 := ho.2.2.2
    refine al_oP (fun r hr => al_oP (fun r2 hr2 => ?_))
    have hb := byte_ok ho h0 r hr
    have hi := in7 hr2
    rw [l_i2l, show (97 : Int64).toInt = 97 by decide, show (122 : Int64).toInt = 122 by decide] at hi
    refine al_ite (fun c => ?_) (fun c => al_oH' (fun g hg => ?_))
    · refine K h (mSame.refl h) rfl rfl rfl rfl rfl rfl h0 (Run.stop (by omega) (fun hn => ?_))
      unfold isSm
      omega
    · have hs : isSm (mB h (h 0 22).toInt.toNat) := by unfold isSm; omega
      have hlt : (h 0 22).toInt < (h 0 21).toInt := by omega
      have hm : mSame g h := by rw [hg]; exact mSame.up (by omega)
      have e22 : (g 0 22).toInt = (h 0 22).toInt + 1 := by rw [hg]; exact inc22 h0 (by omega)
      have e21 : g 0 21 = h 0 21 := hm.2 21 (by omega)
      have ek : ∀ j, ¬ j = 22 → g 0 j = h 0 j := fun j hj => by rw [hg]; exact dU_ne (by omega)
      refine next_100 n g (hm.ok ho) (by omega) (by rw [e21]; omega) (fun f q1 q2 q3 q4 q5 q6 q7 q8 q9 => ?_)
      refine K f (q1.trans hm) (q2.trans (ek 23 (by omega))) (q3.trans (ek 24 (by omega))) (q4.trans (ek 25 (by omega))) (q5.trans (ek 26 (by omega))) (q6.trans (ek 27 (by omega))) (q7.trans (ek 28 (by omega))) q8 (Run.step hs ?_)
      rw [hm.bytes, e21, e22] at q9
      rw [show (h 0 22).toInt.toNat + 1 = ((h 0 22).toInt + 1).toNat by omega]
      exact q9
end
end

section
/-! the reference's next token -/
noncomputable section
theorem lt32 (x : Int32) : -2147483648 ≤ x.toInt ∧ x.toInt < 2147483648 := ⟨Int32.le_toInt x, Int32.toInt_lt x⟩
/-- what a step of the place leaves -/
theorem step22 {g h : dH} (hg : g = dU h 0 22 ((h 0 22) + 1)) (h0 : 0 ≤ (h 0 22).toInt) (h1 : (h 0 22).toInt ≤ 1000) : mSame g h ∧ (g 0 22).toInt = (h 0 22).toInt + 1 ∧ (∀ j, ¬ j = 22 → g 0 j = h 0 j) := by
  rw [hg]
  exact ⟨mSame.up (by omega), inc22 h0 h1, fun j hj => dU_ne (by omega)⟩
/-- blanks are passed over -/
theorem next_0 {k : dH → Option dH} {P : dH → Prop} : ∀ (n : Nat) (h : dH), mOk h → 0 ≤ (h 0 22).toInt → (h 0 22).toInt ≤ (h 0 21).toInt →
    (∀ g, mSame g h → (∀ j, ¬ j = 22 → g 0 j = h 0 j) → 0 ≤ (g 0 22).toInt → Run isBl (mB h) (h 0 21).toInt.toNat (h 0 22).toInt.toNat (g 0 22).toInt.toNat → Al (k g) P) → Al (l_X7_next_0 k n h) P
  | 0, _, _, _, _, _ => al_none
  | n + 1, h, ho, h0, h1, K => by
    rw [l_X7_next_0]
    have o4 := ho.2.2.2
    have again : isBl (mB h (h 0 22).toInt.toNat) → (h 0 22).toInt < (h 0 21).toInt → ∀ g, g = dU h 0 22 ((h 0 22) + 1) → Al (l_X7_next_0 k n g) P := by
      intro hs hlt g hg
      obtain ⟨hm, e22, ek⟩ := step22 hg h0 (by omega)
      have e21 : g 0 21 = h 0 21 := hm.2 21 (by omega)
      refine next_0 n g (hm.ok ho) (by omega) (by rw [e21]; omega) (fun f q1 q2 q8 q9 => ?_)
      refine K f (q1.trans hm) (fun j hj => (q2 j hj).trans (ek j hj)) q8 (Run.step hs ?_)
      rw [hm.bytes, e21, e22] at q9
      rw [show (h 0 22).toInt.toNat + 1 = ((h 0 22).toInt + 1).toNat by omega]
      exact q9
    refine al_oP (fun r hr => ?_)
    have hb := byte_ok ho h0 r hr
    refine al_ite (fun c => al_oH' (again (by unfold isBl; omega) (by omega))) (fun c => al_oP (fun r2 hr2 => ?_))
    have hb2 := byte_ok ho h0 r2 hr2
    refine al_ite (fun c2 => al_oH' (again (by unfold isBl; omega) (by omega))) (fun c2 => ?_)
    refine K h (mSame.refl h) (fun _ _ => rfl) h0 (Run.stop (by omega) (fun hn => ?_))
    unfold isBl
    omega
/-- a number's digits -/
theorem next_160 {k : Int32 → dH → Option dH} {P : dH → Prop} (s : Nat) : ∀ (n : Nat) (v : Int32) (h : dH), mOk h → 0 ≤ (h 0 22).toInt → (h 0 22).toInt ≤ (h 0 21).toInt → 0 ≤ v.toInt → v.toInt + s = (h 0 22).toInt →
    (0 ≤ (h 0 25).toInt ∧ (h 0 25).toInt ≤ 9999 ∧ (v.toInt ≤ 0 → (h 0 25).toInt ≤ 0) ∧ (v.toInt ≤ 1 → (h 0 25).toInt ≤ 9) ∧ (v.toInt ≤ 2 → (h 0 25).toInt ≤ 99) ∧ (v.toInt ≤ 3 → (h 0 25).toInt ≤ 999)) → (v.toInt ≤ 4 → (h 0 25).toInt = numV (mB h) s v.toInt.toNat) →
    (∀ (w : Int32) (g : dH), mSame g h → (∀ j, ¬ j = 22 → ¬ j = 25 → g 0 j = h 0 j) → 0 ≤ (g 0 22).toInt → w.toInt + s = (g 0 22).toInt → (w.toInt ≤ 4 → (g 0 25).toInt = numV (mB h) s w.toInt.toNat) → Run isDg (mB h) (h 0 21).toInt.toNat (h 0 22).toInt.toNat (g 0 22).toInt.toNat → Al (k w g) P) → Al (l_X7_next_160 k n v h) P
  | 0, _, _, _, _, _, _, _, _, _, _ => al_none
  | n + 1, v, h, ho, h0, h1, v0, vs, wb, wv, K => by
    rw [l_X7_next_160]
    have o4 := ho.2.2.2
    refine al_oP (fun r hr => al_oP (fun r2 hr2 => ?_))
    have hb := byte_ok ho h0 r hr
    have hi := in7 hr2
    rw [l_i2l, show (48 : Int64).toInt = 48 by decide, show (57 : Int64).toInt = 57 by decide] at hi
    have tv : (v + 1).toInt = v.toInt + 1 := i_add rfl (by decide) (by omega) (by omega)
    have again : isDg (mB h (h 0 22).toInt.toNat) → (h 0 22).toInt < (h 0 21).toInt → ∀ (x : Int32) (g : dH), g = dU (dU h 0 25 x) 0 22 (((dU h 0 25 x) 0 22) + 1) → (0 ≤ x.toInt ∧ x.toInt ≤ 9999 ∧ (v.toInt + 1 ≤ 1 → x.toInt ≤ 9) ∧ (v.toInt + 1 ≤ 2 → x.toInt ≤ 99) ∧ (v.toInt + 1 ≤ 3 → x.toInt ≤ 999)) → (v.toInt + 1 ≤ 4 → x.toInt = numV (mB h) s (v.toInt.toNat + 1)) → Al (l_X7_next_160 k n (v + 1) g) P := by
      intro hs hlt x g hg xb xv
      have e22' : (dU h 0 25 x) 0 22 = h 0 22 := dU_ne (by omega)
      obtain ⟨hm', e22, ek⟩ := step22 hg (by rw [e22']; exact h0) (by rw [e22']; omega)
      rw [e22'] at e22
      have hm : mSame g h := hm'.trans (mSame.up (by omega))
      have e21 : g 0 21 = h 0 21 := hm.2 21 (by omega)
      have e25 : g 0 25 = x := (ek 25 (by omega)).trans dU_eq
      refine next_160 s n (v + 1) g (hm.ok ho) (by omega) (by rw [e21]; omega) (by omega) (by omega) ?_ ?_ (fun w f q1 q2 q3 q4 q5 q6 => ?_)
      · rw [e25, tv]
        exact ⟨xb.1, xb.2.1, fun z => by omega, fun z => xb.2.2.1 (by omega), fun z => xb.2.2.2.1 (by omega), fun z => xb.2.2.2.2 (by omega)⟩
      · intro z
        rw [e25, hm.bytes, show (v + 1).toInt.toNat = v.toInt.toNat + 1 by omega]
        exact xv (by omega)
      · rw [hm.bytes] at q5
        refine K w f (q1.trans hm) (fun j j1 j2 => (q2 j j1 j2).trans ((ek j j1).trans (dU_ne (by omega)))) q3 q4 q5 (Run.step hs ?_)
        rw [hm.bytes, e21, e22] at q6
        rw [show (h 0 22).toInt.toNat + 1 = ((h 0 22).toInt + 1).toNat by omega]
        exact q6
    refine al_ite (fun c => ?_) (fun c => ?_)
    · refine K v h (mSame.refl h) (fun _ _ _ => rfl) h0 vs wv (Run.stop (by omega) (fun hn => ?_))
      unfold isDg
      omega
    · have hs : isDg (mB h (h 0 22).toInt.toNat) := by unfold isDg; omega
      have hlt : (h 0 22).toInt < (h 0 21).toInt := by omega
      refine al_ite (fun c4 => al_oP (fun r3 hr3 => ?_)) (fun c4 => ?_)
      · have hb3 := byte_ok ho h0 r3 hr3
        have t1 : (10 * (h 0 25).toInt64).toInt = 10 * (h 0 25).toInt := l_mul (by decide) l_i2l (by omega) (by omega)
        have t2 : (10 * (h 0 25).toInt64 + r3.toInt64).toInt = 10 * (h 0 25).toInt + r3.toInt := l_add t1 l_i2l (by omega) (by omega)
        have t3 : (10 * (h 0 25).toInt64 + r3.toInt64 - 48).toInt = 10 * (h 0 25).toInt + r3.toInt - 48 := l_sub t2 (by decide) (by omega) (by omega)
        refine al_ite (fun c5 => ?_) (fun _ => al_none)
        have tx : ((10 * (h 0 25).toInt64 + r3.toInt64 - 48).toInt32).toInt = 10 * (h 0 25).toInt + r3.toInt - 48 := by
          have := congrArg Int64.toInt c5
          rw [l_i2l, t3] at this
          exact this
        refine al_oH' (fun g hg => al_oH' (fun f hf => ?_))
        rw [hg] at hf
        unfold isDg at hs
        refine again hs hlt _ f hf (by rw [tx]; omega) (fun z => ?_)
        rw [tx, numV, ← wv (by omega), show s + v.toInt.toNat = (h 0 22).toInt.toNat by omega]
        omega
      · refine al_ite (fun c5 => ?_) (fun _ => al_none)
        have tx : ((h 0 25).toInt64.toInt32).toInt = (h 0 25).toInt := by
          have := congrArg Int64.toInt c5
          rw [l_i2l, l_i2l] at this
          exact this
        refine al_oH' (fun g hg => al_oH' (fun f hf => ?_))
        rw [hg] at hf
        refine again hs hlt _ f hf (by rw [tx]; omega) (fun z => absurd z (by omega))
end
end

section
/-! the reference's next token, whole -/
noncomputable section
def isSg (c : Int) : Prop := c = 40 ∨ c = 41 ∨ c = 59 ∨ c = 43 ∨ c = 45 ∨ c = 42 ∨ c = 60 ∨ c = 61
/-- the reference stands at this token -/
def mtk (g : dH) (c : Int) (s e : Nat) (w : Int) : Prop := (g 0 24).toInt = s ∧
  ((c = 300 ∧ (g 0 23).toInt = 0) ∨ (c = 301 ∧ ((g 0 23).toInt = 4 ∨ ((g 0 23).toInt = 1 ∧ (g 0 22).toInt = e))) ∨ (c = 302 ∧ (g 0 23).toInt = 2 ∧ (g 0 22).toInt = e ∧ (g 0 25).toInt = w) ∨ (303 ≤ c ∧ c ≤ 309 ∧ (g 0 23).toInt = 1 ∧ (g 0 22).toInt = e) ∨ (isSg c ∧ (g 0 23).toInt = 3 ∧ (g 0 25).toInt = c ∧ (g 0 22).toInt = e) ∨ (c ≤ 255 ∧ ¬ isSg c ∧ (g 0 23).toInt = 4))
def nextQ (h g : dH) : Prop := mSame g h ∧ g 0 26 = h 0 26 ∧ g 0 27 = h 0 27 ∧ g 0 28 = h 0 28 ∧ ∃ (c : Int) (s e : Nat) (w : Int), Tok (mB h) (h 0 21).toInt.toNat (h 0 22).toInt.toNat c s e w ∧ mtk g c s e w
theorem tok_word {B : Nat → Int} {N p s e : Nat} (h1 : Run isBl B N p s) (h2 : s < N) (h3 : isSm (B s)) (h4 : Run isSm B N s e) : ∃ (c w : Int), Tok B N p c s e w ∧ ((303 ≤ c ∧ c ≤ 309) ∨ c = 301) := by
  by_cases a : ∃ i, i < 6 ∧ isW B s e (wName i)
  · obtain ⟨i, hi, hw⟩ := a
    exact ⟨303, -1 - (i : Int), ⟨h1, Or.inr (Or.inr (Or.inl ⟨h2, h3, h4, Or.inl ⟨i, hi, hw, rfl, rfl⟩⟩))⟩, Or.inl (by omega)⟩
  · by_cases b : ∃ i, i < 6 ∧ isW B s e (wKey i)
    · obtain ⟨i, hi, hw⟩ := b
      exact ⟨304 + (i : Int), 0, ⟨h1, Or.inr (Or.inr (Or.inl ⟨h2, h3, h4, Or.inr (Or.inl ⟨i, hi, hw, rfl⟩)⟩))⟩, Or.inl (by omega)⟩
    · exact ⟨301, 0, ⟨h1, Or.inr (Or.inr (Or.inl ⟨h2, h3, h4, Or.inr (Or.inr ⟨fun i hi => ⟨fun z => a ⟨i, hi, z⟩, fun z => b ⟨i, hi, z⟩⟩, rfl⟩)⟩))⟩, Or.inr rfl⟩
set_option maxHeartbeats 4000000 in
theorem next_ok {h : dH} (ho : mOk h) (hb : ∀ j, j < (h 0 21).toInt.toNat → 0 ≤ mB h j ∧ mB h j ≤ 255) (h0 : 0 ≤ (h 0 22).toInt) (h1 : (h 0 22).toInt ≤ (h 0 21).toInt) : Al (f_X7_next h) (nextQ h) := by
  unfold f_X7_next
  have o4 := ho.2.2.2
  have o3 := ho.2.2.1
  refine next_0 _ h ho h0 h1 (fun g9 m9 k9 z9 run9 => ?_)
  have hN := run9.2.1
  refine al_oH' (fun g10 hg10 => ?_)
  have m10 : mSame g10 h := by rw [hg10]; exact (mSame.up (by omega)).trans m9
  have e10 : ∀ j, ¬ j = 24 → ¬ j = 22 → g10 0 j = h 0 j := fun j j1 j2 => by rw [hg10, dU_ne (by omega)]; exact k9 j j2
  have e22 : g10 0 22 = g9 0 22 := by rw [hg10]; exact dU_ne (by omega)
  have e24 : g10 0 24 = g9 0 22 := by rw [hg10]; exact dU_eq
  have e21 : g10 0 21 = h 0 21 := e10 21 (by omega) (by omega)
  refine al_oP (fun r hr => ?_)
  have hbr := byte_ok (m10.ok ho) (by rw [e22]; exact z9) r hr
  rw [m10.bytes, e22, e21] at hbr
  clear hg10
  generalize hs : (g9 0 22).toInt.toNat = s at run9 hbr
  have e24' : (g10 0 24).toInt = s := by rw [e24]; omega
  have e22' : (g10 0 22).toInt = s := by rw [e22]; omega
  refine al_oH' (fun g12 hg12 => ?_)
  have m12 : mSame g12 h := by rw [hg12]; exact (mSame.up (by omega)).trans m10
  have e12 : ∀ j, ¬ j = 23 → g12 0 j = g10 0 j := fun j j1 => by rw [hg12]; exact dU_ne (by omega)
  have f23 : (g12 0 23).toInt = 4 := by rw [hg12, dU_eq]; decide
  refine al_ite (fun c => ?_) (fun c => ?_)
  · -- the end
    have hsN : ¬ s < (h 0 21).toInt.toNat := fun z => by
      have := hb s z
      omega
    refine al_oH' (fun g15 hg15 => al_oH' (fun g16 hg16 => al_some ?_))
    have k16 : ∀ j, ¬ j = 23 → ¬ j = 24 → g16 0 j = g12 0 j := fun j j1 j2 => by rw [hg16, dU_ne (by omega), hg15, dU_ne (by omega)]
    refine ⟨by rw [hg16, hg15]; exact (mSame.up (by omega)).trans ((mSame.up (by omega)).trans m12), ?_, ?_, ?_, 300, s, s, 0, ⟨run9, Or.inl ⟨by omega, rfl, by omega⟩⟩, ?_, Or.inl ⟨rfl, ?_⟩⟩
    · rw [k16 26 (by omega) (by omega), e12 26 (by omega), e10 26 (by omega) (by omega)]
    · rw [k16 27 (by omega) (by omega), e12 27 (by omega), e10 27 (by omega) (by omega)]
    · rw [k16 28 (by omega) (by omega), e12 28 (by omega), e10 28 (by omega) (by omega)]
    · rw [hg16, dU_eq, hg15, dU_ne (by omega), e12 21 (by omega), e21]
      omega
    · rw [hg16, dU_ne (by omega), hg15, dU_eq]; decide
  · have hsN : s < (h 0 21).toInt.toNat := by omega
    have hrs : r.toInt = mB h s := by omega
    have hnb := run9.2.2.2 hsN
    refine al_oP (fun r17 hr17 => ?_)
    have hi := in7 hr17
    rw [l_i2l, show (97 : Int64).toInt = 97 by decide, show (122 : Int64).toInt = 122 by decide] at hi
    refine al_ite (fun c17 => ?_) (fun c17 => ?_)
    · refine al_oP (fun r20 hr20 => ?_)
      have hi2 := in7 hr20
      rw [l_i2l, show (48 : Int64).toInt = 48 by decide, show (57 : Int64).toInt = 57 by decide] at hi2
      refine al_ite (fun c20 => ?_) (fun c20 => ?_)
      · have nd : ¬ isDg (mB h s) := by unfold isDg; omega
        have ns : ¬ isSm (mB h s) := by unfold isSm; omega
        have sg : isSg (mB h s) → Al (oH (dU g12 0 23 3) (fun g25 => if r.toInt64.toInt32.toInt64 = r.toInt64 then oH (dU g25 0 25 r.toInt64.toInt32) (fun g26 => oH (dU g26 0 22 ((g26 0 22) + 1)) (fun g28 => some g28)) else none)) (nextQ h) := by
          intro hsg
          refine al_oH' (fun g25 hg25 => al_ite (fun c5 => ?_) (fun _ => al_none))
          have tx : (r.toInt64.toInt32).toInt = r.toInt := by
            have := congrArg Int64.toInt c5
            rw [l_i2l, l_i2l] at this
            exact this
          refine al_oH' (fun g26 hg26 => al_oH' (fun g28 hg28 => al_some ?_))
          have k28 : ∀ j, ¬ j = 22 → ¬ j = 23 → ¬ j = 25 → g28 0 j = g12 0 j := fun j j1 j2 j3 => by rw [hg28, dU_ne (by omega), hg26, dU_ne (by omega), hg25, dU_ne (by omega)]
          have p26 : g26 0 22 = g10 0 22 := by rw [hg26, dU_ne (by omega), hg25, dU_ne (by omega), e12 22 (by omega)]
          refine ⟨by rw [hg28, hg26, hg25]; exact (mSame.up (by omega)).trans ((mSame.up (by omega)).trans ((mSame.up (by omega)).trans m12)), ?_, ?_, ?_, mB h s, s, s + 1, 0, ⟨run9, Or.inr (Or.inr (Or.inr ⟨hsN, nd, ns, hnb, rfl, rfl⟩))⟩, ?_, Or.inr (Or.inr (Or.inr (Or.inr (Or.inl ⟨hsg, ?_, ?_, ?_⟩))))⟩
          · rw [k28 26 (by omega) (by omega) (by omega), e12 26 (by omega), e10 26 (by omega) (by omega)]
          · rw [k28 27 (by omega) (by omega) (by omega), e12 27 (by omega), e10 27 (by omega) (by omega)]
          · rw [k28 28 (by omega) (by omega) (by omega), e12 28 (by omega), e10 28 (by omega) (by omega)]
          · rw [k28 24 (by omega) (by omega) (by omega), e12 24 (by omega), e24']
          · rw [hg28, dU_ne (by omega), hg26, dU_ne (by omega), hg25, dU_eq]; decide
          · rw [hg28, dU_ne (by omega), hg26, dU_eq, tx, hrs]
          · rw [hg28, dU_eq, p26]
            have := i_add (a := g10 0 22) (b := 1) e22' (by decide) (B := 1) (by omega) (by omega)
            rw [this]; omega
        refine al_ite (fun c1 => sg (by unfold isSg; omega)) (fun c1 => al_ite (fun c2 => sg (by unfold isSg; omega)) (fun c2 => al_ite (fun c3 => sg (by unfold isSg; omega)) (fun c3 => al_ite (fun c4 => sg (by unfold isSg; omega)) (fun c4 => al_ite (fun c5 => sg (by unfold isSg; omega)) (fun c5 => al_ite (fun c6 => sg (by unfold isSg; omega)) (fun c6 => al_ite (fun c7 => sg (by unfold isSg; omega)) (fun c7 => al_ite (fun c8 => sg (by unfold isSg; omega)) (fun c8 => al_some ?_))))))))
        have := hb s hsN
        refine ⟨m12, ?_, ?_, ?_, mB h s, s, s + 1, 0, ⟨run9, Or.inr (Or.inr (Or.inr ⟨hsN, nd, ns, hnb, rfl, rfl⟩))⟩, ?_, Or.inr (Or.inr (Or.inr (Or.inr (Or.inr ⟨by omega, ?_, f23⟩))))⟩
        · rw [e12 26 (by omega), e10 26 (by omega) (by omega)]
        · rw [e12 27 (by omega), e10 27 (by omega) (by omega)]
        · rw [e12 28 (by omega), e10 28 (by omega) (by omega)]
        · rw [e12 24 (by omega), e24']
        · unfold isSg; omega
      · -- a number
        have hd : isDg (mB h s) := by unfold isDg; omega
        refine al_oH' (fun g71 hg71 => al_oH' (fun g72 hg72 => ?_))
        have m72 : mSame g72 h := by rw [hg72, hg71]; exact (mSame.up (by omega)).trans ((mSame.up (by omega)).trans m12)
        have k72 : ∀ j, ¬ j = 23 → ¬ j = 25 → g72 0 j = g12 0 j := fun j j1 j2 => by rw [hg72, dU_ne (by omega), hg71, dU_ne (by omega)]
        have p22 : (g72 0 22).toInt = s := by rw [k72 22 (by omega) (by omega), e12 22 (by omega), e22']
        have p21 : g72 0 21 = h 0 21 := by rw [k72 21 (by omega) (by omega), e12 21 (by omega), e21]
        have p25 : (g72 0 25).toInt = 0 := by rw [hg72, dU_eq]; decide
        have z0 : (0 : Int32).toInt = 0 := by decide
        refine next_160 s _ 0 g72 (m72.ok ho) (by omega) (by rw [p21]; omega) (by omega) (by omega) (by omega) (fun _ => by rw [p25, z0]; rfl) (fun w f q1 q2 q3 q4 q5 q6 => ?_)
        rw [m72.bytes, p21, p22] at q6
        rw [m72.bytes] at q5
        have hse := q6.1
        have run6 : Run isDg (mB h) (h 0 21).toInt.toNat s (f 0 22).toInt.toNat := q6
        have kf : ∀ j, ¬ j = 22 → ¬ j = 23 → ¬ j = 24 → ¬ j = 25 → f 0 j = h 0 j := fun j j1 j2 j3 j4 => by rw [q2 j j1 j4, k72 j j2 j4, e12 j j2, e10 j j3 j1]
        have pf24 : (f 0 24).toInt = s := by rw [q2 24 (by omega) (by omega), k72 24 (by omega) (by omega), e12 24 (by omega), e24']
        refine al_ite (fun c9 => al_oH' (fun g90 hg90 => al_some ?_)) (fun c9 => al_oH' (fun g91 hg91 => al_some ?_))
        · refine ⟨by rw [hg90]; exact (mSame.up (by omega)).trans (q1.trans m72), ?_, ?_, ?_, 301, s, (f 0 22).toInt.toNat, 0, ⟨run9, Or.inr (Or.inl ⟨hsN, hd, run6, Or.inl ⟨by omega, rfl⟩⟩)⟩, ?_, Or.inr (Or.inl ⟨rfl, Or.inl ?_⟩)⟩
          · rw [hg90, dU_ne (by omega)]; exact kf 26 (by omega) (by omega) (by omega) (by omega)
          · rw [hg90, dU_ne (by omega)]; exact kf 27 (by omega) (by omega) (by omega) (by omega)
          · rw [hg90, dU_ne (by omega)]; exact kf 28 (by omega) (by omega) (by omega) (by omega)
          · rw [hg90, dU_ne (by omega)]; exact pf24
          · rw [hg90, dU_eq]; decide
        · refine ⟨by rw [hg91]; exact (mSame.up (by omega)).trans (q1.trans m72), ?_, ?_, ?_, 302, s, (f 0 22).toInt.toNat, numV (mB h) s ((f 0 22).toInt.toNat - s), ⟨run9, Or.inr (Or.inl ⟨hsN, hd, run6, Or.inr ⟨by omega, rfl, rfl⟩⟩)⟩, ?_, Or.inr (Or.inr (Or.inl ⟨rfl, ?_, ?_, ?_⟩))⟩
          · rw [hg91, dU_ne (by omega)]; exact kf 26 (by omega) (by omega) (by omega) (by omega)
          · rw [hg91, dU_ne (by omega)]; exact kf 27 (by omega) (by omega) (by omega) (by omega)
          · rw [hg91, dU_ne (by omega)]; exact kf 28 (by omega) (by omega) (by omega) (by omega)
          · rw [hg91, dU_ne (by omega)]; exact pf24
          · rw [hg91, dU_eq]; decide
          · rw [hg91, dU_ne (by omega)]; omega
          · rw [hg91, dU_ne (by omega), q5 (by omega), show (f 0 22).toInt.toNat - s = w.toInt.toNat by omega]
    · -- a word
      have hsm : isSm (mB h s) := by unfold isSm; omega
      refine al_oH' (fun g91 hg91 => ?_)
      have m91 : mSame g91 h := by rw [hg91]; exact (mSame.up (by omega)).trans m12
      have k91 : ∀ j, ¬ j = 23 → g91 0 j = g12 0 j := fun j j1 => by rw [hg91, dU_ne (by omega)]
      have p22 : (g91 0 22).toInt = s := by rw [k91 22 (by omega), e12 22 (by omega), e22']
      have p21 : g91 0 21 = h 0 21 := by rw [k91 21 (by omega), e12 21 (by omega), e21]
      refine next_100 _ g91 (m91.ok ho) (by omega) (by rw [p21]; omega) (fun f q1 a23 a24 a25 a26 a27 a28 q3 q6 => al_some ?_)
      rw [m91.bytes, p21, p22] at q6
      have run6 : Run isSm (mB h) (h 0 21).toInt.toNat s (f 0 22).toInt.toNat := q6
      obtain ⟨cc, ww, tk, hc⟩ := tok_word run9 hsN hsm run6
      have p23 : (f 0 23).toInt = 1 := by rw [a23, hg91, dU_eq]; decide
      refine ⟨q1.trans m91, ?_, ?_, ?_, cc, s, (f 0 22).toInt.toNat, ww, tk, ?_, ?_⟩
      · rw [a26, k91 26 (by omega), e12 26 (by omega), e10 26 (by omega) (by omega)]
      · rw [a27, k91 27 (by omega), e12 27 (by omega), e10 27 (by omega) (by omega)]
      · rw [a28, k91 28 (by omega), e12 28 (by omega), e10 28 (by omega) (by omega)]
      · rw [a24, k91 24 (by omega), e12 24 (by omega), e24']
      · rcases hc with hc | hc
        · exact Or.inr (Or.inr (Or.inr (Or.inl ⟨hc.1, hc.2, p23, by omega⟩)))
        · exact Or.inr (Or.inl ⟨hc, Or.inr ⟨p23, by omega⟩⟩)
end
end

section
/-! the class's tokens -/
noncomputable section
def cB (h : dH) (j : Nat) : Int := (h 5 j).toInt
def cN (h : dH) : Nat := (h 1 0).toInt.toNat
def cOk (h : dH) : Prop := (h 1 0).toInt ≤ 160 ∧ 0 ≤ (h 1 5).toInt ∧ (h 1 5).toInt ≤ (h 1 0).toInt
/-- but for the place of the cutting -/
def atS (g h : dH) : Prop := ∀ a k, ¬ (a = 1 ∧ k = 5) → g a k = h a k
theorem atS.refl (h : dH) : atS h h := fun _ _ _ => rfl
theorem atS.trans {f g h : dH} (h1 : atS f g) (h2 : atS g h) : atS f h := fun a k q => (h1 a k q).trans (h2 a k q)
theorem atS.bytes {g h : dH} (q : atS g h) : cB g = cB h := by funext j; unfold cB; rw [q 5 j (by omega)]
theorem atS.n {g h : dH} (q : atS g h) : cN g = cN h := by unfold cN; rw [q 1 0 (by omega)]
theorem at1 {g h : dH} (hg : g = dU h 1 5 ((h 1 5) + 1)) (ho : cOk h) (hl : (h 1 5).toInt < (h 1 0).toInt) : atS g h ∧ (g 1 5).toInt = (h 1 5).toInt + 1 ∧ cOk g := by
  obtain ⟨o1, o2, o3⟩ := ho
  have e0 : g 1 0 = h 1 0 := by rw [hg]; exact dU_ne (by omega)
  have e5 : (g 1 5).toInt = (h 1 5).toInt + 1 := by rw [hg, dU_eq]; exact i_add rfl (by decide) (by omega) (by omega)
  refine ⟨fun a k q => by rw [hg]; exact dU_ne q, e5, ?_⟩
  unfold cOk
  rw [e0, e5]
  omega
theorem isBl_ok {v : Int32} : Al (f_X4_isBlank v) (fun r => (r.toInt = 1 ∧ isBl v.toInt) ∨ (r.toInt = 0 ∧ ¬ isBl v.toInt)) := by
  unfold f_X4_isBlank isBl
  exact al_ite (fun c => al_some (by rw [ti1]; omega)) (fun c => al_ite (fun d => al_some (by rw [ti1]; omega)) (fun d => al_some (by rw [ti0]; omega)))
theorem isDg_ok {v : Int32} : Al (f_X4_isDigit v) (fun r => (r.toInt = 1 ∧ isDg v.toInt) ∨ (r.toInt = 0 ∧ ¬ isDg v.toInt)) := by
  unfold f_X4_isDigit isDg
  exact al_ite (fun c => al_some (by rw [ti0]; omega)) (fun c => al_ite (fun d => al_some (by rw [ti0]; omega)) (fun d => al_some (by rw [ti1]; omega)))
theorem isSm_ok {v : Int32} : Al (f_X4_isSmall v) (fun r => (r.toInt = 1 ∧ isSm v.toInt) ∨ (r.toInt = 0 ∧ ¬ isSm v.toInt)) := by
  unfold f_X4_isSmall isSm
  exact al_ite (fun c => al_some (by rw [ti0]; omega)) (fun c => al_ite (fun d => al_some (by rw [ti0]; omega)) (fun d => al_some (by rw [ti1]; omega)))
theorem cut_14 {k : dH → Option dH} {P : dH → Prop} : ∀ (n : Nat) (h : dH), cOk h → (∀ g, atS g h → cOk g → Run isBl (cB h) (cN h) (h 1 5).toInt.toNat (g 1 5).toInt.toNat → Al (k g) P) → Al (l_X4_cut_14 k n h) P
  | 0, _, _, _ => al_none
  | n + 1, h, ho, K => by
    rw [l_X4_cut_14]
    have oo := ho
    obtain ⟨o1, o2, o3⟩ := oo
    refine al_ite (fun c => al_ite (fun _ => al_oP (fun r hr => ?_)) (fun _ => al_none)) (fun c => K h (atS.refl h) ho (Run.stop (by unfold cN; omega) (fun z => by unfold cN at z; omega)))
    have hb := isBl_ok r hr
    refine al_ite (fun c2 => K h (atS.refl h) ho (Run.stop (by unfold cN; omega) (fun _ => ?_))) (fun c2 => al_oH' (fun g hg => ?_))
    · rcases hb with hb | hb
      · omega
      · exact hb.2
    · obtain ⟨m, e5, og⟩ := at1 hg ho c
      refine cut_14 n g og (fun f q1 q2 q3 => K f (q1.trans m) q2 (Run.step ?_ ?_))
      · rcases hb with hb | hb
        · exact hb.2
        · omega
      · rw [m.bytes, m.n, e5] at q3
        rw [show (h 1 5).toInt.toNat + 1 = ((h 1 5).toInt + 1).toNat by omega]
        exact q3
theorem cutWord_0 {k : dH → Option dH} {P : dH → Prop} : ∀ (n : Nat) (h : dH), cOk h → (∀ g, atS g h → cOk g → Run isSm (cB h) (cN h) (h 1 5).toInt.toNat (g 1 5).toInt.toNat → Al (k g) P) → Al (l_X4_cutWord_0 k n h) P
  | 0, _, _, _ => al_none
  | n + 1, h, ho, K => by
    rw [l_X4_cutWord_0]
    have oo := ho
    obtain ⟨o1, o2, o3⟩ := oo
    refine al_ite (fun c => al_ite (fun _ => al_oP (fun r hr => ?_)) (fun _ => al_none)) (fun c => K h (atS.refl h) ho (Run.stop (by unfold cN; omega) (fun z => by unfold cN at z; omega)))
    have hb := isSm_ok r hr
    refine al_ite (fun c2 => K h (atS.refl h) ho (Run.stop (by unfold cN; omega) (fun _ => ?_))) (fun c2 => al_oH' (fun g hg => ?_))
    · rcases hb with hb | hb
      · omega
      · exact hb.2
    · obtain ⟨m, e5, og⟩ := at1 hg ho c
      refine cutWord_0 n g og (fun f q1 q2 q3 => K f (q1.trans m) q2 (Run.step ?_ ?_))
      · rcases hb with hb | hb
        · exact hb.2
        · omega
      · rw [m.bytes, m.n, e5] at q3
        rw [show (h 1 5).toInt.toNat + 1 = ((h 1 5).toInt + 1).toNat by omega]
        exact q3
theorem numV_bd {B : Nat → Int} {s : Nat} : ∀ n, (∀ j, j < n → isDg (B (s + j))) → 0 ≤ numV B s n ∧ numV B s n < 10 ^ n
  | 0, _ => by simp [numV]
  | n + 1, h => by
    have ih := numV_bd n (fun j hj => h j (by omega))
    have hn := h n (by omega)
    unfold isDg at hn
    rw [numV, Int.pow_succ]
    omega
theorem cutNumber_2 {k : Int32 → dH → Option dH} {P : dH → Prop} (s : Nat) : ∀ (n : Nat) (v : Int32) (h : dH), cOk h → s ≤ (h 1 5).toInt.toNat → (∀ j, s ≤ j → j < (h 1 5).toInt.toNat → isDg (cB h j)) → ((h 1 5).toInt.toNat - s ≤ 4 → v.toInt = numV (cB h) s ((h 1 5).toInt.toNat - s)) → (∀ (w : Int32) g, atS g h → cOk g → Run isDg (cB h) (cN h) (h 1 5).toInt.toNat (g 1 5).toInt.toNat → ((g 1 5).toInt.toNat - s ≤ 4 → w.toInt = numV (cB h) s ((g 1 5).toInt.toNat - s)) → Al (k w g) P) → Al (l_X4_cutNumber_2 k n v h) P
  | 0, _, _, _, _, _, _, _ => al_none
  | n + 1, v, h, ho, hs, hd, hv, K => by
    rw [l_X4_cutNumber_2]
    have oo := ho
    obtain ⟨o1, o2, o3⟩ := oo
    refine al_ite (fun c => al_ite (fun _ => al_oP (fun r hr => ?_)) (fun _ => al_none)) (fun c => K v h (atS.refl h) ho (Run.stop (by unfold cN; omega) (fun z => by unfold cN at z; omega)) hv)
    have hb := isDg_ok r hr
    refine al_ite (fun c2 => K v h (atS.refl h) ho (Run.stop (by unfold cN; omega) (fun _ => ?_)) hv) (fun c2 => al_ite (fun _ => al_oH' (fun g hg => ?_)) (fun _ => al_none))
    · rcases hb with hb | hb
      · omega
      · exact hb.2
    · have hdd : isDg (cB h (h 1 5).toInt.toNat) := by
        rcases hb with hb | hb
        · exact hb.2
        · omega
      obtain ⟨m, e5, og⟩ := at1 hg ho c
      have e5n : (g 1 5).toInt.toNat = (h 1 5).toInt.toNat + 1 := by omega
      refine cutNumber_2 s n _ g og (by omega) (fun j j1 j2 => ?_) (fun z => ?_) (fun w f q1 q2 q3 q4 => K w f (q1.trans m) q2 (Run.step hdd ?_) ?_)
      · rw [m.bytes]
        by_cases e : j = (h 1 5).toInt.toNat
        · rw [e]; exact hdd
        · exact hd j j1 (by omega)
      · rw [e5n] at z
        have hv' := hv (by omega)
        have hbd := numV_bd (B := cB h) (s := s) ((h 1 5).toInt.toNat - s) (fun j hj => hd _ (by omega) (by omega))
        have hle : (10 : Int) ^ ((h 1 5).toInt.toNat - s) ≤ 1000 := by
          have : (h 1 5).toInt.toNat - s = 0 ∨ (h 1 5).toInt.toNat - s = 1 ∨ (h 1 5).toInt.toNat - s = 2 ∨ (h 1 5).toInt.toNat - s = 3 := by omega
          rcases this with e | e | e | e <;> rw [e] <;> decide
        unfold isDg cB at hdd
        have t1 : (v * 10).toInt = v.toInt * 10 := i_mul rfl (by decide) (by omega) (by omega)
        have t2 : (v * 10 + h 5 (h 1 5).toInt.toNat).toInt = v.toInt * 10 + (h 5 (h 1 5).toInt.toNat).toInt := i_add t1 rfl (by omega) (by omega)
        have t3 : (v * 10 + h 5 (h 1 5).toInt.toNat - 48).toInt = v.toInt * 10 + (h 5 (h 1 5).toInt.toNat).toInt - 48 := i_sub t2 (by decide) (by omega) (by omega)
        rw [t3, m.bytes, e5n, show (h 1 5).toInt.toNat + 1 - s = ((h 1 5).toInt.toNat - s) + 1 by omega, numV, ← hv', show s + ((h 1 5).toInt.toNat - s) = (h 1 5).toInt.toNat by omega]
        unfold cB
        omega
      · rw [m.bytes, m.n, e5n] at q3
        exact q3
      · rw [m.bytes] at q4
        exact q4
/-! words -/
def sI (w : Nat) : List Int := (strOf w).map Int32.toInt
theorem reads_17 {a : Nat} (ha : zStr a) {v : Int32} {h : dH} (hv : 0 ≤ v.toInt) (hb : v.toInt + (strOf a).length ≤ 160) : ∀ (n : Nat) (x : Int32), 0 ≤ x.toInt → x.toInt ≤ (strOf a).length → Al (l_X4_reads_17 a v h (some 1) n x) (fun r => (r.toInt = 1 ∧ ∀ j : Nat, x.toInt ≤ j → j < (sI a).length → some (cB h (v.toInt.toNat + j)) = (sI a)[j]?) ∨ (r.toInt = 0 ∧ ∃ j : Nat, j < (sI a).length ∧ ¬ some (cB h (v.toInt.toNat + j)) = (sI a)[j]?))
  | 0, _, _, _ => al_none
  | n + 1, x, x0, x1 => by
    have hl : (sI a).length = (strOf a).length := by simp [sI]
    rw [l_X4_reads_17]
    refine al_oP (fun r hr => ?_)
    have hr1 : r.toInt = (strOf a).length := by
      obtain ⟨o, ho, hp⟩ := s_J0_length_8abf5 a ha
      rw [hr] at ho
      cases ho
      exact hp.1
    refine al_ite (fun c => al_ite (fun c1 => al_oP (fun r2 hr2 => ?_)) (fun _ => al_none)) (fun c => al_some (Or.inl ⟨ti1, fun j j1 j2 => by omega⟩))
    obtain ⟨-, he⟩ := chr_at hr2
    have te : (v + x).toInt = v.toInt + x.toInt := i_add rfl rfl (by omega) (by omega)
    have hx : (sI a)[x.toInt.toNat]? = some r2.toInt := by unfold sI; rw [List.getElem?_map, he]; rfl
    have hc : cB h (v.toInt.toNat + x.toInt.toNat) = (h 5 ((v + x).toInt.toNat)).toInt := by
      unfold cB; rw [te, Int.toNat_add hv x0]
    have tx : (x + 1).toInt = x.toInt + 1 := i_add rfl (by decide) (by omega) (by omega)
    refine al_ite (fun c2 => ?_) (fun c2 => al_some (Or.inr ⟨ti0, x.toInt.toNat, by omega, ?_⟩))
    · intro o ho
      rcases reads_17 ha hv hb n (x + 1) (by omega) (by omega) o ho with ⟨q1, q2⟩ | q
      · refine Or.inl ⟨q1, fun j j1 j2 => ?_⟩
        by_cases e : j = x.toInt.toNat
        · rw [e, hx, hc, c2]
        · exact q2 j (by omega) j2
      · exact Or.inr q
    · rw [hx, hc]
      intro e
      exact c2 (Option.some.inj e)
theorem reads_ok {a : Nat} (ha : zStr a) {v : Int32} {h : dH} (ho : cOk h) (hv : 0 ≤ v.toInt) (hle : v.toInt ≤ (h 1 5).toInt) : Al (f_X4_reads a v h) (fun r => (r.toInt = 1 ∧ isW (cB h) v.toInt.toNat (h 1 5).toInt.toNat (sI a)) ∨ (r.toInt = 0 ∧ ¬ isW (cB h) v.toInt.toNat (h 1 5).toInt.toNat (sI a))) := by
  unfold f_X4_reads
  obtain ⟨o1, o2, o3⟩ := ho
  have hl : (sI a).length = (strOf a).length := by simp [sI]
  refine al_oP (fun r hr => ?_)
  have hr1 : r.toInt = (strOf a).length := by
    obtain ⟨o, ho, hp⟩ := s_J0_length_8abf5 a ha
    rw [hr] at ho
    cases ho
    exact hp.1
  have ts : ((h 1 5) - v).toInt = (h 1 5).toInt - v.toInt := i_sub rfl rfl (by omega) (by omega)
  refine al_ite (fun c => ?_) (fun c => al_some (Or.inr ⟨ti0, fun z => c (by have := z.1; omega)⟩))
  intro o ho
  rcases reads_17 ha hv (by omega) _ 0 (by rw [ti0]; omega) (by rw [ti0]; omega) o ho with ⟨q1, q2⟩ | ⟨q1, j, j1, j2⟩
  · exact Or.inl ⟨q1, by omega, fun j hj => q2 j (by rw [ti0]; omega) hj⟩
  · exact Or.inr ⟨q1, fun z => j2 (z.2 j j1)⟩
end
end

section
/-! the class's tokens, whole -/
noncomputable section
theorem sI_n : sI (xB + 10 + 1) = wName 0 ∧ sI (xB + 10 + 2) = wName 1 ∧ sI (xB + 10 + 3) = wName 2 ∧ sI (xB + 10 + 4) = wName 3 ∧ sI (xB + 10 + 5) = wName 4 ∧ sI (xB + 10 + 6) = wName 5 := by
  refine ⟨?_, ?_, ?_, ?_, ?_, ?_⟩ <;> unfold sI
  · rw [xSo1]; decide
  · rw [xSo2]; decide
  · rw [xSo3]; decide
  · rw [xSo4]; decide
  · rw [xSo5]; decide
  · rw [xSo6]; decide
theorem sI_k : sI (xB + 10 + 7) = wKey 0 ∧ sI (xB + 10 + 8) = wKey 1 ∧ sI (xB + 10 + 9) = wKey 2 ∧ sI (xB + 10 + 10) = wKey 3 ∧ sI (xB + 10 + 11) = wKey 4 ∧ sI (xB + 10 + 12) = wKey 5 := by
  refine ⟨?_, ?_, ?_, ?_, ?_, ?_⟩ <;> unfold sI
  · rw [xSo7]; decide
  · rw [xSo8]; decide
  · rw [xSo9]; decide
  · rw [xSo10]; decide
  · rw [xSo11]; decide
  · rw [xSo12]; decide
theorem six {P : Nat → Prop} (h0 : P 0) (h1 : P 1) (h2 : P 2) (h3 : P 3) (h4 : P 4) (h5 : P 5) : ∀ i, i < 6 → P i := by
  intro i hi
  have : i = 0 ∨ i = 1 ∨ i = 2 ∨ i = 3 ∨ i = 4 ∨ i = 5 := by omega
  rcases this with rfl | rfl | rfl | rfl | rfl | rfl <;> assumption
theorem nameFrom_ok {v : Int32} {h : dH} (ho : cOk h) (hv : 0 ≤ v.toInt) (hle : v.toInt ≤ (h 1 5).toInt) : Al (f_X4_nameFrom v h) (fun r => (∃ i, i < 6 ∧ isW (cB h) v.toInt.toNat (h 1 5).toInt.toNat (wName i) ∧ r.toInt = i) ∨ (r.toInt = -1 ∧ ∀ i, i < 6 → ¬ isW (cB h) v.toInt.toNat (h 1 5).toInt.toNat (wName i))) := by
  unfold f_X4_nameFrom
  obtain ⟨n0, n1, n2, n3, n4, n5⟩ := sI_n
  refine al_oP (fun r0 hr0 => ?_)
  have q0 := reads_ok (zStr_k (by decide)) ho hv hle r0 hr0
  rw [n0] at q0
  refine al_ite (fun c0 => al_oP (fun r1 hr1 => ?_)) (fun c0 => al_some (Or.inl ⟨0, by omega, q0.elim (fun z => z.2) (fun z => absurd z.1 c0), by decide⟩))
  have q1 := reads_ok (zStr_k (by decide)) ho hv hle r1 hr1
  rw [n1] at q1
  refine al_ite (fun c1 => al_oP (fun r2 hr2 => ?_)) (fun c1 => al_some (Or.inl ⟨1, by omega, q1.elim (fun z => z.2) (fun z => absurd z.1 c1), by decide⟩))
  have q2 := reads_ok (zStr_k (by decide)) ho hv hle r2 hr2
  rw [n2] at q2
  refine al_ite (fun c2 => al_oP (fun r3 hr3 => ?_)) (fun c2 => al_some (Or.inl ⟨2, by omega, q2.elim (fun z => z.2) (fun z => absurd z.1 c2), by decide⟩))
  have q3 := reads_ok (zStr_k (by decide)) ho hv hle r3 hr3
  rw [n3] at q3
  refine al_ite (fun c3 => al_oP (fun r4 hr4 => ?_)) (fun c3 => al_some (Or.inl ⟨3, by omega, q3.elim (fun z => z.2) (fun z => absurd z.1 c3), by decide⟩))
  have q4 := reads_ok (zStr_k (by decide)) ho hv hle r4 hr4
  rw [n4] at q4
  refine al_ite (fun c4 => al_oP (fun r5 hr5 => ?_)) (fun c4 => al_some (Or.inl ⟨4, by omega, q4.elim (fun z => z.2) (fun z => absurd z.1 c4), by decide⟩))
  have q5 := reads_ok (zStr_k (by decide)) ho hv hle r5 hr5
  rw [n5] at q5
  refine al_ite (fun c5 => al_some (Or.inr ⟨by decide, ?_⟩)) (fun c5 => al_some (Or.inl ⟨5, by omega, q5.elim (fun z => z.2) (fun z => absurd z.1 c5), by decide⟩))
  have no : ∀ {r : Int32} {A : Prop}, r.toInt = 0 → ((r.toInt = 1 ∧ A) ∨ (r.toInt = 0 ∧ ¬ A)) → ¬ A := fun z q => q.elim (fun y => by omega) (fun y => y.2)
  exact six (no c0 q0) (no c1 q1) (no c2 q2) (no c3 q3) (no c4 q4) (no c5 q5)
theorem keyFrom_ok {v : Int32} {h : dH} (ho : cOk h) (hv : 0 ≤ v.toInt) (hle : v.toInt ≤ (h 1 5).toInt) : Al (f_X4_keyFrom v h) (fun r => (∃ i, i < 6 ∧ isW (cB h) v.toInt.toNat (h 1 5).toInt.toNat (wKey i) ∧ r.toInt = 304 + (i : Int)) ∨ (r.toInt = 301 ∧ ∀ i, i < 6 → ¬ isW (cB h) v.toInt.toNat (h 1 5).toInt.toNat (wKey i))) := by
  unfold f_X4_keyFrom
  obtain ⟨n0, n1, n2, n3, n4, n5⟩ := sI_k
  refine al_oP (fun r0 hr0 => ?_)
  have q0 := reads_ok (zStr_k (by decide)) ho hv hle r0 hr0
  rw [n0] at q0
  refine al_ite (fun c0 => al_oP (fun r1 hr1 => ?_)) (fun c0 => al_some (Or.inl ⟨0, by omega, q0.elim (fun z => z.2) (fun z => absurd z.1 c0), by decide⟩))
  have q1 := reads_ok (zStr_k (by decide)) ho hv hle r1 hr1
  rw [n1] at q1
  refine al_ite (fun c1 => al_oP (fun r2 hr2 => ?_)) (fun c1 => al_some (Or.inl ⟨1, by omega, q1.elim (fun z => z.2) (fun z => absurd z.1 c1), by decide⟩))
  have q2 := reads_ok (zStr_k (by decide)) ho hv hle r2 hr2
  rw [n2] at q2
  refine al_ite (fun c2 => al_oP (fun r3 hr3 => ?_)) (fun c2 => al_some (Or.inl ⟨2, by omega, q2.elim (fun z => z.2) (fun z => absurd z.1 c2), by decide⟩))
  have q3 := reads_ok (zStr_k (by decide)) ho hv hle r3 hr3
  rw [n3] at q3
  refine al_ite (fun c3 => al_oP (fun r4 hr4 => ?_)) (fun c3 => al_some (Or.inl ⟨3, by omega, q3.elim (fun z => z.2) (fun z => absurd z.1 c3), by decide⟩))
  have q4 := reads_ok (zStr_k (by decide)) ho hv hle r4 hr4
  rw [n4] at q4
  refine al_ite (fun c4 => al_oP (fun r5 hr5 => ?_)) (fun c4 => al_some (Or.inl ⟨4, by omega, q4.elim (fun z => z.2) (fun z => absurd z.1 c4), by decide⟩))
  have q5 := reads_ok (zStr_k (by decide)) ho hv hle r5 hr5
  rw [n5] at q5
  refine al_ite (fun c5 => al_some (Or.inr ⟨by decide, ?_⟩)) (fun c5 => al_some (Or.inl ⟨5, by omega, q5.elim (fun z => z.2) (fun z => absurd z.1 c5), by decide⟩))
  have no : ∀ {r : Int32} {A : Prop}, r.toInt = 0 → ((r.toInt = 1 ∧ A) ∨ (r.toInt = 0 ∧ ¬ A)) → ¬ A := fun z q => q.elim (fun y => by omega) (fun y => y.2)
  exact six (no c0 q0) (no c1 q1) (no c2 q2) (no c3 q3) (no c4 q4) (no c5 q5)
/-- token i is written: its code and what it writes; nothing else is changed, but for the place -/
def cutQ (B : Nat → Int) (N p s i : Nat) (h g : dH) : Prop := cOk g ∧ (∀ a k, ¬ (a = 1 ∧ k = 5) → ¬ (a = 2 ∧ k = i) → ¬ (a = 4 ∧ k = i) → g a k = h a k) ∧ ∃ (c w : Int), ¬ c = 300 ∧ Tok B N p c s (g 1 5).toInt.toNat w ∧ (g 2 i).toInt = c ∧ (c = 302 ∨ c = 303 → (g 4 i).toInt = w)
theorem cutWord_ok {v : Int32} {h : dH} {p s : Nat} (ho : cOk h) (hs : (h 1 5).toInt.toNat = s) (h3 : (h 3 v.toInt.toNat) = h 1 5) (hr : Run isBl (cB h) (cN h) p s) (hN : s < cN h) (hsm : isSm (cB h s)) : Al (f_X4_cutWord v h) (cutQ (cB h) (cN h) p s v.toInt.toNat h) := by
  unfold f_X4_cutWord
  refine cutWord_0 _ h ho (fun g m og run => al_ite (fun _ => al_oP (fun r hr1 => ?_)) (fun _ => al_none))
  rw [hs] at run
  have e3 : g 3 v.toInt.toNat = h 1 5 := (m 3 _ (by omega)).trans h3
  obtain ⟨o1, o2, o3⟩ := ho
  have e3s : (g 3 v.toInt.toNat).toInt.toNat = s := by rw [e3, hs]
  have hle := run.1
  have qn := nameFrom_ok og (by rw [e3]; exact o2) (by rw [e3]; have := og.2.1; omega) r hr1
  rw [m.bytes, e3s] at qn
  refine al_ite (fun c => al_ite (fun _ => al_oP (fun r2 hr2 => al_ite (fun _ => al_oH' (fun f hf => al_some ?_)) (fun _ => al_none))) (fun _ => al_none)) (fun c => al_ite (fun _ => al_oH' (fun f hf => al_ite (fun _ => al_oH' (fun f2 hf2 => al_some ?_)) (fun _ => al_none))) (fun _ => al_none))
  · have qk := keyFrom_ok og (by rw [e3]; exact o2) (by rw [e3]; have := og.2.1; omega) r2 hr2
    rw [m.bytes, e3s] at qk
    have nn : ∀ i, i < 6 → ¬ isW (cB h) s (g 1 5).toInt.toNat (wName i) := by
      rcases qn with ⟨i, hi, -, q⟩ | q
      · omega
      · exact q.2
    have e5 : f 1 5 = g 1 5 := by rw [hf]; exact dU_ne (by omega)
    have e0 : f 1 0 = g 1 0 := by rw [hf]; exact dU_ne (by omega)
    have ef : (f 2 v.toInt.toNat).toInt = r2.toInt := by rw [hf, dU_eq]
    refine ⟨by unfold cOk; rw [e0, e5]; exact og, fun a k q1 q2 q3 => by rw [hf, dU_ne q2]; exact m a k q1, ?_⟩
    rw [e5]
    rcases qk with ⟨i, hi, hw, q⟩ | ⟨q, nk⟩
    · exact ⟨304 + (i : Int), 0, by omega, ⟨hr, Or.inr (Or.inr (Or.inl ⟨hN, hsm, run, Or.inr (Or.inl ⟨i, hi, hw, rfl⟩)⟩))⟩, by rw [ef, q], fun z => by omega⟩
    · exact ⟨301, 0, by omega, ⟨hr, Or.inr (Or.inr (Or.inl ⟨hN, hsm, run, Or.inr (Or.inr ⟨fun i hi => ⟨nn i hi, nk i hi⟩, rfl⟩)⟩))⟩, by rw [ef, q], fun z => by omega⟩
  · have e5 : f2 1 5 = g 1 5 := by rw [hf2, dU_ne (by omega), hf, dU_ne (by omega)]
    have e0 : f2 1 0 = g 1 0 := by rw [hf2, dU_ne (by omega), hf, dU_ne (by omega)]
    rcases qn with ⟨i, hi, hw, q⟩ | q
    · refine ⟨by unfold cOk; rw [e0, e5]; exact og, fun a k q1 q2 q3 => by rw [hf2, dU_ne q3, hf, dU_ne q2]; exact m a k q1, 303, -1 - (i : Int), by omega, ?_, by rw [hf2, dU_ne (by omega), hf, dU_eq]; decide, fun _ => ?_⟩
      · rw [e5]
        exact ⟨hr, Or.inr (Or.inr (Or.inl ⟨hN, hsm, run, Or.inl ⟨i, hi, hw, rfl, rfl⟩⟩))⟩
      · rw [hf2, dU_eq]
        have := i_sub (a := -1) (b := r) (A := -1) (by decide) q (by omega) (by omega)
        exact this
    · exact absurd q.1 c
theorem cutNumber_ok {v : Int32} {h : dH} {p s : Nat} (ho : cOk h) (hs : (h 1 5).toInt.toNat = s) (h3 : (h 3 v.toInt.toNat) = h 1 5) (hr : Run isBl (cB h) (cN h) p s) (hN : s < cN h) (hd : isDg (cB h s)) : Al (f_X4_cutNumber v h) (cutQ (cB h) (cN h) p s v.toInt.toNat h) := by
  unfold f_X4_cutNumber
  refine cutNumber_2 s _ 0 h ho (by omega) (fun j j1 j2 => by omega) (fun _ => by rw [hs, Nat.sub_self, ti0]; rfl) (fun w g m og run hw => ?_)
  rw [hs] at run
  have e3 : g 3 v.toInt.toNat = h 1 5 := (m 3 _ (by omega)).trans h3
  obtain ⟨o1, o2, o3⟩ := ho
  have hle := run.1
  obtain ⟨g1, g2, g3⟩ := id og
  have td : ((g 1 5) - (g 3 v.toInt.toNat)).toInt = (g 1 5).toInt - (h 1 5).toInt := by rw [e3]; exact i_sub rfl rfl (by omega) (by omega)
  refine al_ite (fun _ => al_ite (fun c => al_ite (fun _ => al_oH' (fun f hf => al_ite (fun _ => al_oH' (fun f2 hf2 => al_some ?_)) (fun _ => al_none))) (fun _ => al_none)) (fun c => al_ite (fun _ => al_oH' (fun f hf => al_ite (fun _ => al_oH' (fun f2 hf2 => al_some ?_)) (fun _ => al_none))) (fun _ => al_none))) (fun _ => al_none)
  · have e5 : f2 1 5 = g 1 5 := by rw [hf2, dU_ne (by omega), hf, dU_ne (by omega)]
    have e0 : f2 1 0 = g 1 0 := by rw [hf2, dU_ne (by omega), hf, dU_ne (by omega)]
    refine ⟨by unfold cOk; rw [e0, e5]; exact og, fun a k q1 q2 q3 => by rw [hf2, dU_ne q3, hf, dU_ne q2]; exact m a k q1, 301, 0, by omega, ?_, by rw [hf2, dU_ne (by omega), hf, dU_eq]; decide, fun z => by omega⟩
    rw [e5]
    exact ⟨hr, Or.inr (Or.inl ⟨hN, hd, run, Or.inl ⟨by omega, rfl⟩⟩)⟩
  · have e5 : f2 1 5 = g 1 5 := by rw [hf2, dU_ne (by omega), hf, dU_ne (by omega)]
    have e0 : f2 1 0 = g 1 0 := by rw [hf2, dU_ne (by omega), hf, dU_ne (by omega)]
    refine ⟨by unfold cOk; rw [e0, e5]; exact og, fun a k q1 q2 q3 => by rw [hf2, dU_ne q3, hf, dU_ne q2]; exact m a k q1, 302, numV (cB h) s ((g 1 5).toInt.toNat - s), by omega, ?_, by rw [hf2, dU_ne (by omega), hf, dU_eq]; decide, fun _ => ?_⟩
    · rw [e5]
      exact ⟨hr, Or.inr (Or.inl ⟨hN, hd, run, Or.inr ⟨by omega, rfl, rfl⟩⟩)⟩
    · rw [hf2, dU_eq]
      exact hw (by omega)
end
end

section
/-! the class's tokens, all of them -/
noncomputable section
theorem al_oV' {α : Type} {P : α → Prop} {t : Option dH} {f : dH → Option α} (h : ∀ g, t = some g → Al (f g) P) : Al (oV t f) P := by
  intro o ho
  cases t with
  | none => cases ho
  | some r => exact h r rfl o ho
/-- token j stands in the rows -/
def TokR (B : Nat → Int) (N : Nat) (P : Nat → Nat) (g : dH) (j : Nat) : Prop := ∃ (c : Int) (s : Nat) (w : Int), ¬ c = 300 ∧ Tok B N (P j) c s (P (j + 1)) w ∧ (g 2 j).toInt = c ∧ (g 3 j).toInt = s ∧ (c = 302 ∨ c = 303 → (g 4 j).toInt = w)
/-- all tokens stand there -/
def Toks (B : Nat → Int) (N : Nat) (P : Nat → Nat) (n : Nat) (g : dH) : Prop := P 0 = 0 ∧ n ≤ 160 ∧ (∀ j, j < n → TokR B N P g j) ∧ Tok B N (P n) 300 N N 0 ∧ (g 2 n).toInt = 300 ∧ (g 3 n).toInt = N
def cutF (g h : dH) : Prop := ∀ a k, ¬ (a = 1 ∧ k = 5) → ¬ a = 2 → ¬ a = 3 → ¬ a = 4 → g a k = h a k
theorem Tok.lt {B : Nat → Int} {N p : Nat} {c : Int} {s e : Nat} {w : Int} (h : Tok B N p c s e w) (hc : ¬ c = 300) : p < e ∧ e ≤ N ∧ s < N ∧ p ≤ s := by
  obtain ⟨h1, h2⟩ := h
  have a1 := h1.1
  rcases h2 with h2 | h2 | h2 | h2
  · exact absurd h2.2.1 hc
  · obtain ⟨q1, q2, q3, -⟩ := h2
    have b1 := q3.1
    have b2 := q3.2.1
    have : ¬ e = s := fun z => q3.2.2.2 (by omega) (by rw [z]; exact q2)
    omega
  · obtain ⟨q1, q2, q3, -⟩ := h2
    have b1 := q3.1
    have b2 := q3.2.1
    have : ¬ e = s := fun z => q3.2.2.2 (by omega) (by rw [z]; exact q2)
    omega
  · omega
theorem TokR.le {B : Nat → Int} {N : Nat} {P : Nat → Nat} {g : dH} (h0 : P 0 = 0) : ∀ n, (∀ j, j < n → TokR B N P g j) → n ≤ P n
  | 0, _ => Nat.zero_le _
  | n + 1, h => by
    have ih := TokR.le h0 n (fun j hj => h j (by omega))
    obtain ⟨c, s, w, hc, ht, -⟩ := h n (by omega)
    have := ht.lt hc
    omega
theorem TokR.ext {B : Nat → Int} {N : Nat} {P : Nat → Nat} {g f : dH} {i e : Nat} (hp : ∀ j, j < i → TokR B N P g j) (hf : ∀ j, j < i → f 2 j = g 2 j ∧ f 3 j = g 3 j ∧ f 4 j = g 4 j) {c : Int} {s : Nat} {w : Int} (hc : ¬ c = 300) (ht : Tok B N (P i) c s e w) (e2 : (f 2 i).toInt = c) (e3 : (f 3 i).toInt = s) (e4 : c = 302 ∨ c = 303 → (f 4 i).toInt = w) : ∀ j, j < i + 1 → TokR B N (fun k => if k = i + 1 then e else P k) f j := by
  intro j hj
  by_cases hji : j = i
  · subst hji
    refine ⟨c, s, w, hc, ?_, e2, e3, e4⟩
    simp only [if_neg (show ¬ j = j + 1 by omega), if_true]
    exact ht
  · obtain ⟨c', s', w', q1, q2, q3, q4, q5⟩ := hp j (by omega)
    obtain ⟨f2, f3, f4⟩ := hf j (by omega)
    refine ⟨c', s', w', q1, ?_, by rw [f2]; exact q3, by rw [f3]; exact q4, fun z => by rw [f4]; exact q5 z⟩
    simp only [if_neg (show ¬ j = i + 1 by omega), if_neg (show ¬ j + 1 = i + 1 by omega)]
    exact q2
theorem cut_7 {h0 : dH} (hb : ∀ j, j < cN h0 → 0 ≤ cB h0 j ∧ cB h0 j ≤ 255) : ∀ (n : Nat) (v : Int32) (h : dH), 0 ≤ v.toInt → v.toInt ≤ 161 → cOk h → cutF h h0 → (∃ P : Nat → Nat, P 0 = 0 ∧ P v.toInt.toNat = (h 1 5).toInt.toNat ∧ ∀ j, j < v.toInt.toNat → TokR (cB h0) (cN h0) P h j) → Al (l_X4_cut_7 (fun g => some g) n v h) (fun g => cutF g h0 ∧ ∃ P n, Toks (cB h0) (cN h0) P n g)
  | 0, _, _, _, _, _, _, _ => al_none
  | n + 1, v, h, v0, v1, ho, hF, ⟨P, p0, pv, pj⟩ => by
    rw [l_X4_cut_7]
    have hBh : cB h = cB h0 := by funext j; unfold cB; rw [hF 5 j (by omega) (by omega) (by omega) (by omega)]
    have hNh : cN h = cN h0 := by unfold cN; rw [hF 1 0 (by omega) (by omega) (by omega) (by omega)]
    have hle := TokR.le p0 _ pj
    obtain ⟨o1, o2, o3⟩ := id ho
    refine al_ite (fun c => ?_) (fun c => cut_14 _ h ho (fun g11 m og run => al_ite (fun _ => al_oH' (fun g12 hg12 => ?_)) (fun _ => al_none)))
    · exfalso; omega
    rw [hBh, hNh, ← pv] at run
    have k12 : ∀ a k, ¬ (a = 3 ∧ k = v.toInt.toNat) → g12 a k = g11 a k := fun a k q => by rw [hg12]; exact dU_ne q
    have e3 : g12 3 v.toInt.toNat = g12 1 5 := by rw [k12 1 5 (by omega), hg12, dU_eq]
    have og12 : cOk g12 := by unfold cOk; rw [k12 1 0 (by omega), k12 1 5 (by omega)]; exact og
    have hB12 : cB g12 = cB h0 := by rw [← hBh, ← m.bytes]; funext j; unfold cB; rw [k12 5 j (by omega)]
    have hN12 : cN g12 = cN h0 := by rw [← hNh, ← m.n]; unfold cN; rw [k12 1 0 (by omega)]
    have hF12 : cutF g12 h0 := fun a k q1 q2 q3 q4 => by rw [k12 a k (by omega), m a k q1]; exact hF a k q1 q2 q3 q4
    have hrow : ∀ j, j < v.toInt.toNat → g12 2 j = h 2 j ∧ g12 3 j = h 3 j ∧ g12 4 j = h 4 j := fun j hj => ⟨by rw [k12 2 j (by omega), m 2 j (by omega)], by rw [k12 3 j (by omega), m 3 j (by omega)], by rw [k12 4 j (by omega), m 4 j (by omega)]⟩
    have e5 : (g11 1 5).toInt = (g12 1 5).toInt := by rw [k12 1 5 (by omega)]
    rw [e5] at run
    obtain ⟨w1, w2, w3⟩ := id og12
    have tv : (v + 1).toInt = v.toInt + 1 := i_add rfl (by decide) (by omega) (by omega)
    have tvn : (v + 1).toInt.toNat = v.toInt.toNat + 1 := by omega
    have e3s : (g12 3 v.toInt.toNat).toInt = ((g12 1 5).toInt.toNat : Int) := by rw [e3]; omega
    -- a token behind which the cutting goes on
    have on : ∀ f, cutQ (cB h0) (cN h0) (P v.toInt.toNat) (g12 1 5).toInt.toNat v.toInt.toNat g12 f → Al (l_X4_cut_7 (fun g => some g) n (v + 1) f) (fun g => cutF g h0 ∧ ∃ P n, Toks (cB h0) (cN h0) P n g) := by
      intro f hf
      obtain ⟨of, kf, cc, ww, hc, ht, f2, f4⟩ := hf
      refine cut_7 hb n (v + 1) f (by omega) (by omega) of (fun a k q1 q2 q3 q4 => by rw [kf a k q1 (by omega) (by omega)]; exact hF12 a k q1 q2 q3 q4) ⟨fun k => if k = v.toInt.toNat + 1 then (f 1 5).toInt.toNat else P k, ?_, ?_, ?_⟩
      · exact (if_neg (by omega)).trans p0
      · rw [tvn]; exact if_pos rfl
      · rw [tvn]
        refine TokR.ext pj (fun j hj => ?_) hc ht f2 ?_ f4
        · obtain ⟨r2, r3, r4⟩ := hrow j hj
          exact ⟨by rw [kf 2 j (by omega) (by omega) (by omega), r2], by rw [kf 3 j (by omega) (by omega) (by omega), r3], by rw [kf 4 j (by omega) (by omega) (by omega), r4]⟩
        · rw [kf 3 _ (by omega) (by omega) (by omega)]
          exact e3s
    refine al_ite (fun c1 => al_ite (fun _ => al_oP (fun r hr => ?_)) (fun _ => al_none)) (fun c1 => al_ite (fun _ => al_oH' (fun g30 hg30 => al_some ?_)) (fun _ => al_none))
    · have hN : (g12 1 5).toInt.toNat < cN h0 := by rw [← hN12]; unfold cN; omega
      have qd := isDg_ok r hr
      have cb : (g12 5 (g12 1 5).toInt.toNat).toInt = cB h0 (g12 1 5).toInt.toNat := by rw [← hB12]; rfl
      rw [cb] at qd
      refine al_ite (fun c2 => al_ite (fun _ => al_oP (fun r2 hr2 => ?_)) (fun _ => al_none)) (fun c2 => al_oV' (fun f hf => on f ?_))
      · have nd : ¬ isDg (cB h0 (g12 1 5).toInt.toNat) := qd.elim (fun z => by omega) (fun z => z.2)
        have qs := isSm_ok r2 hr2
        rw [cb] at qs
        refine al_ite (fun c3 => al_ite (fun _ => al_ite (fun _ => al_oH' (fun g25 hg25 => al_oH' (fun g27 hg27 => on g27 ?_))) (fun _ => al_none)) (fun _ => al_none)) (fun c3 => al_oV' (fun f hf => on f ?_))
        · have ns : ¬ isSm (cB h0 (g12 1 5).toInt.toNat) := qs.elim (fun z => by omega) (fun z => z.2)
          have p15 : g25 1 5 = g12 1 5 := by rw [hg25]; exact dU_ne (by omega)
          have p10 : g25 1 0 = g12 1 0 := by rw [hg25]; exact dU_ne (by omega)
          have o25 : cOk g25 := by unfold cOk; rw [p10, p15]; exact og12
          obtain ⟨m27, e27, o27⟩ := at1 hg27 o25 (by rw [p10, p15]; exact c1)
          rw [p15] at e27
          have hbb := hb _ hN
          refine ⟨o27, fun a k q1 q2 q3 => by rw [m27 a k q1, hg25]; exact dU_ne q2, cB h0 (g12 1 5).toInt.toNat, 0, by omega, ⟨run, Or.inr (Or.inr (Or.inr ⟨hN, nd, ns, run.2.2.2 hN, rfl, by omega⟩))⟩, ?_, fun z => by omega⟩
          rw [m27 2 _ (by omega), hg25, dU_eq, cb]
        · have hsm : isSm (cB h0 (g12 1 5).toInt.toNat) := qs.elim (fun z => z.2) (fun z => absurd z.1 c3)
          have := cutWord_ok (p := P v.toInt.toNat) og12 rfl e3 (by rw [hB12, hN12]; exact run) (by rw [hN12]; exact hN) (by rw [hB12]; exact hsm) f hf
          rw [hB12, hN12] at this
          exact this
      · have hd : isDg (cB h0 (g12 1 5).toInt.toNat) := qd.elim (fun z => z.2) (fun z => absurd z.1 c2)
        have := cutNumber_ok (p := P v.toInt.toNat) og12 rfl e3 (by rw [hB12, hN12]; exact run) (by rw [hN12]; exact hN) (by rw [hB12]; exact hd) f hf
        rw [hB12, hN12] at this
        exact this
    · have hN : (g12 1 5).toInt.toNat = cN h0 := by rw [← hN12]; unfold cN; omega
      rw [hN] at run e3s
      refine ⟨fun a k q1 q2 q3 q4 => by rw [hg30, dU_ne (by omega)]; exact hF12 a k q1 q2 q3 q4, P, v.toInt.toNat, p0, by omega, fun j hj => ?_, ⟨run, Or.inl ⟨rfl, rfl, rfl⟩⟩, by rw [hg30, dU_eq]; decide, by rw [hg30, dU_ne (by omega)]; exact e3s⟩
      obtain ⟨c', s', w', q1, q2, q3, q4, q5⟩ := pj j hj
      obtain ⟨r2, r3, r4⟩ := hrow j hj
      exact ⟨c', s', w', q1, q2, by rw [hg30, dU_ne (by omega), r2]; exact q3, by rw [hg30, dU_ne (by omega), r3]; exact q4, fun z => by rw [hg30, dU_ne (by omega), r4]; exact q5 z⟩
theorem cut_ok {h : dH} (h0 : 0 ≤ (h 1 0).toInt) (h1 : (h 1 0).toInt ≤ 160) (hb : ∀ j, j < cN h → 0 ≤ cB h j ∧ cB h j ≤ 255) : Al (f_X4_cut h) (fun g => cutF g h ∧ ∃ P n, Toks (cB h) (cN h) P n g) := by
  unfold f_X4_cut
  refine al_oH' (fun g hg => ?_)
  have e0 : g 1 0 = h 1 0 := by rw [hg]; exact dU_ne (by omega)
  have e5 : (g 1 5).toInt = 0 := by rw [hg, dU_eq]; decide
  refine cut_7 hb _ 0 g (by rw [ti0]; omega) (by rw [ti0]; omega) (by unfold cOk; rw [e0, e5]; omega) (fun a k q1 _ _ _ => by rw [hg]; exact dU_ne q1) ⟨fun _ => 0, rfl, by rw [e5]; rfl, fun j hj => ?_⟩
  rw [ti0] at hj
  exact absurd hj (by omega)
end
end

section
/-! both readers at one token -/
noncomputable section
theorem isW.uniq {B : Nat → Int} {s e : Nat} {l m : List Int} (h1 : isW B s e l) (h2 : isW B s e m) : l = m := by
  obtain ⟨a1, a2⟩ := h1
  obtain ⟨b1, b2⟩ := h2
  apply List.ext_getElem?
  intro j
  by_cases hj : j < l.length
  · rw [← a2 j hj, ← b2 j (by omega)]
  · rw [List.getElem?_eq_none (by omega), List.getElem?_eq_none (by omega)]
theorem wN_inj : ∀ i, i < 6 → ∀ j, j < 6 → wName i = wName j → i = j := by decide
theorem wK_inj : ∀ i, i < 6 → ∀ j, j < 6 → wKey i = wKey j → i = j := by decide
theorem wNK : ∀ i, i < 6 → ∀ j, j < 6 → ¬ wName i = wKey j := by decide
theorem dg_sm {b : Int} (h1 : isDg b) (h2 : isSm b) : False := by unfold isDg at h1; unfold isSm at h2; omega
theorem Tok.uniq {B : Nat → Int} {N p : Nat} {c d : Int} {s e s' e' : Nat} {w w' : Int} (h1 : Tok B N p c s e w) (h2 : Tok B N p d s' e' w') : c = d ∧ s = s' ∧ e = e' ∧ (c = 302 ∨ c = 303 → (∀ j, j < N → B j ≤ 255) → w = w') := by
  obtain ⟨a1, a2⟩ := h1
  obtain ⟨b1, b2⟩ := h2
  have hs := a1.uniq b1
  subst hs
  rcases a2 with ⟨x1, x2, x3⟩ | ⟨x1, x2, x3, x4⟩ | ⟨x1, x2, x3, x4⟩ | ⟨x1, x2, x3, x4, x5, x6⟩
  · rcases b2 with ⟨y1, y2, y3⟩ | ⟨y1, y2, y3, y4⟩ | ⟨y1, y2, y3, y4⟩ | ⟨y1, y2, y3, y4, y5, y6⟩
    · exact ⟨by omega, rfl, by omega, fun z => by omega⟩
    all_goals omega
  · rcases b2 with ⟨y1, y2, y3⟩ | ⟨y1, y2, y3, y4⟩ | ⟨y1, y2, y3, y4⟩ | ⟨y1, y2, y3, y4, y5, y6⟩
    · omega
    · have he := x3.uniq y3
      subst he
      rcases x4 with ⟨u1, u2⟩ | ⟨u1, u2, u3⟩ <;> rcases y4 with ⟨v1, v2⟩ | ⟨v1, v2, v3⟩
      · exact ⟨by omega, rfl, rfl, fun z => by omega⟩
      · omega
      · omega
      · exact ⟨by omega, rfl, rfl, fun _ _ => by rw [u3, v3]⟩
    · exact (dg_sm x2 y2).elim
    · exact absurd x2 y2
  · rcases b2 with ⟨y1, y2, y3⟩ | ⟨y1, y2, y3, y4⟩ | ⟨y1, y2, y3, y4⟩ | ⟨y1, y2, y3, y4, y5, y6⟩
    · omega
    · exact (dg_sm y2 x2).elim
    · have he := x3.uniq y3
      subst he
      rcases x4 with ⟨i, i1, i2, i3, i4⟩ | ⟨i, i1, i2, i3⟩ | ⟨i1, i2⟩ <;> rcases y4 with ⟨j, j1, j2, j3, j4⟩ | ⟨j, j1, j2, j3⟩ | ⟨j1, j2⟩
      · have := wN_inj i i1 j j1 (i2.uniq j2)
        subst this
        exact ⟨by omega, rfl, rfl, fun _ _ => by omega⟩
      · exact absurd (i2.uniq j2) (wNK i i1 j j1)
      · exact absurd i2 (j1 i i1).1
      · exact absurd (j2.uniq i2) (wNK j j1 i i1)
      · have := wK_inj i i1 j j1 (i2.uniq j2)
        subst this
        exact ⟨by omega, rfl, rfl, fun z => by omega⟩
      · exact absurd i2 (j1 i i1).2
      · exact absurd j2 (i1 j j1).1
      · exact absurd j2 (i1 j j1).2
      · exact ⟨by omega, rfl, rfl, fun z => by omega⟩
    · exact absurd x2 y3
  · rcases b2 with ⟨y1, y2, y3⟩ | ⟨y1, y2, y3, y4⟩ | ⟨y1, y2, y3, y4⟩ | ⟨y1, y2, y3, y4, y5, y6⟩
    · omega
    · exact absurd y2 x2
    · exact absurd y2 x3
    · exact ⟨by omega, rfl, by omega, fun z q => by have := q s x1; omega⟩
section PR
variable (B : Nat → Int) (N : Nat) (P : Nat → Nat) (n : Nat)
/-- both stand at token i, whose code is c -/
def Good (i : Nat) (c : Int) (s e : Nat) (w : Int) (g h : dH) : Prop := Toks B N P n g ∧ mOk h ∧ mB h = B ∧ (h 0 21).toInt.toNat = N ∧ (∀ j, j < N → 0 ≤ B j ∧ B j ≤ 255) ∧ (g 42 4).toInt = -1 ∧ (h 0 27).toInt = 0 ∧ i ≤ n ∧ (g 42 2).toInt = i ∧ (g 42 3).toInt = c ∧ Tok B N (P i) c s e w ∧ (g 3 i).toInt = s ∧ (c = 302 ∨ c = 303 → (g 4 i).toInt = w) ∧ mtk h c s e w ∧ (¬ c = 300 → i < n ∧ P (i + 1) = e)
/-- both have found one fault -/
def Bad (g h : dH) : Prop := ¬ (g 42 4).toInt = -1 ∧ ¬ (h 0 27).toInt = 0 ∧ (h 0 28).toInt = (g 42 4).toInt ∧ (g 42 3).toInt = 301
end PR
/-- the class's reader's own numbers alone -/
def rdS (g h : dH) : Prop := ∀ a k, ¬ (a = 42 ∧ 2 ≤ k ∧ k ≤ 4) → g a k = h a k
theorem rdS.refl (h : dH) : rdS h h := fun _ _ _ => rfl
theorem rdS.trans {f g h : dH} (h1 : rdS f g) (h2 : rdS g h) : rdS f h := fun a k q => (h1 a k q).trans (h2 a k q)
theorem Toks.same {B : Nat → Int} {N : Nat} {P : Nat → Nat} {n : Nat} {g h : dH} (t : Toks B N P n h) (q : ∀ a k, a = 2 ∨ a = 3 ∨ a = 4 → g a k = h a k) : Toks B N P n g := by
  obtain ⟨t1, t2, t3, t4, t5, t6⟩ := t
  refine ⟨t1, t2, fun j hj => ?_, t4, by rw [q 2 n (by omega)]; exact t5, by rw [q 3 n (by omega)]; exact t6⟩
  obtain ⟨c, s, w, a1, a2, a3, a4, a5⟩ := t3 j hj
  exact ⟨c, s, w, a1, a2, by rw [q 2 j (by omega)]; exact a3, by rw [q 3 j (by omega)]; exact a4, fun z => by rw [q 4 j (by omega)]; exact a5 z⟩
/-- the class's token at a place -/
theorem Toks.at {B : Nat → Int} {N : Nat} {P : Nat → Nat} {n : Nat} {g : dH} (t : Toks B N P n g) {i : Nat} (hi : i ≤ n) : ∃ (c : Int) (s e : Nat) (w : Int), Tok B N (P i) c s e w ∧ (g 2 i).toInt = c ∧ (g 3 i).toInt = s ∧ (c = 302 ∨ c = 303 → (g 4 i).toInt = w) ∧ (¬ c = 300 → i < n ∧ P (i + 1) = e) := by
  obtain ⟨t1, t2, t3, t4, t5, t6⟩ := t
  by_cases h : i = n
  · subst h
    exact ⟨300, N, N, 0, t4, t5, t6, fun z => by omega, fun z => absurd rfl z⟩
  · obtain ⟨c, s, w, a1, a2, a3, a4, a5⟩ := t3 i (by omega)
    exact ⟨c, s, P (i + 1), w, a2, a3, a4, a5, fun _ => ⟨by omega, rfl⟩⟩
theorem rnext_ok {g : dH} (h0 : 0 ≤ (g 42 2).toInt) (h1 : (g 42 2).toInt < 160) : Al (f_X1_next g) (fun f => rdS f g ∧ (f 42 2).toInt = (g 42 2).toInt + 1 ∧ f 42 3 = g 2 ((g 42 2).toInt.toNat + 1) ∧ f 42 4 = g 42 4) := by
  unfold f_X1_next
  refine al_ite (fun c => al_oH' (fun g3 hg3 => al_ite (fun _ => al_oH' (fun g5 hg5 => al_some ?_)) (fun _ => al_none))) (fun c => absurd h1 c)
  have e2 : (g3 42 2).toInt = (g 42 2).toInt + 1 := by rw [hg3, dU_eq]; exact i_add rfl (by decide) (by omega) (by omega)
  refine ⟨fun a k q => by rw [hg5, dU_ne (by omega), hg3, dU_ne (by omega)], by rw [hg5, dU_ne (by omega)]; exact e2, ?_, by rw [hg5, dU_ne (by omega), hg3, dU_ne (by omega)]⟩
  rw [hg5, dU_eq, e2, show ((g 42 2).toInt + 1).toNat = (g 42 2).toInt.toNat + 1 by omega, hg3, dU_ne (by omega)]
section PR
variable {B : Nat → Int} {N : Nat} {P : Nat → Nat} {n : Nat}
/-- both go on to the next token -/
theorem Good.next {i : Nat} {c : Int} {s e : Nat} {w : Int} {g h : dH} (G : Good B N P n i c s e w g h) (hc : ¬ c = 300) (he : (h 0 22).toInt = e) {f k : dH} (hf : f_X1_next g = some f) (hk : f_X7_next h = some k) : (∃ c' s' e' w', Good B N P n (i + 1) c' s' e' w' f k) ∧ rdS f g ∧ mSame k h ∧ k 0 26 = h 0 26 := by
  obtain ⟨t, o, hB, hN, hb, b4, b27, hi, g2, g3, tk, gs, gw, mt, hn⟩ := G
  obtain ⟨hin, hp⟩ := hn hc
  have tn := t.2.1
  obtain ⟨r1, r2, r3, r4⟩ := rnext_ok (g := g) (by omega) (by omega) f hf
  have hlt := tk.lt hc
  have q := next_ok o (fun j hj => by rw [hB]; exact hb j (by omega)) (by omega) (by have := o.2.2.1; omega) k hk
  obtain ⟨m, k26, k27, k28, c', s', e', w', tk', mt'⟩ := q
  rw [hB, hN, he, Int.toNat_natCast, ← hp] at tk'
  have tf : Toks B N P n f := t.same (fun a j hj => r1 a j (by omega))
  obtain ⟨d, u, v, x, y1, y2, y3, y4, y5⟩ := tf.at (show i + 1 ≤ n by omega)
  obtain ⟨z1, z2, z3, z4⟩ := y1.uniq tk'
  subst z1 z2 z3
  have hmt : mtk k d u v x := by
    refine ⟨mt'.1, ?_⟩
    rcases mt'.2 with a | a | a | a | a | a
    · exact Or.inl a
    · exact Or.inr (Or.inl a)
    · exact Or.inr (Or.inr (Or.inl ⟨a.1, a.2.1, a.2.2.1, by rw [a.2.2.2, z4 (Or.inl a.1) (fun j hj => (hb j hj).2)]⟩))
    · exact Or.inr (Or.inr (Or.inr (Or.inl a)))
    · exact Or.inr (Or.inr (Or.inr (Or.inr (Or.inl a))))
    · exact Or.inr (Or.inr (Or.inr (Or.inr (Or.inr a))))
  refine ⟨⟨d, u, v, x, tf, m.ok o, m.bytes.trans hB, by rw [m.2 21 (by omega)]; exact hN, hb, by rw [r4]; exact b4, by rw [k27]; exact b27, by omega, by omega, ?_, y1, y3, y4, hmt, y5⟩, r1, m, k26⟩
  rw [r3, show (g 42 2).toInt.toNat = i by omega, ← y2, r1 2 (i + 1) (by omega)]
/-- both find a fault here -/
theorem Good.fail {i : Nat} {c : Int} {s e : Nat} {w : Int} {g h : dH} (G : Good B N P n i c s e w g h) {f k : dH} (hf : f_X1_fail g = some f) (hk : f_X7_fail h = some k) : Bad f k ∧ rdS f g ∧ mSame k h ∧ k 0 26 = h 0 26 := by
  obtain ⟨t, o, hB, hN, hb, b4, b27, hi, g2, g3, tk, gs, gw, mt, hn⟩ := G
  have h1 : Al (f_X1_fail g) (fun f => (f 42 4).toInt = s ∧ (f 42 3).toInt = 301 ∧ rdS f g) := by
    unfold f_X1_fail
    refine al_ite (fun _ => al_ite (fun _ => al_oH' (fun g4 hg4 => al_oH' (fun g5 hg5 => al_some ?_))) (fun _ => al_none)) (fun z => absurd b4 z)
    refine ⟨?_, by rw [hg5, dU_eq]; decide, fun a k q => by rw [hg5, dU_ne (by omega), hg4, dU_ne (by omega)]⟩
    rw [hg5, dU_ne (by omega), hg4, dU_eq, show (g 42 2).toInt.toNat = i by omega]
    exact gs
  have h2 : Al (f_X7_fail h) (fun k => (k 0 28).toInt = s ∧ (k 0 27).toInt = 1 ∧ mSame k h ∧ k 0 26 = h 0 26) := by
    unfold f_X7_fail
    refine al_ite (fun _ => al_oH' (fun g3 hg3 => al_oH' (fun g4 hg4 => al_some ?_))) (fun z => absurd b27 z)
    refine ⟨?_, by rw [hg4, dU_ne (by omega), hg3, dU_eq]; decide, by rw [hg4, hg3]; exact (mSame.up (by omega)).trans (mSame.up (by omega)), by rw [hg4, dU_ne (by omega), hg3, dU_ne (by omega)]⟩
    rw [hg4, dU_eq, hg3, dU_ne (by omega)]
    exact mt.1
  obtain ⟨a1, a2, a3⟩ := h1 f hf
  obtain ⟨b1, b2, b3, b5⟩ := h2 k hk
  exact ⟨⟨by omega, by omega, by omega, a2⟩, a3, b3, b5⟩
end PR
end
end

section
/-! what the reference's tests say of the token -/
noncomputable section
section PR
variable {B : Nat → Int} {N : Nat} {P : Nat → Nat} {n : Nat} {i : Nat} {c : Int} {s e : Nat} {w : Int} {g h : dH}
theorem Good.sign (G : Good B N P n i c s e w g h) {v : Int32} (hv : isSg v.toInt) : Al (f_X7_isSign v h) (fun r => (r.toInt = 1 ∧ c = v.toInt ∧ (h 0 22).toInt = e) ∨ (r.toInt = 0 ∧ ¬ c = v.toInt)) := by
  obtain ⟨t, o, hB, hN, hb, b4, b27, hi, g2, g3, tk, gs, gw, mt, hn⟩ := G
  unfold f_X7_isSign
  have hd := dlcmp_ok (h 0 25).toInt64 v.toInt64
  rw [l_i2l, l_i2l] at hd
  have m2 := mt.2
  unfold isSg at hv m2
  refine al_ite (fun _ => al_ite (fun c3 => al_ite (fun c4 => al_some (Or.inl ⟨ti1, ?_, ?_⟩)) (fun c4 => al_some (Or.inr ⟨ti0, ?_⟩))) (fun c3 => al_some (Or.inr ⟨ti0, ?_⟩))) (fun z => absurd b27 z)
  all_goals omega
theorem letter_ok {h : dH} {s e j : Nat} (hs : s ≤ 160) (ho : mOk h) (h24 : (h 0 24).toInt = s) (h22 : (h 0 22).toInt = e) (he : (e : Int) ≤ (h 0 21).toInt) {x v : Int32} (hx : x.toInt = j) (hj : j ≤ 8) : Al (f_X7_isLetter x v h) (fun r => (r.toInt = 1 ∧ (s + j < e → mB h (s + j) = v.toInt) ∧ (e ≤ s + j → v.toInt = 0)) ∨ (r.toInt = 0 ∧ ¬ ((s + j < e → mB h (s + j) = v.toInt) ∧ (e ≤ s + j → v.toInt = 0)))) := by
  unfold f_X7_isLetter
  have o4 := ho.2.2.2
  have t : ((h 0 24) + x).toInt = (s : Int) + j := i_add h24 hx (by omega) (by omega)
  refine al_ite (fun c => al_oP (fun r hr => ?_)) (fun c => ?_)
  · have hb := byte_ok ho (by rw [t]; omega) r hr
    rw [t, show ((s : Int) + j).toNat = s + j by omega] at hb
    refine al_ite (fun c2 => al_some (Or.inl ⟨ti1, fun _ => by omega, fun _ => by omega⟩)) (fun c2 => al_some (Or.inr ⟨ti0, fun z => ?_⟩))
    have := z.1 (by omega)
    omega
  · refine al_ite (fun c2 => al_some (Or.inl ⟨ti1, fun _ => by omega, fun _ => c2⟩)) (fun c2 => al_some (Or.inr ⟨ti0, fun z => c2 (z.2 (by omega))⟩))
/-- the word's test, letter by letter -/
theorem word8 {h : dH} {s e : Nat} (hs : s ≤ 160) (ho : mOk h) (h24 : (h 0 24).toInt = s) (h22 : (h 0 22).toInt = e) (he : (e : Int) ≤ (h 0 21).toInt) (h27 : (h 0 27).toInt = 0) (h23 : (h 0 23).toInt = 1) {v0 v1 v2 v3 v4 v5 v6 v7 : Int32} (V : Nat → Int) (hV : V 0 = v0.toInt ∧ V 1 = v1.toInt ∧ V 2 = v2.toInt ∧ V 3 = v3.toInt ∧ V 4 = v4.toInt ∧ V 5 = v5.toInt ∧ V 6 = v6.toInt ∧ V 7 = v7.toInt) : Al (f_X7_isWord v0 v1 v2 v3 v4 v5 v6 v7 h) (fun r => (r.toInt = 1 ∧ e ≤ s + 8 ∧ ∀ j, j < 8 → (s + j < e → mB h (s + j) = V j) ∧ (e ≤ s + j → V j = 0)) ∨ (r.toInt = 0 ∧ ¬ (e ≤ s + 8 ∧ ∀ j, j < 8 → (s + j < e → mB h (s + j) = V j) ∧ (e ≤ s + j → V j = 0)))) := by
  unfold f_X7_isWord
  obtain ⟨a0, a1, a2, a3, a4, a5, a6, a7⟩ := hV
  have o4 := ho.2.2.2
  have t : ((h 0 24) + 8).toInt = (s : Int) + 8 := i_add h24 (by decide) (by omega) (by omega)
  have no : ∀ {r v : Int32} {j : Nat}, r.toInt = 0 → V j = v.toInt → j < 8 → ((r.toInt = 1 ∧ (s + j < e → mB h (s + j) = v.toInt) ∧ (e ≤ s + j → v.toInt = 0)) ∨ (r.toInt = 0 ∧ ¬ ((s + j < e → mB h (s + j) = v.toInt) ∧ (e ≤ s + j → v.toInt = 0)))) → ¬ (e ≤ s + 8 ∧ ∀ j, j < 8 → (s + j < e → mB h (s + j) = V j) ∧ (e ≤ s + j → V j = 0)) := by
    intro r v j z y hj q p
    rcases q with q | q
    · omega
    · have := p.2 j hj
      rw [y] at this
      exact q.2 this
  have yes : ∀ {r v : Int32} {j : Nat}, ¬ r.toInt = 0 → V j = v.toInt → ((r.toInt = 1 ∧ (s + j < e → mB h (s + j) = v.toInt) ∧ (e ≤ s + j → v.toInt = 0)) ∨ (r.toInt = 0 ∧ ¬ ((s + j < e → mB h (s + j) = v.toInt) ∧ (e ≤ s + j → v.toInt = 0)))) → (s + j < e → mB h (s + j) = V j) ∧ (e ≤ s + j → V j = 0) := by
    intro r v j z y q
    rw [y]
    rcases q with q | q
    · exact q.2
    · exact absurd q.1 z
  refine al_ite (fun _ => al_ite (fun _ => al_ite (fun c => al_some (Or.inr ⟨ti0, fun z => by omega⟩)) (fun c => ?_)) (fun z => absurd h23 z)) (fun z => absurd h27 z)
  refine al_oP (fun r0 hr0 => ?_)
  have q0 := letter_ok (j := 0) hs ho h24 h22 he (by decide) (by omega) r0 hr0
  refine al_ite (fun z => al_some (Or.inr ⟨ti0, no z a0 (by omega) q0⟩)) (fun z0 => al_oP (fun r1 hr1 => ?_))
  have q1 := letter_ok (j := 1) hs ho h24 h22 he (by decide) (by omega) r1 hr1
  refine al_ite (fun z => al_some (Or.inr ⟨ti0, no z a1 (by omega) q1⟩)) (fun z1 => al_oP (fun r2 hr2 => ?_))
  have q2 := letter_ok (j := 2) hs ho h24 h22 he (by decide) (by omega) r2 hr2
  refine al_ite (fun z => al_some (Or.inr ⟨ti0, no z a2 (by omega) q2⟩)) (fun z2 => al_oP (fun r3 hr3 => ?_))
  have q3 := letter_ok (j := 3) hs ho h24 h22 he (by decide) (by omega) r3 hr3
  refine al_ite (fun z => al_some (Or.inr ⟨ti0, no z a3 (by omega) q3⟩)) (fun z3 => al_oP (fun r4 hr4 => ?_))
  have q4 := letter_ok (j := 4) hs ho h24 h22 he (by decide) (by omega) r4 hr4
  refine al_ite (fun z => al_some (Or.inr ⟨ti0, no z a4 (by omega) q4⟩)) (fun z4 => al_oP (fun r5 hr5 => ?_))
  have q5 := letter_ok (j := 5) hs ho h24 h22 he (by decide) (by omega) r5 hr5
  refine al_ite (fun z => al_some (Or.inr ⟨ti0, no z a5 (by omega) q5⟩)) (fun z5 => al_oP (fun r6 hr6 => ?_))
  have q6 := letter_ok (j := 6) hs ho h24 h22 he (by decide) (by omega) r6 hr6
  refine al_ite (fun z => al_some (Or.inr ⟨ti0, no z a6 (by omega) q6⟩)) (fun z6 => al_oP (fun r7 hr7 => ?_))
  have q7 := letter_ok (j := 7) hs ho h24 h22 he (by decide) (by omega) r7 hr7
  refine al_ite (fun z => al_some (Or.inr ⟨ti0, no z a7 (by omega) q7⟩)) (fun z7 => al_some (Or.inl ⟨ti1, by omega, fun j hj => ?_⟩))
  have : j = 0 ∨ j = 1 ∨ j = 2 ∨ j = 3 ∨ j = 4 ∨ j = 5 ∨ j = 6 ∨ j = 7 := by omega
  rcases this with rfl | rfl | rfl | rfl | rfl | rfl | rfl | rfl
  · exact yes z0 a0 q0
  · exact yes z1 a1 q1
  · exact yes z2 a2 q2
  · exact yes z3 a3 q3
  · exact yes z4 a4 q4
  · exact yes z5 a5 q5
  · exact yes z6 a6 q6
  · exact yes z7 a7 q7
theorem word_isW {B : Nat → Int} {s e : Nat} {l : List Int} (V : Nat → Int) (hl : l.length ≤ 8) (hV : ∀ j, j < 8 → V j = l.getD j 0) (h0 : ∀ j, j < l.length → ¬ l.getD j 0 = 0) (hb : ∀ j, s ≤ j → j < e → ¬ B j = 0) : (e ≤ s + 8 ∧ ∀ j, j < 8 → (s + j < e → B (s + j) = V j) ∧ (e ≤ s + j → V j = 0)) ↔ (s ≤ e ∧ isW B s e l) ∨ (e < s ∧ l = []) := by
  have hd : ∀ j, l.length ≤ j → l.getD j 0 = 0 := fun j hj => by
    rw [List.getD_eq_getElem?_getD, List.getElem?_eq_none hj]; rfl
  constructor
  · intro ⟨h8, hj⟩
    by_cases hse : s ≤ e
    · refine Or.inl ⟨hse, ?_⟩
      have hlen : e = s + l.length := by
        rcases Nat.lt_trichotomy (e - s) l.length with z | z | z
        · have := (hj (e - s) (by omega)).2 (by omega)
          rw [hV _ (by omega)] at this
          exact absurd this (h0 _ z)
        · omega
        · have := (hj l.length (by omega)).1 (by omega)
          rw [hV _ (by omega), hd _ (Nat.le_refl _)] at this
          exact absurd this (hb _ (by omega) (by omega))
      refine ⟨hlen, fun j hjl => ?_⟩
      rw [(hj j (by omega)).1 (by omega), hV j (by omega), List.getD_eq_getElem?_getD, List.getElem?_eq_getElem hjl]
      rfl
    · refine Or.inr ⟨by omega, ?_⟩
      by_cases hz : l.length = 0
      · exact List.length_eq_zero_iff.mp hz
      · have := (hj 0 (by omega)).2 (by omega)
        rw [hV 0 (by omega)] at this
        exact absurd this (h0 0 (by omega))
  · intro h
    rcases h with ⟨hse, hlen, hj⟩ | ⟨hse, hl0⟩
    · refine ⟨by omega, fun j hj8 => ⟨fun z => ?_, fun z => ?_⟩⟩
      · have := hj j (by omega)
        rw [hV j hj8, List.getD_eq_getElem?_getD, ← this]; rfl
      · rw [hV j hj8]; exact hd j (by omega)
    · subst hl0
      exact ⟨by omega, fun j hj8 => ⟨fun z => by omega, fun z => by rw [hV j hj8]; rfl⟩⟩
/-- the word's test against one of the words -/
theorem Good.word (G : Good B N P n i c s e w g h) {l : List Int} (hl : l.length ≤ 8) (hl1 : 0 < l.length) (h0 : ∀ j, j < l.length → ¬ l.getD j 0 = 0) (hsm : ∀ j, j < l.length → isSm (l.getD j 0)) {v0 v1 v2 v3 v4 v5 v6 v7 : Int32} (hv : v0.toInt = l.getD 0 0 ∧ v1.toInt = l.getD 1 0 ∧ v2.toInt = l.getD 2 0 ∧ v3.toInt = l.getD 3 0 ∧ v4.toInt = l.getD 4 0 ∧ v5.toInt = l.getD 5 0 ∧ v6.toInt = l.getD 6 0 ∧ v7.toInt = l.getD 7 0) : Al (f_X7_isWord v0 v1 v2 v3 v4 v5 v6 v7 h) (fun r => (r.toInt = 1 ∧ isW B s e l ∧ s < N ∧ isSm (B s) ∧ (h 0 22).toInt = e) ∨ (r.toInt = 0 ∧ ¬ (isW B s e l ∧ s < N ∧ isSm (B s) ∧ ¬ c = 301))) := by
  have GG := G
  obtain ⟨t, o, hB, hN, hb, b4, b27, hi, g2, g3, tk, gs, gw, mt, hn⟩ := G
  have tk2 := tk.2
  have m2 := mt.2
  by_cases h23 : (h 0 23).toInt = 1
  · have hc : (c = 301 ∨ (303 ≤ c ∧ c ≤ 309)) ∧ (h 0 22).toInt = e := by unfold isSg at m2; omega
    have hlt := tk.lt (by omega)
    have o3 := o.2.2.1
    have o4 := o.2.2.2
    have heN : (e : Int) ≤ (h 0 21).toInt := by clear tk2 m2; omega
    have hs160 : s ≤ 160 := by clear tk2 m2; omega
    have hnz : ∀ j, s ≤ j → j < e → ¬ B j = 0 := by
      intro j j1 j2
      rcases tk2 with q | q | q | q
      · omega
      · have := q.2.2.1.2.2.1 j j1 j2
        unfold isDg at this; omega
      · have := q.2.2.1.2.2.1 j j1 j2
        unfold isSm at this; omega
      · have := (hb s q.1).2
        omega
    have hse : s < e := by
      rcases tk2 with q | q | q | q
      · omega
      · have := q.2.2.1.1
        have : ¬ e = s := fun z => q.2.2.1.2.2.2 (by omega) (by rw [z]; exact q.2.1)
        omega
      · have := q.2.2.1.1
        have : ¬ e = s := fun z => q.2.2.1.2.2.2 (by omega) (by rw [z]; exact q.2.1)
        omega
      · omega
    intro r hr
    have q := word8 hs160 o mt.1 hc.2 heN b27 h23 (fun j => l.getD j 0) ⟨hv.1.symm, hv.2.1.symm, hv.2.2.1.symm, hv.2.2.2.1.symm, hv.2.2.2.2.1.symm, hv.2.2.2.2.2.1.symm, hv.2.2.2.2.2.2.1.symm, hv.2.2.2.2.2.2.2.symm⟩ r hr
    rw [hB, word_isW (B := B) (fun j => l.getD j 0) hl (fun _ _ => rfl) h0 hnz] at q
    rcases q with ⟨q1, q2⟩ | ⟨q1, q2⟩
    · rcases q2 with q2 | q2
      · refine Or.inl ⟨q1, q2.2, by omega, ?_, hc.2⟩
        have := q2.2.2 0 hl1
        rw [Nat.add_zero] at this
        have h9 := hsm 0 hl1
        rw [List.getD_eq_getElem?_getD, ← this] at h9
        exact h9
      · omega
    · exact Or.inr ⟨q1, fun z => q2 (Or.inl ⟨by omega, z.1⟩)⟩
  · unfold f_X7_isWord
    refine al_ite (fun _ => al_ite (fun z => absurd z h23) (fun _ => al_some (Or.inr ⟨ti0, fun z => ?_⟩))) (fun z => absurd b27 z)
    have nd : ¬ isDg (B s) := fun q => dg_sm q z.2.2.1
    rcases tk2 with q | q | q | q
    · omega
    · exact nd q.2.1
    · have hc : c = 301 ∨ (303 ≤ c ∧ c ≤ 309) := by
        rcases q.2.2.2 with u | u | u
        · obtain ⟨i, -, -, u, -⟩ := u
          clear m2 q; omega
        · obtain ⟨i, u1, -, u⟩ := u
          clear m2 q; omega
        · exact Or.inl u.2
      have z4 := z.2.2.2
      clear q z
      unfold isSg at m2
      omega
    · exact q.2.2.1 z.2.2.1
end PR
end
end

section
/-! keys, names; a fault is kept -/
noncomputable section
theorem wK_f : ∀ k, k < 6 → (wKey k).length ≤ 8 ∧ 0 < (wKey k).length ∧ ∀ j, j < (wKey k).length → 97 ≤ (wKey k).getD j 0 ∧ (wKey k).getD j 0 ≤ 122 := by decide
theorem wN_f : ∀ k, k < 6 → (wName k).length ≤ 8 ∧ 0 < (wName k).length ∧ ∀ j, j < (wName k).length → 97 ≤ (wName k).getD j 0 ∧ (wName k).getD j 0 ≤ 122 := by decide
section PR
variable {B : Nat → Int} {N : Nat} {P : Nat → Nat} {n : Nat} {i : Nat} {c : Int} {s e : Nat} {w : Int} {g h : dH}
theorem Tok.word {p : Nat} (tk : Tok B N p c s e w) (h1 : s < N) (h2 : isSm (B s)) : (∃ i, i < 6 ∧ isW B s e (wName i) ∧ c = 303 ∧ w = -1 - (i : Int)) ∨ (∃ i, i < 6 ∧ isW B s e (wKey i) ∧ c = 304 + (i : Int)) ∨ ((∀ i, i < 6 → ¬ isW B s e (wName i) ∧ ¬ isW B s e (wKey i)) ∧ c = 301) := by
  rcases tk.2 with q | q | q | q
  · omega
  · exact (dg_sm q.2.1 h2).elim
  · exact q.2.2.2
  · exact absurd h2 q.2.2.1
theorem Tok.word' {p : Nat} (tk : Tok B N p c s e w) (h1 : 303 ≤ c) (hb : ∀ j, j < N → B j ≤ 255) : s < N ∧ isSm (B s) := by
  rcases tk.2 with q | q | q | q
  · omega
  · have := q.2.2.2; omega
  · exact ⟨q.1, q.2.1⟩
  · have := hb s q.1; omega
theorem Good.key (G : Good B N P n i c s e w g h) {k : Nat} (hk : k < 6) {v0 v1 v2 v3 v4 v5 v6 v7 : Int32} (hv : v0.toInt = (wKey k).getD 0 0 ∧ v1.toInt = (wKey k).getD 1 0 ∧ v2.toInt = (wKey k).getD 2 0 ∧ v3.toInt = (wKey k).getD 3 0 ∧ v4.toInt = (wKey k).getD 4 0 ∧ v5.toInt = (wKey k).getD 5 0 ∧ v6.toInt = (wKey k).getD 6 0 ∧ v7.toInt = (wKey k).getD 7 0) : Al (f_X7_isWord v0 v1 v2 v3 v4 v5 v6 v7 h) (fun r => (r.toInt = 1 ∧ c = 304 + (k : Int) ∧ (h 0 22).toInt = e) ∨ (r.toInt = 0 ∧ ¬ c = 304 + (k : Int))) := by
  obtain ⟨f1, f2, f3⟩ := wK_f k hk
  intro r hr
  have q := G.word f1 f2 (fun j hj => by have := f3 j hj; omega) (fun j hj => f3 j hj) hv r hr
  have tk := G.2.2.2.2.2.2.2.2.2.2.1
  have hb := G.2.2.2.2.1
  rcases q with ⟨q1, q2, q3, q4, q5⟩ | ⟨q1, q2⟩
  · refine Or.inl ⟨q1, ?_, q5⟩
    rcases tk.word q3 q4 with ⟨j, j1, j2, -⟩ | ⟨j, j1, j2, j3⟩ | ⟨j1, -⟩
    · exact absurd (j2.uniq q2) (wNK j j1 k hk)
    · have := wK_inj j j1 k hk (j2.uniq q2)
      subst this
      exact j3
    · exact absurd q2 (j1 k hk).2
  · refine Or.inr ⟨q1, fun z => q2 ?_⟩
    obtain ⟨a1, a2⟩ := tk.word' (by omega) (fun j hj => (hb j hj).2)
    refine ⟨?_, a1, a2, by omega⟩
    rcases tk.word a1 a2 with ⟨j, j1, j2, j3, -⟩ | ⟨j, j1, j2, j3⟩ | ⟨-, j3⟩
    · omega
    · have : j = k := by omega
      subst this
      exact j2
    · omega
theorem Good.nam (G : Good B N P n i c s e w g h) {k : Nat} (hk : k < 6) {v0 v1 v2 v3 v4 v5 v6 v7 : Int32} (hv : v0.toInt = (wName k).getD 0 0 ∧ v1.toInt = (wName k).getD 1 0 ∧ v2.toInt = (wName k).getD 2 0 ∧ v3.toInt = (wName k).getD 3 0 ∧ v4.toInt = (wName k).getD 4 0 ∧ v5.toInt = (wName k).getD 5 0 ∧ v6.toInt = (wName k).getD 6 0 ∧ v7.toInt = (wName k).getD 7 0) : Al (f_X7_isWord v0 v1 v2 v3 v4 v5 v6 v7 h) (fun r => (r.toInt = 1 ∧ c = 303 ∧ w = -1 - (k : Int) ∧ (h 0 22).toInt = e) ∨ (r.toInt = 0 ∧ ¬ (c = 303 ∧ w = -1 - (k : Int)))) := by
  obtain ⟨f1, f2, f3⟩ := wN_f k hk
  intro r hr
  have q := G.word f1 f2 (fun j hj => by have := f3 j hj; omega) (fun j hj => f3 j hj) hv r hr
  have tk := G.2.2.2.2.2.2.2.2.2.2.1
  have hb := G.2.2.2.2.1
  rcases q with ⟨q1, q2, q3, q4, q5⟩ | ⟨q1, q2⟩
  · refine Or.inl ⟨q1, ?_⟩
    rcases tk.word q3 q4 with ⟨j, j1, j2, j3, j4⟩ | ⟨j, j1, j2, j3⟩ | ⟨j1, -⟩
    · have := wN_inj j j1 k hk (j2.uniq q2)
      subst this
      exact ⟨j3, j4, q5⟩
    · exact absurd (q2.uniq j2) (wNK k hk j j1)
    · exact absurd q2 (j1 k hk).1
  · refine Or.inr ⟨q1, fun z => q2 ?_⟩
    obtain ⟨a1, a2⟩ := tk.word' (by omega) (fun j hj => (hb j hj).2)
    refine ⟨?_, a1, a2, by omega⟩
    rcases tk.word a1 a2 with ⟨j, j1, j2, j3, j4⟩ | ⟨j, j1, j2, j3⟩ | ⟨-, j3⟩
    · have : j = k := by omega
      subst this
      exact j2
    · omega
    · omega
/-- a name's value -/
theorem Good.name (G : Good B N P n i c s e w g h) : Al (f_X7_name h) (fun o => (∃ k : Nat, k < 6 ∧ c = 303 ∧ w = -1 - (k : Int) ∧ (h 0 22).toInt = e ∧ o = (h 0 (14 + k), h)) ∨ ((∀ k : Nat, k < 6 → ¬ (c = 303 ∧ w = -1 - (k : Int))) ∧ f_X7_fail h = some o.2)) := by
  unfold f_X7_name
  have no : ∀ {r : Int32} {k : Nat}, r.toInt = 0 → ((r.toInt = 1 ∧ c = 303 ∧ w = -1 - (k : Int) ∧ (h 0 22).toInt = e) ∨ (r.toInt = 0 ∧ ¬ (c = 303 ∧ w = -1 - (k : Int)))) → ¬ (c = 303 ∧ w = -1 - (k : Int)) := fun z q => q.elim (fun y => by omega) (fun y => y.2)
  have ye : ∀ {r : Int32} {k : Nat}, k < 6 → ¬ r.toInt = 0 → ((r.toInt = 1 ∧ c = 303 ∧ w = -1 - (k : Int) ∧ (h 0 22).toInt = e) ∨ (r.toInt = 0 ∧ ¬ (c = 303 ∧ w = -1 - (k : Int)))) → Al (some (h 0 (14 + k), h)) (fun o => (∃ k : Nat, k < 6 ∧ c = 303 ∧ w = -1 - (k : Int) ∧ (h 0 22).toInt = e ∧ o = (h 0 (14 + k), h)) ∨ ((∀ k : Nat, k < 6 → ¬ (c = 303 ∧ w = -1 - (k : Int))) ∧ f_X7_fail h = some o.2)) := by
    intro r k hk z q
    rcases q with q | q
    · exact al_some (Or.inl ⟨k, hk, q.2.1, q.2.2.1, q.2.2.2, rfl⟩)
    · exact absurd q.1 z
  refine al_oP (fun r0 hr0 => ?_)
  have q0 := G.nam (k := 0) (by omega) (by decide) r0 hr0
  refine al_ite (fun z0 => al_oP (fun r1 hr1 => ?_)) (fun z0 => ye (by omega) z0 q0)
  have q1 := G.nam (k := 1) (by omega) (by decide) r1 hr1
  refine al_ite (fun z1 => al_oP (fun r2 hr2 => ?_)) (fun z1 => ye (by omega) z1 q1)
  have q2 := G.nam (k := 2) (by omega) (by decide) r2 hr2
  refine al_ite (fun z2 => al_oP (fun r3 hr3 => ?_)) (fun z2 => ye (by omega) z2 q2)
  have q3 := G.nam (k := 3) (by omega) (by decide) r3 hr3
  refine al_ite (fun z3 => al_oP (fun r4 hr4 => ?_)) (fun z3 => ye (by omega) z3 q3)
  have q4 := G.nam (k := 4) (by omega) (by decide) r4 hr4
  refine al_ite (fun z4 => al_oP (fun r5 hr5 => ?_)) (fun z4 => ye (by omega) z4 q4)
  have q5 := G.nam (k := 5) (by omega) (by decide) r5 hr5
  refine al_ite (fun z5 => al_oV' (fun g19 hg => al_some (Or.inr ⟨?_, hg⟩))) (fun z5 => ye (by omega) z5 q5)
  exact six (P := fun k => ¬ (c = 303 ∧ w = -1 - (k : Int))) (no z0 q0) (no z1 q1) (no z2 q2) (no z3 q3) (no z4 q4) (no z5 q5)
end PR
/-! behind a fault -/
theorem bad_sign {h : dH} {v : Int32} (hb : ¬ (h 0 27).toInt = 0) : Al (f_X7_isSign v h) (fun r => r.toInt = 0) := by
  unfold f_X7_isSign
  exact al_ite (fun z => absurd z hb) (fun _ => al_some ti0)
theorem bad_word {h : dH} {v0 v1 v2 v3 v4 v5 v6 v7 : Int32} (hb : ¬ (h 0 27).toInt = 0) : Al (f_X7_isWord v0 v1 v2 v3 v4 v5 v6 v7 h) (fun r => r.toInt = 0) := by
  unfold f_X7_isWord
  exact al_ite (fun z => absurd z hb) (fun _ => al_some ti0)
theorem bad_fail {h : dH} (hb : ¬ (h 0 27).toInt = 0) : Al (f_X7_fail h) (fun k => k = h) := by
  unfold f_X7_fail
  exact al_ite (fun z => absurd z hb) (fun _ => al_some rfl)
/-- the class behind its fault -/
def cBad (g : dH) : Prop := ¬ (g 42 4).toInt = -1 ∧ (g 42 3).toInt = 301
def cStay (f g : dH) : Prop := rdS f g ∧ f 42 4 = g 42 4 ∧ f 42 2 = g 42 2 ∧ (f 42 3).toInt = 301
theorem cStay.bad {f g : dH} (q : cStay f g) (b : cBad g) : cBad f := ⟨by rw [q.2.1]; exact b.1, q.2.2.2⟩
theorem cStay.trans {f g h : dH} (q : cStay f g) (r : cStay g h) : cStay f h := ⟨q.1.trans r.1, q.2.1.trans r.2.1, q.2.2.1.trans r.2.2.1, q.2.2.2⟩
theorem cbad_fail {g : dH} (b : cBad g) : Al (f_X1_fail g) (fun f => cStay f g) := by
  unfold f_X1_fail
  refine al_ite (fun z => absurd z b.1) (fun _ => al_oH' (fun f hf => al_some ⟨fun a k q => by rw [hf]; exact dU_ne (by omega), by rw [hf]; exact dU_ne (by omega), by rw [hf]; exact dU_ne (by omega), by rw [hf, dU_eq]; decide⟩))
theorem cbad_expect {g : dH} {v : Int32} (b : cBad g) (hv : ¬ v.toInt = 301) : Al (f_X1_expect v g) (fun f => cStay f g) := by
  unfold f_X1_expect
  refine al_ite (fun z => absurd (z.symm.trans b.2) hv) (fun _ => al_oV' (fun f hf => al_some (cbad_fail b f hf)))
theorem cbad_one {g : dH} {rec : Int32 → Int32 → dH → Option dH} {v : Int32} (b : cBad g) : ∀ n, Al (f_X1_readOne rec n v g) (fun f => cStay f g)
  | 0 => al_none
  | n + 1 => by
    rw [f_X1_readOne]
    have b2 := b.2
    refine al_ite (fun z => by omega) (fun _ => al_ite (fun z => by omega) (fun _ => al_ite (fun z => by omega) (fun _ => al_ite (fun z => by omega) (fun _ => al_oV' (fun f hf => al_some (cbad_fail b f hf))))))
theorem cbad_level {g : dH} (b : cBad g) : Al (f_X1_levelOf (g 42 3)) (fun r => r.toInt = -1) := by
  have b2 := b.2
  unfold f_X1_levelOf
  refine al_ite (fun z => by omega) (fun _ => al_ite (fun z => by omega) (fun _ => al_ite (fun z => by omega) (fun _ => al_ite (fun z => by omega) (fun _ => al_ite (fun z => by omega) (fun _ => al_ite (fun z => by omega) (fun _ => al_ite (fun z => by omega) (fun _ => al_some (by decide))))))))
theorem cbad_loop {rec : Int32 → Int32 → dH → Option dH} {v1 v2 v3 : Int32} (h1 : 0 ≤ v1.toInt) : ∀ (n : Nat) (v4 : Int32) (g : dH), cBad g → Al (l_X1_read_76 rec v1 v2 v3 (fun f => some f) n v4 g) (fun f => cStay f g)
  | 0, _, _, _ => al_none
  | n + 1, v4, g, b => by
    rw [l_X1_read_76]
    have st : cStay g g := ⟨rdS.refl g, rfl, rfl, b.2⟩
    refine al_ite (fun _ => al_oP (fun r hr => al_ite (fun z => ?_) (fun _ => al_some st))) (fun _ => al_some st)
    have := cbad_level b r hr
    omega
theorem cbad_read : ∀ (m : Nat) (v1 v2 : Int32) (g : dH), 0 ≤ v1.toInt → v1.toInt ≤ 5 → cBad g → Al (f_X1_read m v1 v2 g) (fun f => cStay f g)
  | 0, _, _, _, _, _, _ => al_none
  | m + 1, v1, v2, g, h0, h5, b => by
    show Al (f_X1_readB (f_X1_read m) v1 v2 g) _
    unfold f_X1_readB
    have b2 := b.2
    have more : ¬ 4 < v1.toInt → Al (f_X1_read m (v1 + 1) v2 g) (fun f => cStay f g) := fun z => by
      have t : (v1 + 1).toInt = v1.toInt + 1 := i_add rfl (by decide) (by omega) (by omega)
      exact cbad_read m (v1 + 1) v2 g (by omega) (by omega) b
    refine al_ite (fun _ => al_oV' (fun f hf => al_some (cbad_one b 10 f hf))) (fun z4 => al_ite (fun _ => al_ite (fun z => by omega) (fun _ => al_oV' (fun f hf => ?_))) (fun _ => al_oV' (fun f hf => ?_)))
    all_goals
      have st := more z4 f hf
      have bf := st.bad b
      refine al_ite (fun _ => fun o ho => (cbad_loop h0 _ _ f bf o ho).trans st) (fun _ => fun o ho => (cbad_loop h0 _ _ f bf o ho).trans st)
end
end

section
/-! the steps of a rule, run on a pile -/
noncomputable section
def trn (x a : Int32) : Int32 := if x.toInt = -15 then -a else if a.toInt = 0 then 1 else 0
def jnd (x a b : Int32) : Int32 := if x.toInt = -7 then (if ¬ a.toInt = 0 ∨ ¬ b.toInt = 0 then 1 else 0) else if x.toInt = -8 then (if ¬ a.toInt = 0 ∧ ¬ b.toInt = 0 then 1 else 0) else if x.toInt = -9 then (if a.toInt < b.toInt then 1 else 0) else if x.toInt = -10 then (if a.toInt = b.toInt then 1 else 0) else if x.toInt = -11 then a + b else if x.toInt = -12 then a - b else a * b
def ex1 (nm : Nat → Int32) (x : Int32) (st : List Int32) : Option (List Int32) :=
  if -6 ≤ x.toInt then (if st.length < 40 then some ((if 0 ≤ x.toInt then x else nm (-1 - x.toInt).toNat) :: st) else none)
  else if x.toInt ≤ -14 then (match st with
    | a :: r => some (trn x a :: r)
    | [] => none)
  else (match st with
    | b :: a :: r => some (jnd x a b :: r)
    | _ => none)
def exR (nm : Nat → Int32) (f : Nat → Int32) : Nat → Nat → List Int32 → Option (List Int32)
  | 0, _, st => some st
  | m + 1, a, st => match ex1 nm (f a) st with
    | some st' => exR nm f m (a + 1) st'
    | none => none
theorem exR_add {nm f : Nat → Int32} : ∀ (m k a : Nat) (st st' : List Int32), exR nm f m a st = some st' → exR nm f (m + k) a st = exR nm f k (a + m) st'
  | 0, k, a, st, st', h => by
    cases h
    rw [Nat.zero_add, Nat.add_zero]
  | m + 1, k, a, st, st', h => by
    rw [exR] at h
    rw [show m + 1 + k = (m + k) + 1 by omega, exR]
    cases hx : ex1 nm (f a) st with
    | none => rw [hx] at h; cases h
    | some s1 =>
      rw [hx] at h
      simp only at h ⊢
      rw [exR_add m k (a + 1) s1 st' h, show a + 1 + m = a + (m + 1) by omega]
theorem exR_congr {nm f g : Nat → Int32} : ∀ (m a : Nat) (st : List Int32), (∀ j, a ≤ j → j < a + m → f j = g j) → exR nm f m a st = exR nm g m a st
  | 0, _, _, _ => rfl
  | m + 1, a, st, h => by
    rw [exR, exR, h a (by omega) (by omega)]
    cases ex1 nm (g a) st with
    | none => rfl
    | some s1 => exact exR_congr m (a + 1) s1 (fun j j1 j2 => h j (by omega) (by omega))
theorem exR_one {nm f : Nat → Int32} {a : Nat} {st : List Int32} : exR nm f 1 a st = ex1 nm (f a) st := by
  rw [exR]
  cases ex1 nm (f a) st <;> rfl
/-! what the class's reader writes -/
/-- the text that is read, its size, its steps -/
def rT (g : dH) : Nat := dtx (g 42 1)
def rZ (g : dH) : Nat := (g (rT g) 1).toInt.toNat
def rS (g : dH) : Nat → Int32 := g (rT g + 1)
theorem rT_or (g : dH) : rT g = 10 ∨ rT g = 14 ∨ rT g = 18 ∨ rT g = 22 ∨ rT g = 26 ∨ rT g = 30 := zT_dtx _
/-- all but the reader's own numbers and this text's size and steps -/
def pF (f g : dH) : Prop := ∀ a k, ¬ (a = 42 ∧ 2 ≤ k ∧ k ≤ 4) → ¬ (a = rT g ∧ k = 1) → ¬ a = rT g + 1 → f a k = g a k
theorem pF.refl (g : dH) : pF g g := fun _ _ _ _ _ => rfl
theorem pF.tx {f g : dH} (q : pF f g) : rT f = rT g := by
  have := rT_or g
  unfold rT
  rw [q 42 1 (by omega) (by omega) (by omega)]
theorem pF.trans {f g h : dH} (q : pF f g) (r : pF g h) : pF f h := fun a k a1 a2 a3 => (q a k a1 (by rw [r.tx]; exact a2) (by rw [r.tx]; exact a3)).trans (r a k a1 a2 a3)
theorem rdS.pF {f g : dH} (q : rdS f g) : pF f g := fun a k a1 _ _ => q a k a1
theorem pF.rows {f g : dH} (q : pF f g) : ∀ a k, a = 2 ∨ a = 3 ∨ a = 4 → f a k = g a k := fun a k h => by
  have := rT_or g
  exact q a k (by omega) (by omega) (by omega)
/-- from g to f steps were written that lay down v, at most D above what lies there -/
def Em (nm : Nat → Int32) (D : Nat) (v : Int32) (g f : dH) : Prop := rZ g ≤ rZ f ∧ (∀ j, j < rZ g → rS f j = rS g j) ∧ ∀ st : List Int32, st.length + D ≤ 40 → exR nm (rS f) (rZ f - rZ g) (rZ g) st = some (v :: st)
theorem rdS.same {f g : dH} (q : rdS f g) : rT f = rT g ∧ rZ f = rZ g ∧ rS f = rS g := by
  have h1 : rT f = rT g := q.pF.tx
  have := rT_or g
  refine ⟨h1, ?_, ?_⟩
  · unfold rZ; rw [h1, q _ _ (by omega)]
  · unfold rS; rw [h1]; funext k; exact q _ _ (by omega)
theorem Em.left {nm : Nat → Int32} {D : Nat} {v : Int32} {g g' f : dH} (q : rdS g' g) (m : Em nm D v g' f) : Em nm D v g f := by
  obtain ⟨q1, q2, q3⟩ := q.same
  unfold Em at m ⊢
  rw [q2, q3] at m
  exact m
theorem Em.right {nm : Nat → Int32} {D : Nat} {v : Int32} {g f f' : dH} (q : rdS f' f) (m : Em nm D v g f) : Em nm D v g f' := by
  obtain ⟨q1, q2, q3⟩ := q.same
  unfold Em at m ⊢
  rw [q2, q3]
  exact m
theorem Em.mono {nm : Nat → Int32} {D D' : Nat} {v : Int32} {g f : dH} (m : Em nm D v g f) (h : D ≤ D') : Em nm D' v g f := ⟨m.1, m.2.1, fun st hs => m.2.2 st (by omega)⟩
/-- a step is written -/
theorem write_ok {g : dH} {x : Int32} (h0 : 0 ≤ (g (rT g) 1).toInt) (h1 : rZ g < 160) : Al (f_X5_write (dtx (g 42 1)) x g) (fun f => pF f g ∧ (∀ k, f 42 k = g 42 k) ∧ rZ f = rZ g + 1 ∧ 0 ≤ (f (rT g) 1).toInt ∧ (∀ j, j < rZ g → rS f j = rS g j) ∧ rS f (rZ g) = x) := by
  have ht := rT_or g
  unfold f_X5_write
  show Al (if (g (rT g) 1).toInt < 160 then _ else _) _
  refine al_ite (fun c => al_ite (fun c1 => al_oH' (fun g1 hg1 => al_oH' (fun g2 hg2 => al_some ?_))) (fun _ => al_none)) (fun c => ?_)
  · have p : pF g2 g := fun a k a1 a2 a3 => by rw [hg2, dU_ne (by unfold rT at a2; exact a2), hg1, dU_ne (by unfold rT at a3; omega)]
    have e1 : g1 (rT g) 1 = g (rT g) 1 := by rw [hg1]; exact dU_ne (by unfold rT; omega)
    have e2 : (g2 (rT g) 1).toInt = (g (rT g) 1).toInt + 1 := by
      rw [hg2]
      show (dU g1 (rT g) 1 ((g1 (rT g) 1) + 1) (rT g) 1).toInt = _
      rw [dU_eq, e1]
      exact i_add rfl (by decide) (by omega) (by omega)
    refine ⟨p, fun k => ?_, ?_, by omega, fun j hj => ?_, ?_⟩
    · rw [hg2, dU_ne (by unfold rT at ht; omega), hg1, dU_ne (by unfold rT at ht; omega)]
    · unfold rZ; rw [p.tx, e2]; omega
    · unfold rS rZ at *
      rw [p.tx, hg2, dU_ne (by unfold rT; omega), hg1, dU_ne (by unfold rT at hj ⊢; omega)]
    · unfold rS rZ
      rw [p.tx, hg2, dU_ne (by unfold rT; omega), hg1]
      exact dU_eq
  · exfalso
    unfold rZ at h1
    omega
end
end

section
/-! what is written, put together -/
noncomputable section
/-- the model's six names -/
def nmF (h : dH) : Nat → Int32 := fun k => if k < 6 then h 0 (14 + k) else 0
theorem mSame.nm {g h : dH} (q : mSame g h) : nmF g = nmF h := by
  funext k
  unfold nmF
  by_cases hk : k < 6
  · rw [if_pos hk, if_pos hk]; exact q.2 (14 + k) (by omega)
  · rw [if_neg hk, if_neg hk]
/-- one step more -/
def Wr (x : Int32) (g f : dH) : Prop := rZ f = rZ g + 1 ∧ (∀ j, j < rZ g → rS f j = rS g j) ∧ rS f (rZ g) = x
theorem Em.lit {nm : Nat → Int32} {x : Int32} {g f : dH} (q : Wr x g f) (hx : -6 ≤ x.toInt) : Em nm 1 (if 0 ≤ x.toInt then x else nm (-1 - x.toInt).toNat) g f := by
  obtain ⟨q1, q2, q3⟩ := q
  refine ⟨by omega, q2, fun st hs => ?_⟩
  rw [show rZ f - rZ g = 1 by omega, exR_one, q3]
  unfold ex1
  rw [if_pos hx, if_pos (by omega)]
theorem Em.un {nm : Nat → Int32} {D : Nat} {a x : Int32} {g0 g f : dH} (m : Em nm D a g0 g) (q : Wr x g f) (hx : x.toInt ≤ -14) : Em nm D (trn x a) g0 f := by
  obtain ⟨m1, m2, m3⟩ := m
  obtain ⟨q1, q2, q3⟩ := q
  refine ⟨by omega, fun j hj => (q2 j (by omega)).trans (m2 j hj), fun st hs => ?_⟩
  have e1 : exR nm (rS f) (rZ g - rZ g0) (rZ g0) st = some (a :: st) := by
    rw [exR_congr (g := rS g) _ _ _ (fun j j1 j2 => q2 j (by omega))]
    exact m3 st hs
  rw [show rZ f - rZ g0 = (rZ g - rZ g0) + 1 by omega, exR_add _ 1 _ _ _ e1, exR_one, show rZ g0 + (rZ g - rZ g0) = rZ g by omega, q3]
  unfold ex1
  rw [if_neg (by omega), if_pos hx]
theorem Em.bin {nm : Nat → Int32} {D E : Nat} {a b x : Int32} {g0 g f k : dH} (m : Em nm D a g0 g) (p : Em nm E b g f) (q : Wr x f k) (hx : -14 < x.toInt ∧ x.toInt < -6) (hD : E + 1 ≤ D) : Em nm D (jnd x a b) g0 k := by
  obtain ⟨m1, m2, m3⟩ := m
  obtain ⟨p1, p2, p3⟩ := p
  obtain ⟨q1, q2, q3⟩ := q
  refine ⟨by omega, fun j hj => (q2 j (by omega)).trans ((p2 j (by omega)).trans (m2 j hj)), fun st hs => ?_⟩
  have e1 : exR nm (rS k) (rZ g - rZ g0) (rZ g0) st = some (a :: st) := by
    rw [exR_congr (g := rS g) _ _ _ (fun j j1 j2 => (q2 j (by omega)).trans (p2 j (by omega)))]
    exact m3 st hs
  have e2 : exR nm (rS k) (rZ f - rZ g) (rZ g) (a :: st) = some (b :: a :: st) := by
    rw [exR_congr (g := rS f) _ _ _ (fun j j1 j2 => q2 j (by omega))]
    exact p3 (a :: st) (by rw [List.length_cons]; omega)
  rw [show rZ k - rZ g0 = (rZ g - rZ g0) + ((rZ f - rZ g) + 1) by omega, exR_add _ _ _ _ _ e1, show rZ g0 + (rZ g - rZ g0) = rZ g by omega, exR_add _ 1 _ _ _ e2, exR_one, show rZ g + (rZ f - rZ g) = rZ f by omega, q3]
  unfold ex1
  rw [if_neg (by omega), if_neg (by omega)]
theorem Em.nm {nm nm' : Nat → Int32} {D : Nat} {a : Int32} {g f : dH} (m : Em nm D a g f) (h : nm = nm') : Em nm' D a g f := h ▸ m
/-! the class's levels and operations -/
theorem level_ok {v : Int32} : Al (f_X1_levelOf v) (fun r => (v.toInt = 42 ∧ r.toInt = 4) ∨ ((v.toInt = 43 ∨ v.toInt = 45) ∧ r.toInt = 3) ∨ ((v.toInt = 60 ∨ v.toInt = 61) ∧ r.toInt = 2) ∨ (v.toInt = 307 ∧ r.toInt = 0) ∨ (v.toInt = 308 ∧ r.toInt = 1) ∨ (¬ v.toInt = 42 ∧ ¬ v.toInt = 43 ∧ ¬ v.toInt = 45 ∧ ¬ v.toInt = 60 ∧ ¬ v.toInt = 61 ∧ ¬ v.toInt = 307 ∧ ¬ v.toInt = 308 ∧ r.toInt = -1)) := by
  unfold f_X1_levelOf
  have t4 : (4 : Int32).toInt = 4 := by decide
  have t3 : (3 : Int32).toInt = 3 := by decide
  have t2 : (2 : Int32).toInt = 2 := by decide
  have tm : (-1 : Int32).toInt = -1 := by decide
  refine al_ite (fun _ => al_some (by rw [t4]; omega)) (fun _ => al_ite (fun _ => al_some (by rw [t3]; omega)) (fun _ => al_ite (fun _ => al_some (by rw [t3]; omega)) (fun _ => al_ite (fun _ => al_some (by rw [t2]; omega)) (fun _ => al_ite (fun _ => al_some (by rw [t2]; omega)) (fun _ => al_ite (fun _ => al_some (by rw [ti0]; omega)) (fun _ => al_ite (fun _ => al_some (by rw [ti1]; omega)) (fun _ => al_some (by rw [tm]; omega))))))))
theorem oper_ok {v : Int32} : Al (f_X1_operationOf v) (fun r => (v.toInt = 43 ∧ r = -11) ∨ (v.toInt = 45 ∧ r = -12) ∨ (v.toInt = 60 ∧ r = -9) ∨ (v.toInt = 61 ∧ r = -10) ∨ (v.toInt = 307 ∧ r = -7) ∨ (v.toInt = 308 ∧ r = -8) ∨ (¬ v.toInt = 43 ∧ ¬ v.toInt = 45 ∧ ¬ v.toInt = 60 ∧ ¬ v.toInt = 61 ∧ ¬ v.toInt = 307 ∧ ¬ v.toInt = 308 ∧ r = -13)) := by
  unfold f_X1_operationOf
  refine al_ite (fun a => al_some (Or.inl ⟨a, rfl⟩)) (fun a => al_ite (fun b => al_some (Or.inr (Or.inl ⟨b, rfl⟩))) (fun b => al_ite (fun c => al_some (Or.inr (Or.inr (Or.inl ⟨c, rfl⟩)))) (fun c => al_ite (fun d => al_some (Or.inr (Or.inr (Or.inr (Or.inl ⟨d, rfl⟩))))) (fun d => al_ite (fun e => al_some (Or.inr (Or.inr (Or.inr (Or.inr (Or.inl ⟨e, rfl⟩)))))) (fun e => al_ite (fun f => al_some (Or.inr (Or.inr (Or.inr (Or.inr (Or.inr (Or.inl ⟨f, rfl⟩))))))) (fun f => al_some (Or.inr (Or.inr (Or.inr (Or.inr (Or.inr (Or.inr ⟨a, b, c, d, e, f, rfl⟩))))))))))))
end
end
