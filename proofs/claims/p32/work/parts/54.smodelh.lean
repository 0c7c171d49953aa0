/-! that they answer: X7_limitsBy, X7_isSheet, X7_tells, X7_sheet, X7_film, X7_friendsBy, X7_drawn, X7_chance, X7_image, X7_back, X7_count, X7_cell (by program) -/
noncomputable section
theorem sl_X7_limitsBy_31 (v1 : Int32) (v2 : Int32)  (h : dH) (I_h : InvM h) (r_v1 : 0 ≤ v1.toInt ∧ v1.toInt ≤ 3) (r_v2 : 0 ≤ v2.toInt ∧ v2.toInt ≤ 7) (k : Int32 → Option (Int32 × dH)) (Q : Int32 × dH → Prop) (hk : ∀ (v7 : Int32), True → Sf (k v7) Q)  : ∀ (n : Nat) (v7 : Int32) (v8 : Int32), 0 ≤ v8.toInt ∧ v8.toInt ≤ 8 → 8 - v8.toInt < (n : Int) → Sf (l_X7_limitsBy_31 v1 v2 h k n v7 v8) Q
  | 0, v7, v8, hi, hm => by omega
  | n + 1, v7, v8, hi, hm => by
    rw [l_X7_limitsBy_31]
    have bx11 := I_h.1 0 13 (0) (8) rfl
    refine sf_ite (fun c4 => ?_) (fun c5 => ?_)
    · skip
      refine sf_ite (fun c6 => ?_) (fun c7 => ?_)
      · skip
        have tx12 : (0 : Int32).toInt = 0 := by decide
        try have tx13 : (v8 + 1).toInt = v8.toInt + 1 := i_add rfl (by decide) (by omega) (by omega)
        exact sl_X7_limitsBy_31  v1 v2  h I_h r_v1 r_v2 k Q hk n (0 : Int32) (v8 + 1) (by first | trivial | omega) (by omega)
      · skip
        refine sf_ite (fun c8 => ?_) (fun c9 => ?_)
        · skip
          have tx14 : (1 : Int32).toInt = 1 := by decide
          try have tx15 : (v8 + 1).toInt = v8.toInt + 1 := i_add rfl (by decide) (by omega) (by omega)
          exact sl_X7_limitsBy_31  v1 v2  h I_h r_v1 r_v2 k Q hk n (1 : Int32) (v8 + 1) (by first | trivial | omega) (by omega)
        · skip
          refine sf_oP (s_X7_knows h I_h v2 v8 (by omega) (by omega)) (fun r10 pr10 => ?_)
          try have tx16 : (40 * v1).toInt = 40 * v1.toInt := i_mul (by decide) rfl (by omega) (by omega)
          try have tx17 : ((40 * v1) + v8).toInt = (40 * v1).toInt + v8.toInt := i_add rfl rfl (by omega) (by omega)
          refine sf_guard (by omega) (fun c11 => ?_)
          refine sf_ite (fun c12 => ?_) (fun c13 => ?_)
          · skip
            refine sf_ite (fun c14 => ?_) (fun c15 => ?_)
            · skip
              have tx18 : (1 : Int32).toInt = 1 := by decide
              try have tx19 : (v8 + 1).toInt = v8.toInt + 1 := i_add rfl (by decide) (by omega) (by omega)
              exact sl_X7_limitsBy_31  v1 v2  h I_h r_v1 r_v2 k Q hk n (1 : Int32) (v8 + 1) (by first | trivial | omega) (by omega)
            · skip
              have tx20 : (0 : Int32).toInt = 0 := by decide
              try have tx21 : (v8 + 1).toInt = v8.toInt + 1 := i_add rfl (by decide) (by omega) (by omega)
              exact sl_X7_limitsBy_31  v1 v2  h I_h r_v1 r_v2 k Q hk n (0 : Int32) (v8 + 1) (by first | trivial | omega) (by omega)
          · skip
            refine sf_ite (fun c16 => ?_) (fun c17 => ?_)
            · skip
              have tx22 : (1 : Int32).toInt = 1 := by decide
              try have tx23 : (v8 + 1).toInt = v8.toInt + 1 := i_add rfl (by decide) (by omega) (by omega)
              exact sl_X7_limitsBy_31  v1 v2  h I_h r_v1 r_v2 k Q hk n (1 : Int32) (v8 + 1) (by first | trivial | omega) (by omega)
            · skip
              have tx24 : (0 : Int32).toInt = 0 := by decide
              try have tx25 : (v8 + 1).toInt = v8.toInt + 1 := i_add rfl (by decide) (by omega) (by omega)
              exact sl_X7_limitsBy_31  v1 v2  h I_h r_v1 r_v2 k Q hk n (0 : Int32) (v8 + 1) (by first | trivial | omega) (by omega)
    · skip
      exact hk v7 (by first | trivial | omega)
theorem sl_X7_limitsBy_18 (v1 : Int32) (v2 : Int32)  (h0 : dH) (I_h0 : InvM h0) (r_v1 : 0 ≤ v1.toInt ∧ v1.toInt ≤ 3) (r_v2 : 0 ≤ v2.toInt ∧ v2.toInt ≤ 7) (k : Int32 → Int32 → dH → Option (Int32 × dH)) (Q : Int32 × dH → Prop) (hk : ∀ (v5 : Int32) (v6 : Int32) (g : dH) (Ig : InvM g) (e0 : g 0 3 = h0 0 3) (e1 : g 0 4 = h0 0 4) (e2 : g 0 13 = h0 0 13), 0 ≤ (g 0 8).toInt ∧ (g 0 8).toInt ≤ 99 → Sf (k v5 v6 g) Q)  : ∀ (n : Nat) (v5 : Int32) (v6 : Int32) (h : dH) (I_h : InvM h) (e0 : h 0 3 = h0 0 3) (e1 : h 0 4 = h0 0 4) (e2 : h 0 13 = h0 0 13), 0 ≤ (h 0 8).toInt ∧ (h 0 8).toInt ≤ 99 → (h 0 8).toInt < (n : Int) → Sf (l_X7_limitsBy_18 v1 v2 k n v5 v6 h) Q
  | 0, v5, v6, h, I_h, e0, e1, e2, hi, hm => by omega
  | n + 1, v5, v6, h, I_h, e0, e1, e2, hi, hm => by
    rw [l_X7_limitsBy_18]
    have yx8 := congrArg Int32.toInt e0
    have yx9 := congrArg Int32.toInt e1
    have yx10 := congrArg Int32.toInt e2
    refine sf_ite (fun c2 => ?_) (fun c3 => ?_)
    · skip
      have tx26 : (1 : Int32).toInt = 1 := by decide
      have tx27 : (0 : Int32).toInt = 0 := by decide
      refine sl_X7_limitsBy_31 v1 v2  h I_h (by omega) (by omega) _ _ (fun v7_18 px28 => ?_)  fuel0 (1 : Int32) (0 : Int32)  (by first | trivial | omega) (by have := fuel0_eq; omega)
      refine sf_ite (fun c20 => ?_) (fun c21 => ?_)
      · skip
        refine sf_ite (fun c22 => ?_) (fun c23 => ?_)
        · skip
          try have tx29 : ((h 0 8) - 1).toInt = (h 0 8).toInt - 1 := i_sub rfl (by decide) (by omega) (by omega)
          refine sf_oH (fun g24 hg24 => ?_)
          have I_g24 : InvM g24 := by rw [hg24]; exact invM_free I_h rfl (by omega) (by omega)
          have ex30 : g24 0 3 = h 0 3 := by rw [hg24]; exact dU_ne (by omega)
          have yx31 := congrArg Int32.toInt ex30
          have ex32 : g24 0 4 = h 0 4 := by rw [hg24]; exact dU_ne (by omega)
          have yx33 := congrArg Int32.toInt ex32
          have ex34 : g24 0 13 = h 0 13 := by rw [hg24]; exact dU_ne (by omega)
          have yx35 := congrArg Int32.toInt ex34
          have yx36 : (g24 0 8).toInt = ((h 0 8) - 1).toInt := by rw [hg24, dU_eq]
          try have tx37 : (v5 + 0).toInt = v5.toInt + 0 := i_add rfl (by decide) (by omega) (by omega)
          exact sl_X7_limitsBy_18  v1 v2  h0 I_h0 r_v1 r_v2 k Q hk n (v5 + 0) v6 g24 I_g24 (ex30.trans e0) (ex32.trans e1) (ex34.trans e2) (by first | trivial | omega) (by omega)
        · skip
          try have tx38 : ((h 0 8) - 1).toInt = (h 0 8).toInt - 1 := i_sub rfl (by decide) (by omega) (by omega)
          refine sf_oH (fun g25 hg25 => ?_)
          have I_g25 : InvM g25 := by rw [hg25]; exact invM_free I_h rfl (by omega) (by omega)
          have ex39 : g25 0 3 = h 0 3 := by rw [hg25]; exact dU_ne (by omega)
          have yx40 := congrArg Int32.toInt ex39
          have ex41 : g25 0 4 = h 0 4 := by rw [hg25]; exact dU_ne (by omega)
          have yx42 := congrArg Int32.toInt ex41
          have ex43 : g25 0 13 = h 0 13 := by rw [hg25]; exact dU_ne (by omega)
          have yx44 := congrArg Int32.toInt ex43
          have yx45 : (g25 0 8).toInt = ((h 0 8) - 1).toInt := by rw [hg25, dU_eq]
          try have tx46 : (v5 + 0).toInt = v5.toInt + 0 := i_add rfl (by decide) (by omega) (by omega)
          exact sl_X7_limitsBy_18  v1 v2  h0 I_h0 r_v1 r_v2 k Q hk n (v5 + 0) (h 0 8) g25 I_g25 (ex39.trans e0) (ex41.trans e1) (ex43.trans e2) (by first | trivial | omega) (by omega)
      · skip
        refine sf_ite (fun c26 => ?_) (fun c27 => ?_)
        · skip
          try have tx47 : ((h 0 8) - 1).toInt = (h 0 8).toInt - 1 := i_sub rfl (by decide) (by omega) (by omega)
          refine sf_oH (fun g28 hg28 => ?_)
          have I_g28 : InvM g28 := by rw [hg28]; exact invM_free I_h rfl (by omega) (by omega)
          have ex48 : g28 0 3 = h 0 3 := by rw [hg28]; exact dU_ne (by omega)
          have yx49 := congrArg Int32.toInt ex48
          have ex50 : g28 0 4 = h 0 4 := by rw [hg28]; exact dU_ne (by omega)
          have yx51 := congrArg Int32.toInt ex50
          have ex52 : g28 0 13 = h 0 13 := by rw [hg28]; exact dU_ne (by omega)
          have yx53 := congrArg Int32.toInt ex52
          have yx54 : (g28 0 8).toInt = ((h 0 8) - 1).toInt := by rw [hg28, dU_eq]
          try have tx55 : (v5 + 1).toInt = v5.toInt + 1 := i_add rfl (by decide) (by omega) (by omega)
          exact sl_X7_limitsBy_18  v1 v2  h0 I_h0 r_v1 r_v2 k Q hk n (v5 + 1) v6 g28 I_g28 (ex48.trans e0) (ex50.trans e1) (ex52.trans e2) (by first | trivial | omega) (by omega)
        · skip
          try have tx56 : ((h 0 8) - 1).toInt = (h 0 8).toInt - 1 := i_sub rfl (by decide) (by omega) (by omega)
          refine sf_oH (fun g29 hg29 => ?_)
          have I_g29 : InvM g29 := by rw [hg29]; exact invM_free I_h rfl (by omega) (by omega)
          have ex57 : g29 0 3 = h 0 3 := by rw [hg29]; exact dU_ne (by omega)
          have yx58 := congrArg Int32.toInt ex57
          have ex59 : g29 0 4 = h 0 4 := by rw [hg29]; exact dU_ne (by omega)
          have yx60 := congrArg Int32.toInt ex59
          have ex61 : g29 0 13 = h 0 13 := by rw [hg29]; exact dU_ne (by omega)
          have yx62 := congrArg Int32.toInt ex61
          have yx63 : (g29 0 8).toInt = ((h 0 8) - 1).toInt := by rw [hg29, dU_eq]
          try have tx64 : (v5 + 1).toInt = v5.toInt + 1 := i_add rfl (by decide) (by omega) (by omega)
          exact sl_X7_limitsBy_18  v1 v2  h0 I_h0 r_v1 r_v2 k Q hk n (v5 + 1) (h 0 8) g29 I_g29 (ex57.trans e0) (ex59.trans e1) (ex61.trans e2) (by first | trivial | omega) (by omega)
    · skip
      exact hk v5 v6 h I_h e0 e1 e2 (by first | trivial | omega)
theorem s_X7_limitsBy (h : dH) (I_h : InvM h) (v1 : Int32) (v2 : Int32) (v3 : Int32) (q0 : 0 ≤ v1.toInt ∧ v1.toInt ≤ 3) (q1 : 0 ≤ v2.toInt ∧ v2.toInt ≤ 7) : Sf (f_X7_limitsBy v1 v2 v3 h) (fun o => InvM o.2 ∧ o.2 0 3 = h 0 3 ∧ o.2 0 4 = h 0 4 ∧ o.2 0 13 = h 0 13 ∧ True) := by
  unfold f_X7_limitsBy
  have u_v1 := Int32.toInt_lt v1
  have w_v1 := Int32.le_toInt v1
  have u_v2 := Int32.toInt_lt v2
  have w_v2 := Int32.le_toInt v2
  have u_v3 := Int32.toInt_lt v3
  have w_v3 := Int32.le_toInt v3
  refine sf_oH (fun g1 hg1 => ?_)
  have I_g1 : InvM g1 := by rw [hg1]; exact invM_free I_h rfl (by omega) (by omega)
  have ex1 : g1 0 3 = h 0 3 := by rw [hg1]; exact dU_ne (by omega)
  have yx2 := congrArg Int32.toInt ex1
  have ex3 : g1 0 4 = h 0 4 := by rw [hg1]; exact dU_ne (by omega)
  have yx4 := congrArg Int32.toInt ex3
  have ex5 : g1 0 13 = h 0 13 := by rw [hg1]; exact dU_ne (by omega)
  have yx6 := congrArg Int32.toInt ex5
  have yx7 : (g1 0 8).toInt = 99 := by rw [hg1, dU_eq]; decide
  have tx65 : (0 : Int32).toInt = 0 := by decide
  have tx66 : ((-1) : Int32).toInt = (-1) := by decide
  refine sl_X7_limitsBy_18 v1 v2  g1 I_g1 (by omega) (by omega) _ _ (fun v5_30 v6_31 g34 I_g34 eg34_0 eg34_1 eg34_2 px67 => ?_)  fuel0 (0 : Int32) ((-1) : Int32) g1 I_g1 rfl rfl rfl (by first | trivial | omega) (by have := fuel0_eq; omega)
  have yx68 := congrArg Int32.toInt eg34_0
  have yx69 := congrArg Int32.toInt eg34_1
  have yx70 := congrArg Int32.toInt eg34_2
  refine sf_oH (fun g35 hg35 => ?_)
  have I_g35 : InvM g35 := by rw [hg35]; exact invM_free I_g34 rfl (by omega) (by omega)
  have ex71 : g35 0 3 = g34 0 3 := by rw [hg35]; exact dU_ne (by omega)
  have yx72 := congrArg Int32.toInt ex71
  have ex73 : g35 0 4 = g34 0 4 := by rw [hg35]; exact dU_ne (by omega)
  have yx74 := congrArg Int32.toInt ex73
  have ex75 : g35 0 13 = g34 0 13 := by rw [hg35]; exact dU_ne (by omega)
  have yx76 := congrArg Int32.toInt ex75
  have yx77 : (g35 0 8).toInt = (h 0 8).toInt := by rw [hg35, dU_eq]
  refine sf_ite (fun c36 => ?_) (fun c37 => ?_)
  · skip
    exact sf_some (⟨I_g35, (ex71.trans (eg34_0.trans ex1)), (ex73.trans (eg34_1.trans ex3)), (ex75.trans (eg34_2.trans ex5)), trivial⟩)
  · skip
    exact sf_some (⟨I_g35, (ex71.trans (eg34_0.trans ex1)), (ex73.trans (eg34_1.trans ex3)), (ex75.trans (eg34_2.trans ex5)), trivial⟩)
theorem s_X7_isSheet (h : dH) (I_h : InvM h) (v0 : Int32)  : Sf (f_X7_isSheet v0) (fun r => r.toInt = 0 ∨ (r.toInt = 1 ∧ 0 ≤ v0.toInt ∧ v0.toInt ≤ 3)) := by
  unfold f_X7_isSheet
  have u_v0 := Int32.toInt_lt v0
  have w_v0 := Int32.le_toInt v0
  have tx1 : v0.toInt64.toInt = v0.toInt := l_i2l
  have tx2 : (0 : Int64).toInt = 0 := by decide
  have tx3 : (3 : Int64).toInt = 3 := by decide
  refine sf_oP (s_X7_in h I_h (v0.toInt64) 0 3) (fun r1 pr1 => ?_)
  refine sf_guard (by rw [d_toI, d_toI, show (0 : Int32).toInt = 0 by decide, show (1 : Int32).toInt = 1 by decide]; omega) (fun c2 => ?_)
  exact sf_some ((show r1.toInt = 0 ∨ (r1.toInt = 1 ∧ 0 ≤ v0.toInt ∧ v0.toInt ≤ 3) by omega))
theorem sl_X7_tells_175 (v1 : Int32) (v2 : Int32) (v4 : Int32) (v6 : Int32)  (h0 : dH) (I_h0 : InvM h0) (r_v1 : 0 ≤ v1.toInt ∧ v1.toInt ≤ 3) (r_v2 : 0 ≤ v2.toInt ∧ v2.toInt ≤ 7) (rn0 : v6.toInt ≤ 10 ∧ ((2 ≤ v4.toInt ∧ v4.toInt ≤ 4) ∨ (v4.toInt = 5 ∧ v6.toInt ≤ 6))) (k : Int32 → dH → Option (Int32 × dH)) (Q : Int32 × dH → Prop) (hk : ∀ (v7 : Int32) (g : dH) (Ig : InvM g) (e0 : g 0 3 = h0 0 3) (e1 : g 0 13 = h0 0 13), True → Sf (k v7 g) Q)  : ∀ (n : Nat) (v7 : Int32) (v8 : Int32) (h : dH) (I_h : InvM h) (e0 : h 0 3 = h0 0 3) (e1 : h 0 13 = h0 0 13), 0 ≤ v8.toInt ∧ v8.toInt ≤ 10 → 10 - v8.toInt < (n : Int) → Sf (l_X7_tells_175 v1 v2 v4 v6 k n v7 v8 h) Q
  | 0, v7, v8, h, I_h, e0, e1, hi, hm => by omega
  | n + 1, v7, v8, h, I_h, e0, e1, hi, hm => by
    rw [l_X7_tells_175]
    have yx32 := congrArg Int32.toInt e0
    have yx33 := congrArg Int32.toInt e1
    refine sf_ite (fun c34 => ?_) (fun c35 => ?_)
    · skip
      refine sf_oV (s_X7_lays h I_h v4 v2 v8 (by omega)) (fun g36 pg36 => ?_)
      obtain ⟨I_g36, ex34, ex35, qg36⟩ := pg36
      try simp only at I_g36 ex34 ex35 qg36
      have yx36 := congrArg Int32.toInt ex34
      have yx37 := congrArg Int32.toInt ex35
      refine sf_oI (s_X7_unlike g36 I_g36 v1 v2 (by omega) (by omega)) (fun r37 g38 pg38 => ?_)
      obtain ⟨I_g38, ex38, ex39, ex40, qg38⟩ := pg38
      try simp only at I_g38 ex38 ex39 ex40 qg38
      have yx41 := congrArg Int32.toInt ex38
      have yx42 := congrArg Int32.toInt ex39
      have yx43 := congrArg Int32.toInt ex40
      refine sf_ite (fun c39 => ?_) (fun c40 => ?_)
      · skip
        try have tx44 := dshl1_ok (y := v8) (by omega) (by omega)
        try have tx45 : (v8 + 1).toInt = v8.toInt + 1 := i_add rfl (by decide) (by omega) (by omega)
        exact sl_X7_tells_175  v1 v2 v4 v6  h0 I_h0 r_v1 r_v2 rn0 k Q hk n (v7 ||| (dshl 1 v8)) (v8 + 1) g38 I_g38 (ex38.trans (ex34.trans e0)) (ex40.trans (ex35.trans e1)) (by first | trivial | omega) (by omega)
      · skip
        try have tx46 : (v8 + 1).toInt = v8.toInt + 1 := i_add rfl (by decide) (by omega) (by omega)
        exact sl_X7_tells_175  v1 v2 v4 v6  h0 I_h0 r_v1 r_v2 rn0 k Q hk n (v7 ||| (dshl 0 v8)) (v8 + 1) g38 I_g38 (ex38.trans (ex34.trans e0)) (ex40.trans (ex35.trans e1)) (by first | trivial | omega) (by omega)
    · skip
      exact hk v7 h I_h e0 e1 (by first | trivial | omega)
theorem s_X7_tells (h : dH) (I_h : InvM h) (v1 : Int32) (v2 : Int32) (v3 : Int32)  : Sf (f_X7_tells v1 v2 v3 h) (fun o => InvM o.2 ∧ o.2 0 3 = h 0 3 ∧ o.2 0 13 = h 0 13 ∧ True) := by
  unfold f_X7_tells
  have u_v1 := Int32.toInt_lt v1
  have w_v1 := Int32.le_toInt v1
  have u_v2 := Int32.toInt_lt v2
  have w_v2 := Int32.le_toInt v2
  have u_v3 := Int32.toInt_lt v3
  have w_v3 := Int32.le_toInt v3
  refine sf_oP (s_X7_isSheet h I_h v1) (fun r1 pr1 => ?_)
  refine sf_ite (fun c2 => ?_) (fun c3 => ?_)
  · skip
    exact sf_some (⟨I_h, rfl, rfl, trivial⟩)
  · skip
    refine sf_oP (s_X7_isHouse h I_h v2) (fun r4 pr4 => ?_)
    refine sf_ite (fun c5 => ?_) (fun c6 => ?_)
    · skip
      exact sf_some (⟨I_h, rfl, rfl, trivial⟩)
    · skip
      have tx1 : v3.toInt64.toInt = v3.toInt := l_i2l
      have tx2 : (0 : Int64).toInt = 0 := by decide
      have tx3 : (6 : Int64).toInt = 6 := by decide
      refine sf_oP (s_X7_in h I_h (v3.toInt64) 0 6) (fun r7 pr7 => ?_)
      refine sf_ite (fun c8 => ?_) (fun c9 => ?_)
      · skip
        exact sf_some (⟨I_h, rfl, rfl, trivial⟩)
      · skip
        refine sf_guard (by omega) (fun c10 => ?_)
        refine sf_ite (fun c11 => ?_) (fun c12 => ?_)
        · skip
          exact sf_some (⟨I_h, rfl, rfl, trivial⟩)
        · skip
          refine sf_guard (by omega) (fun c13 => ?_)
          have bx4 := I_h.1 0 13 (0) (8) rfl
          refine sf_ite (fun c14 => ?_) (fun c15 => ?_)
          · skip
            refine sf_ite (fun c16 => ?_) (fun c17 => ?_)
            · skip
              refine sf_oI (s_X7_unlike h I_h v1 v2 (by omega) (by omega)) (fun r18 g19 pg19 => ?_)
              obtain ⟨I_g19, ex5, ex6, ex7, qg19⟩ := pg19
              try simp only at I_g19 ex5 ex6 ex7 qg19
              have yx8 := congrArg Int32.toInt ex5
              have yx9 := congrArg Int32.toInt ex6
              have yx10 := congrArg Int32.toInt ex7
              exact sf_some (⟨I_g19, ex5, ex7, trivial⟩)
            · skip
              refine sf_ite (fun c20 => ?_) (fun c21 => ?_)
              · skip
                refine sf_ite (fun c22 => ?_) (fun c23 => ?_)
                · skip
                  have tx11 : (1 : Int32).toInt = 1 := by decide
                  refine sf_oI (s_X7_limitsBy h I_h v1 v2 (1 : Int32) (by omega) (by omega)) (fun r24 g25 pg25 => ?_)
                  obtain ⟨I_g25, ex12, ex13, ex14, qg25⟩ := pg25
                  try simp only at I_g25 ex12 ex13 ex14 qg25
                  have yx15 := congrArg Int32.toInt ex12
                  have yx16 := congrArg Int32.toInt ex13
                  have yx17 := congrArg Int32.toInt ex14
                  exact sf_some (⟨I_g25, ex12, ex14, trivial⟩)
                · skip
                  have tx18 : (0 : Int32).toInt = 0 := by decide
                  refine sf_oI (s_X7_limitsBy h I_h v1 v2 (0 : Int32) (by omega) (by omega)) (fun r26 g27 pg27 => ?_)
                  obtain ⟨I_g27, ex19, ex20, ex21, qg27⟩ := pg27
                  try simp only at I_g27 ex19 ex20 ex21 qg27
                  have yx22 := congrArg Int32.toInt ex19
                  have yx23 := congrArg Int32.toInt ex20
                  have yx24 := congrArg Int32.toInt ex21
                  exact sf_some (⟨I_g27, ex19, ex21, trivial⟩)
              · skip
                refine sf_ite (fun c28 => ?_) (fun c29 => ?_)
                · skip
                  have tx25 : (4 : Int32).toInt = 4 := by decide
                  refine sf_oI (s_X7_told h I_h v2 (4 : Int32)) (fun r30 g31 pg31 => ?_)
                  obtain ⟨I_g31, ex26, ex27, ex28, qg31⟩ := pg31
                  try simp only at I_g31 ex26 ex27 ex28 qg31
                  have yx29 := congrArg Int32.toInt ex26
                  have yx30 := congrArg Int32.toInt ex27
                  have yx31 := congrArg Int32.toInt ex28
                  refine sf_ite (fun c32 => ?_) (fun c33 => ?_)
                  · skip
                    have tx47 : (6 : Int32).toInt = 6 := by decide
                    have tx48 : (0 : Int32).toInt = 0 := by decide
                    refine sl_X7_tells_175 v1 v2 (4 : Int32) (6 : Int32)  g31 I_g31 (by omega) (by omega) (by omega) _ _ (fun v7_41 g43 I_g43 eg43_0 eg43_1 px49 => ?_)  fuel0 (0 : Int32) (0 : Int32) g31 I_g31 rfl rfl (by first | trivial | omega) (by have := fuel0_eq; omega)
                    have yx50 := congrArg Int32.toInt eg43_0
                    have yx51 := congrArg Int32.toInt eg43_1
                    refine sf_oV (s_X7_lays g43 I_g43 (4 : Int32) v2 r30 (by omega)) (fun g44 pg44 => ?_)
                    obtain ⟨I_g44, ex52, ex53, qg44⟩ := pg44
                    try simp only at I_g44 ex52 ex53 qg44
                    have yx54 := congrArg Int32.toInt ex52
                    have yx55 := congrArg Int32.toInt ex53
                    exact sf_some (⟨I_g44, (ex52.trans (eg43_0.trans ex26)), (ex53.trans (eg43_1.trans ex28)), trivial⟩)
                  · skip
                    refine sf_ite (fun c45 => ?_) (fun c46 => ?_)
                    · skip
                      have tx56 : (10 : Int32).toInt = 10 := by decide
                      have tx57 : (0 : Int32).toInt = 0 := by decide
                      refine sl_X7_tells_175 v1 v2 (4 : Int32) (10 : Int32)  g31 I_g31 (by omega) (by omega) (by omega) _ _ (fun v7_47 g49 I_g49 eg49_0 eg49_1 px58 => ?_)  fuel0 (0 : Int32) (0 : Int32) g31 I_g31 rfl rfl (by first | trivial | omega) (by have := fuel0_eq; omega)
                      have yx59 := congrArg Int32.toInt eg49_0
                      have yx60 := congrArg Int32.toInt eg49_1
                      refine sf_oV (s_X7_lays g49 I_g49 (4 : Int32) v2 r30 (by omega)) (fun g50 pg50 => ?_)
                      obtain ⟨I_g50, ex61, ex62, qg50⟩ := pg50
                      try simp only at I_g50 ex61 ex62 qg50
                      have yx63 := congrArg Int32.toInt ex61
                      have yx64 := congrArg Int32.toInt ex62
                      exact sf_some (⟨I_g50, (ex61.trans (eg49_0.trans ex26)), (ex62.trans (eg49_1.trans ex28)), trivial⟩)
                    · skip
                      refine sf_ite (fun c51 => ?_) (fun c52 => ?_)
                      · skip
                        have tx65 : (0 : Int32).toInt = 0 := by decide
                        refine sl_X7_tells_175 v1 v2 (4 : Int32) (4 : Int32)  g31 I_g31 (by omega) (by omega) (by omega) _ _ (fun v7_53 g55 I_g55 eg55_0 eg55_1 px66 => ?_)  fuel0 (0 : Int32) (0 : Int32) g31 I_g31 rfl rfl (by first | trivial | omega) (by have := fuel0_eq; omega)
                        have yx67 := congrArg Int32.toInt eg55_0
                        have yx68 := congrArg Int32.toInt eg55_1
                        refine sf_oV (s_X7_lays g55 I_g55 (4 : Int32) v2 r30 (by omega)) (fun g56 pg56 => ?_)
                        obtain ⟨I_g56, ex69, ex70, qg56⟩ := pg56
                        try simp only at I_g56 ex69 ex70 qg56
                        have yx71 := congrArg Int32.toInt ex69
                        have yx72 := congrArg Int32.toInt ex70
                        exact sf_some (⟨I_g56, (ex69.trans (eg55_0.trans ex26)), (ex70.trans (eg55_1.trans ex28)), trivial⟩)
                      · skip
                        have bx73 := I_g31.1 0 3 (0) (6) rfl
                        have tx74 : (0 : Int32).toInt = 0 := by decide
                        refine sl_X7_tells_175 v1 v2 (4 : Int32) (g31 0 3)  g31 I_g31 (by omega) (by omega) (by omega) _ _ (fun v7_57 g59 I_g59 eg59_0 eg59_1 px75 => ?_)  fuel0 (0 : Int32) (0 : Int32) g31 I_g31 rfl rfl (by first | trivial | omega) (by have := fuel0_eq; omega)
                        have yx76 := congrArg Int32.toInt eg59_0
                        have yx77 := congrArg Int32.toInt eg59_1
                        refine sf_oV (s_X7_lays g59 I_g59 (4 : Int32) v2 r30 (by omega)) (fun g60 pg60 => ?_)
                        obtain ⟨I_g60, ex78, ex79, qg60⟩ := pg60
                        try simp only at I_g60 ex78 ex79 qg60
                        have yx80 := congrArg Int32.toInt ex78
                        have yx81 := congrArg Int32.toInt ex79
                        exact sf_some (⟨I_g60, (ex78.trans (eg59_0.trans ex26)), (ex79.trans (eg59_1.trans ex28)), trivial⟩)
                · skip
                  refine sf_ite (fun c61 => ?_) (fun c62 => ?_)
                  · skip
                    refine sf_ite (fun c63 => ?_) (fun c64 => ?_)
                    · skip
                      have tx82 : (5 : Int32).toInt = 5 := by decide
                      have tx83 : (6 : Int32).toInt = 6 := by decide
                      have tx84 : (0 : Int32).toInt = 0 := by decide
                      refine sl_X7_tells_175 v1 v2 (5 : Int32) (6 : Int32)  h I_h (by omega) (by omega) (by omega) _ _ (fun v7_65 g67 I_g67 eg67_0 eg67_1 px85 => ?_)  fuel0 (0 : Int32) (0 : Int32) h I_h rfl rfl (by first | trivial | omega) (by have := fuel0_eq; omega)
                      have yx86 := congrArg Int32.toInt eg67_0
                      have yx87 := congrArg Int32.toInt eg67_1
                      have bx88 := I_h.1 0 4 (0) (5) rfl
                      refine sf_oV (s_X7_lays g67 I_g67 (5 : Int32) v2 (h 0 4) (by omega)) (fun g68 pg68 => ?_)
                      obtain ⟨I_g68, ex89, ex90, qg68⟩ := pg68
                      try simp only at I_g68 ex89 ex90 qg68
                      have yx91 := congrArg Int32.toInt ex89
                      have yx92 := congrArg Int32.toInt ex90
                      exact sf_some (⟨I_g68, (ex89.trans eg67_0), (ex90.trans eg67_1), trivial⟩)
                    · skip
                      refine sf_ite (fun c69 => ?_) (fun c70 => ?_)
                      · skip
                        have tx93 : (5 : Int32).toInt = 5 := by decide
                        have tx94 : (10 : Int32).toInt = 10 := by decide
                        have tx95 : (0 : Int32).toInt = 0 := by decide
                        refine sl_X7_tells_175 v1 v2 (5 : Int32) (10 : Int32)  h I_h (by omega) (by omega) (by omega) _ _ (fun v7_71 g73 I_g73 eg73_0 eg73_1 px96 => ?_)  fuel0 (0 : Int32) (0 : Int32) h I_h rfl rfl (by first | trivial | omega) (by have := fuel0_eq; omega)
                        have yx97 := congrArg Int32.toInt eg73_0
                        have yx98 := congrArg Int32.toInt eg73_1
                        have bx99 := I_h.1 0 4 (0) (5) rfl
                        refine sf_oV (s_X7_lays g73 I_g73 (5 : Int32) v2 (h 0 4) (by omega)) (fun g74 pg74 => ?_)
                        obtain ⟨I_g74, ex100, ex101, qg74⟩ := pg74
                        try simp only at I_g74 ex100 ex101 qg74
                        have yx102 := congrArg Int32.toInt ex100
                        have yx103 := congrArg Int32.toInt ex101
                        exact sf_some (⟨I_g74, (ex100.trans eg73_0), (ex101.trans eg73_1), trivial⟩)
                      · skip
                        refine sf_ite (fun c75 => ?_) (fun c76 => ?_)
                        · skip
                          have tx104 : (5 : Int32).toInt = 5 := by decide
                          have tx105 : (4 : Int32).toInt = 4 := by decide
                          have tx106 : (0 : Int32).toInt = 0 := by decide
                          refine sl_X7_tells_175 v1 v2 (5 : Int32) (4 : Int32)  h I_h (by omega) (by omega) (by omega) _ _ (fun v7_77 g79 I_g79 eg79_0 eg79_1 px107 => ?_)  fuel0 (0 : Int32) (0 : Int32) h I_h rfl rfl (by first | trivial | omega) (by have := fuel0_eq; omega)
                          have yx108 := congrArg Int32.toInt eg79_0
                          have yx109 := congrArg Int32.toInt eg79_1
                          have bx110 := I_h.1 0 4 (0) (5) rfl
                          refine sf_oV (s_X7_lays g79 I_g79 (5 : Int32) v2 (h 0 4) (by omega)) (fun g80 pg80 => ?_)
                          obtain ⟨I_g80, ex111, ex112, qg80⟩ := pg80
                          try simp only at I_g80 ex111 ex112 qg80
                          have yx113 := congrArg Int32.toInt ex111
                          have yx114 := congrArg Int32.toInt ex112
                          exact sf_some (⟨I_g80, (ex111.trans eg79_0), (ex112.trans eg79_1), trivial⟩)
                        · skip
                          have tx115 : (5 : Int32).toInt = 5 := by decide
                          have bx116 := I_h.1 0 3 (0) (6) rfl
                          have tx117 : (0 : Int32).toInt = 0 := by decide
                          refine sl_X7_tells_175 v1 v2 (5 : Int32) (h 0 3)  h I_h (by omega) (by omega) (by omega) _ _ (fun v7_81 g83 I_g83 eg83_0 eg83_1 px118 => ?_)  fuel0 (0 : Int32) (0 : Int32) h I_h rfl rfl (by first | trivial | omega) (by have := fuel0_eq; omega)
                          have yx119 := congrArg Int32.toInt eg83_0
                          have yx120 := congrArg Int32.toInt eg83_1
                          have bx121 := I_h.1 0 4 (0) (5) rfl
                          refine sf_oV (s_X7_lays g83 I_g83 (5 : Int32) v2 (h 0 4) (by omega)) (fun g84 pg84 => ?_)
                          obtain ⟨I_g84, ex122, ex123, qg84⟩ := pg84
                          try simp only at I_g84 ex122 ex123 qg84
                          have yx124 := congrArg Int32.toInt ex122
                          have yx125 := congrArg Int32.toInt ex123
                          exact sf_some (⟨I_g84, (ex122.trans eg83_0), (ex123.trans eg83_1), trivial⟩)
                  · skip
                    refine sf_ite (fun c85 => ?_) (fun c86 => ?_)
                    · skip
                      refine sf_ite (fun c87 => ?_) (fun c88 => ?_)
                      · skip
                        have tx126 : (6 : Int32).toInt = 6 := by decide
                        have tx127 : (0 : Int32).toInt = 0 := by decide
                        refine sl_X7_tells_175 v1 v2 v3 (6 : Int32)  h I_h (by omega) (by omega) (by omega) _ _ (fun v7_89 g91 I_g91 eg91_0 eg91_1 px128 => ?_)  fuel0 (0 : Int32) (0 : Int32) h I_h rfl rfl (by first | trivial | omega) (by have := fuel0_eq; omega)
                        have yx129 := congrArg Int32.toInt eg91_0
                        have yx130 := congrArg Int32.toInt eg91_1
                        have bx131 := I_h.1 0 4 (0) (5) rfl
                        refine sf_oV (s_X7_lays g91 I_g91 v3 v2 (h 0 4) (by omega)) (fun g92 pg92 => ?_)
                        obtain ⟨I_g92, ex132, ex133, qg92⟩ := pg92
                        try simp only at I_g92 ex132 ex133 qg92
                        have yx134 := congrArg Int32.toInt ex132
                        have yx135 := congrArg Int32.toInt ex133
                        exact sf_some (⟨I_g92, (ex132.trans eg91_0), (ex133.trans eg91_1), trivial⟩)
                      · skip
                        refine sf_ite (fun c93 => ?_) (fun c94 => ?_)
                        · skip
                          have tx136 : (10 : Int32).toInt = 10 := by decide
                          have tx137 : (0 : Int32).toInt = 0 := by decide
                          refine sl_X7_tells_175 v1 v2 v3 (10 : Int32)  h I_h (by omega) (by omega) (by omega) _ _ (fun v7_95 g97 I_g97 eg97_0 eg97_1 px138 => ?_)  fuel0 (0 : Int32) (0 : Int32) h I_h rfl rfl (by first | trivial | omega) (by have := fuel0_eq; omega)
                          have yx139 := congrArg Int32.toInt eg97_0
                          have yx140 := congrArg Int32.toInt eg97_1
                          have bx141 := I_h.1 0 4 (0) (5) rfl
                          refine sf_oV (s_X7_lays g97 I_g97 v3 v2 (h 0 4) (by omega)) (fun g98 pg98 => ?_)
                          obtain ⟨I_g98, ex142, ex143, qg98⟩ := pg98
                          try simp only at I_g98 ex142 ex143 qg98
                          have yx144 := congrArg Int32.toInt ex142
                          have yx145 := congrArg Int32.toInt ex143
                          exact sf_some (⟨I_g98, (ex142.trans eg97_0), (ex143.trans eg97_1), trivial⟩)
                        · skip
                          refine sf_ite (fun c99 => ?_) (fun c100 => ?_)
                          · skip
                            have tx146 : (4 : Int32).toInt = 4 := by decide
                            have tx147 : (0 : Int32).toInt = 0 := by decide
                            refine sl_X7_tells_175 v1 v2 v3 (4 : Int32)  h I_h (by omega) (by omega) (by omega) _ _ (fun v7_101 g103 I_g103 eg103_0 eg103_1 px148 => ?_)  fuel0 (0 : Int32) (0 : Int32) h I_h rfl rfl (by first | trivial | omega) (by have := fuel0_eq; omega)
                            have yx149 := congrArg Int32.toInt eg103_0
                            have yx150 := congrArg Int32.toInt eg103_1
                            have bx151 := I_h.1 0 4 (0) (5) rfl
                            refine sf_oV (s_X7_lays g103 I_g103 v3 v2 (h 0 4) (by omega)) (fun g104 pg104 => ?_)
                            obtain ⟨I_g104, ex152, ex153, qg104⟩ := pg104
                            try simp only at I_g104 ex152 ex153 qg104
                            have yx154 := congrArg Int32.toInt ex152
                            have yx155 := congrArg Int32.toInt ex153
                            exact sf_some (⟨I_g104, (ex152.trans eg103_0), (ex153.trans eg103_1), trivial⟩)
                          · skip
                            have bx156 := I_h.1 0 3 (0) (6) rfl
                            have tx157 : (0 : Int32).toInt = 0 := by decide
                            refine sl_X7_tells_175 v1 v2 v3 (h 0 3)  h I_h (by omega) (by omega) (by omega) _ _ (fun v7_105 g107 I_g107 eg107_0 eg107_1 px158 => ?_)  fuel0 (0 : Int32) (0 : Int32) h I_h rfl rfl (by first | trivial | omega) (by have := fuel0_eq; omega)
                            have yx159 := congrArg Int32.toInt eg107_0
                            have yx160 := congrArg Int32.toInt eg107_1
                            have bx161 := I_h.1 0 4 (0) (5) rfl
                            refine sf_oV (s_X7_lays g107 I_g107 v3 v2 (h 0 4) (by omega)) (fun g108 pg108 => ?_)
                            obtain ⟨I_g108, ex162, ex163, qg108⟩ := pg108
                            try simp only at I_g108 ex162 ex163 qg108
                            have yx164 := congrArg Int32.toInt ex162
                            have yx165 := congrArg Int32.toInt ex163
                            exact sf_some (⟨I_g108, (ex162.trans eg107_0), (ex163.trans eg107_1), trivial⟩)
                    · skip
                      refine sf_oI (s_X7_told h I_h v2 v3) (fun r109 g110 pg110 => ?_)
                      obtain ⟨I_g110, ex166, ex167, ex168, qg110⟩ := pg110
                      try simp only at I_g110 ex166 ex167 ex168 qg110
                      have yx169 := congrArg Int32.toInt ex166
                      have yx170 := congrArg Int32.toInt ex167
                      have yx171 := congrArg Int32.toInt ex168
                      refine sf_ite (fun c111 => ?_) (fun c112 => ?_)
                      · skip
                        have tx172 : (6 : Int32).toInt = 6 := by decide
                        have tx173 : (0 : Int32).toInt = 0 := by decide
                        refine sl_X7_tells_175 v1 v2 v3 (6 : Int32)  g110 I_g110 (by omega) (by omega) (by omega) _ _ (fun v7_113 g115 I_g115 eg115_0 eg115_1 px174 => ?_)  fuel0 (0 : Int32) (0 : Int32) g110 I_g110 rfl rfl (by first | trivial | omega) (by have := fuel0_eq; omega)
                        have yx175 := congrArg Int32.toInt eg115_0
                        have yx176 := congrArg Int32.toInt eg115_1
                        refine sf_oV (s_X7_lays g115 I_g115 v3 v2 r109 (by omega)) (fun g116 pg116 => ?_)
                        obtain ⟨I_g116, ex177, ex178, qg116⟩ := pg116
                        try simp only at I_g116 ex177 ex178 qg116
                        have yx179 := congrArg Int32.toInt ex177
                        have yx180 := congrArg Int32.toInt ex178
                        exact sf_some (⟨I_g116, (ex177.trans (eg115_0.trans ex166)), (ex178.trans (eg115_1.trans ex168)), trivial⟩)
                      · skip
                        refine sf_ite (fun c117 => ?_) (fun c118 => ?_)
                        · skip
                          have tx181 : (10 : Int32).toInt = 10 := by decide
                          have tx182 : (0 : Int32).toInt = 0 := by decide
                          refine sl_X7_tells_175 v1 v2 v3 (10 : Int32)  g110 I_g110 (by omega) (by omega) (by omega) _ _ (fun v7_119 g121 I_g121 eg121_0 eg121_1 px183 => ?_)  fuel0 (0 : Int32) (0 : Int32) g110 I_g110 rfl rfl (by first | trivial | omega) (by have := fuel0_eq; omega)
                          have yx184 := congrArg Int32.toInt eg121_0
                          have yx185 := congrArg Int32.toInt eg121_1
                          refine sf_oV (s_X7_lays g121 I_g121 v3 v2 r109 (by omega)) (fun g122 pg122 => ?_)
                          obtain ⟨I_g122, ex186, ex187, qg122⟩ := pg122
                          try simp only at I_g122 ex186 ex187 qg122
                          have yx188 := congrArg Int32.toInt ex186
                          have yx189 := congrArg Int32.toInt ex187
                          exact sf_some (⟨I_g122, (ex186.trans (eg121_0.trans ex166)), (ex187.trans (eg121_1.trans ex168)), trivial⟩)
                        · skip
                          refine sf_ite (fun c123 => ?_) (fun c124 => ?_)
                          · skip
                            have tx190 : (4 : Int32).toInt = 4 := by decide
                            have tx191 : (0 : Int32).toInt = 0 := by decide
                            refine sl_X7_tells_175 v1 v2 v3 (4 : Int32)  g110 I_g110 (by omega) (by omega) (by omega) _ _ (fun v7_125 g127 I_g127 eg127_0 eg127_1 px192 => ?_)  fuel0 (0 : Int32) (0 : Int32) g110 I_g110 rfl rfl (by first | trivial | omega) (by have := fuel0_eq; omega)
                            have yx193 := congrArg Int32.toInt eg127_0
                            have yx194 := congrArg Int32.toInt eg127_1
                            refine sf_oV (s_X7_lays g127 I_g127 v3 v2 r109 (by omega)) (fun g128 pg128 => ?_)
                            obtain ⟨I_g128, ex195, ex196, qg128⟩ := pg128
                            try simp only at I_g128 ex195 ex196 qg128
                            have yx197 := congrArg Int32.toInt ex195
                            have yx198 := congrArg Int32.toInt ex196
                            exact sf_some (⟨I_g128, (ex195.trans (eg127_0.trans ex166)), (ex196.trans (eg127_1.trans ex168)), trivial⟩)
                          · skip
                            have bx199 := I_g110.1 0 3 (0) (6) rfl
                            have tx200 : (0 : Int32).toInt = 0 := by decide
                            refine sl_X7_tells_175 v1 v2 v3 (g110 0 3)  g110 I_g110 (by omega) (by omega) (by omega) _ _ (fun v7_129 g131 I_g131 eg131_0 eg131_1 px201 => ?_)  fuel0 (0 : Int32) (0 : Int32) g110 I_g110 rfl rfl (by first | trivial | omega) (by have := fuel0_eq; omega)
                            have yx202 := congrArg Int32.toInt eg131_0
                            have yx203 := congrArg Int32.toInt eg131_1
                            refine sf_oV (s_X7_lays g131 I_g131 v3 v2 r109 (by omega)) (fun g132 pg132 => ?_)
                            obtain ⟨I_g132, ex204, ex205, qg132⟩ := pg132
                            try simp only at I_g132 ex204 ex205 qg132
                            have yx206 := congrArg Int32.toInt ex204
                            have yx207 := congrArg Int32.toInt ex205
                            exact sf_some (⟨I_g132, (ex204.trans (eg131_0.trans ex166)), (ex205.trans (eg131_1.trans ex168)), trivial⟩)
          · skip
            exact sf_some (⟨I_h, rfl, rfl, trivial⟩)
theorem sl_X7_sheet_77 (v1 : Int32) (v2 : Int32) (v3 : Int32)  (h0 : dH) (I_h0 : InvM h0) (r_v1 : 0 ≤ v1.toInt ∧ v1.toInt ≤ 3) (rn0 : v2.toInt < 0 ∨ v3.toInt ≤ 40) (k : dH → Option (Int32 × dH)) (Q : Int32 × dH → Prop) (hk : ∀  (g : dH) (Ig : InvM g) (e0 : g 0 3 = h0 0 3) (e1 : g 0 4 = h0 0 4) (e2 : g 0 13 = h0 0 13), True → Sf (k  g) Q)  : ∀ (n : Nat) (v4 : Int32) (h : dH) (I_h : InvM h) (e0 : h 0 3 = h0 0 3) (e1 : h 0 4 = h0 0 4) (e2 : h 0 13 = h0 0 13), 0 ≤ v4.toInt ∧ v4.toInt ≤ 40 → 40 - v4.toInt < (n : Int) → Sf (l_X7_sheet_77 v1 v2 v3 k n v4 h) Q
  | 0, v4, h, I_h, e0, e1, e2, hi, hm => by omega
  | n + 1, v4, h, I_h, e0, e1, e2, hi, hm => by
    rw [l_X7_sheet_77]
    have yx13 := congrArg Int32.toInt e0
    have yx14 := congrArg Int32.toInt e1
    have yx15 := congrArg Int32.toInt e2
    refine sf_ite (fun c19 => ?_) (fun c20 => ?_)
    · skip
      refine sf_ite (fun c21 => ?_) (fun c22 => ?_)
      · skip
        exact hk  h I_h e0 e1 e2 (by first | trivial | omega)
      · skip
        try have tx16 : (40 * v1).toInt = 40 * v1.toInt := i_mul (by decide) rfl (by omega) (by omega)
        try have tx17 : ((40 * v1) + v4).toInt = (40 * v1).toInt + v4.toInt := i_add rfl rfl (by omega) (by omega)
        refine sf_guard (by omega) (fun c24 => ?_)
        refine sf_oH (fun g23 hg23 => ?_)
        have I_g23 : InvM g23 := by rw [hg23]; exact invM_free I_h rfl (by omega) (by omega)
        have ex18 : g23 0 3 = h 0 3 := by rw [hg23]; exact dU_ne (by omega)
        have yx19 := congrArg Int32.toInt ex18
        have ex20 : g23 0 4 = h 0 4 := by rw [hg23]; exact dU_ne (by omega)
        have yx21 := congrArg Int32.toInt ex20
        have ex22 : g23 0 13 = h 0 13 := by rw [hg23]; exact dU_ne (by omega)
        have yx23 := congrArg Int32.toInt ex22
        try have tx24 : (v4 + 1).toInt = v4.toInt + 1 := i_add rfl (by decide) (by omega) (by omega)
        exact sl_X7_sheet_77  v1 v2 v3  h0 I_h0 r_v1 rn0 k Q hk n (v4 + 1) g23 I_g23 (ex18.trans e0) (ex20.trans e1) (ex22.trans e2) (by first | trivial | omega) (by omega)
    · skip
      exact hk  h I_h e0 e1 e2 (by first | trivial | omega)
theorem s_X7_sheet (h : dH) (I_h : InvM h) (v1 : Int32) (v2 : Int32) (v3 : Int32)  : Sf (f_X7_sheet v1 v2 v3 h) (fun o => InvM o.2 ∧ o.2 0 3 = h 0 3 ∧ o.2 0 4 = h 0 4 ∧ o.2 0 13 = h 0 13 ∧ True) := by
  unfold f_X7_sheet
  have u_v1 := Int32.toInt_lt v1
  have w_v1 := Int32.le_toInt v1
  have u_v2 := Int32.toInt_lt v2
  have w_v2 := Int32.le_toInt v2
  have u_v3 := Int32.toInt_lt v3
  have w_v3 := Int32.le_toInt v3
  refine sf_oP (s_X7_isSheet h I_h v1) (fun r1 pr1 => ?_)
  refine sf_ite (fun c2 => ?_) (fun c3 => ?_)
  · skip
    exact sf_some (⟨I_h, rfl, rfl, rfl, trivial⟩)
  · skip
    have tx1 : v2.toInt64.toInt = v2.toInt := l_i2l
    have tx2 : ((-1) : Int64).toInt = (-1) := by decide
    have tx3 : (2 : Int64).toInt = 2 := by decide
    refine sf_oP (s_X7_in h I_h (v2.toInt64) (-1) 2) (fun r4 pr4 => ?_)
    refine sf_ite (fun c5 => ?_) (fun c6 => ?_)
    · skip
      exact sf_some (⟨I_h, rfl, rfl, rfl, trivial⟩)
    · skip
      refine sf_ite (fun c7 => ?_) (fun c8 => ?_)
      · skip
        refine sf_ite (fun c9 => ?_) (fun c10 => ?_)
        · skip
          refine sf_ite (fun c11 => ?_) (fun c12 => ?_)
          · skip
            refine sf_guard (by omega) (fun c14 => ?_)
            refine sf_oH (fun g13 hg13 => ?_)
            have ex4 : g13 0 3 = h 0 3 := by rw [hg13]; exact dU_ne (by omega)
            have ex5 : g13 0 4 = h 0 4 := by rw [hg13]; exact dU_ne (by omega)
            have ex6 : g13 0 13 = h 0 13 := by rw [hg13]; exact dU_ne (by omega)
            refine sf_guard (by omega) (fun c16 => ?_)
            refine sf_oH (fun g15 hg15 => ?_)
            have ex7 : g15 0 3 = g13 0 3 := by rw [hg15]; exact dU_ne (by omega)
            have ex8 : g15 0 4 = g13 0 4 := by rw [hg15]; exact dU_ne (by omega)
            have ex9 : g15 0 13 = g13 0 13 := by rw [hg15]; exact dU_ne (by omega)
            refine sf_guard (by omega) (fun c18 => ?_)
            refine sf_oH (fun g17 hg17 => ?_)
            have I_g17 : InvM g17 := by rw [hg17, hg15, hg13]; exact invM_sheet I_h (by first | (intro e; exact absurd e (by decide)) | (intro _; omega))
            have ex10 : g17 0 3 = g15 0 3 := by rw [hg17]; exact dU_ne (by omega)
            have ex11 : g17 0 4 = g15 0 4 := by rw [hg17]; exact dU_ne (by omega)
            have ex12 : g17 0 13 = g15 0 13 := by rw [hg17]; exact dU_ne (by omega)
            have tx25 : (0 : Int32).toInt = 0 := by decide
            refine sl_X7_sheet_77 v1 v2 v3  g17 I_g17 (by omega) (by omega) _ _ (fun g26 I_g26 eg26_0 eg26_1 eg26_2 px26 => ?_)  fuel0 (0 : Int32) g17 I_g17 rfl rfl rfl (by first | trivial | omega) (by have := fuel0_eq; omega)
            have yx27 := congrArg Int32.toInt eg26_0
            have yx28 := congrArg Int32.toInt eg26_1
            have yx29 := congrArg Int32.toInt eg26_2
            exact sf_some (⟨I_g26, (eg26_0.trans (ex10.trans (ex7.trans ex4))), (eg26_1.trans (ex11.trans (ex8.trans ex5))), (eg26_2.trans (ex12.trans (ex9.trans ex6))), trivial⟩)
          · skip
            refine sf_guard (by omega) (fun c28 => ?_)
            refine sf_oH (fun g27 hg27 => ?_)
            have ex30 : g27 0 3 = h 0 3 := by rw [hg27]; exact dU_ne (by omega)
            have ex31 : g27 0 4 = h 0 4 := by rw [hg27]; exact dU_ne (by omega)
            have ex32 : g27 0 13 = h 0 13 := by rw [hg27]; exact dU_ne (by omega)
            refine sf_guard (by omega) (fun c30 => ?_)
            refine sf_oH (fun g29 hg29 => ?_)
            have ex33 : g29 0 3 = g27 0 3 := by rw [hg29]; exact dU_ne (by omega)
            have ex34 : g29 0 4 = g27 0 4 := by rw [hg29]; exact dU_ne (by omega)
            have ex35 : g29 0 13 = g27 0 13 := by rw [hg29]; exact dU_ne (by omega)
            refine sf_guard (by omega) (fun c32 => ?_)
            refine sf_oH (fun g31 hg31 => ?_)
            have I_g31 : InvM g31 := by rw [hg31, hg29, hg27]; exact invM_sheet I_h (by first | (intro e; exact absurd e (by decide)) | (intro _; omega))
            have ex36 : g31 0 3 = g29 0 3 := by rw [hg31]; exact dU_ne (by omega)
            have ex37 : g31 0 4 = g29 0 4 := by rw [hg31]; exact dU_ne (by omega)
            have ex38 : g31 0 13 = g29 0 13 := by rw [hg31]; exact dU_ne (by omega)
            have tx39 : (0 : Int32).toInt = 0 := by decide
            refine sl_X7_sheet_77 v1 v2 v3  g31 I_g31 (by omega) (by omega) _ _ (fun g34 I_g34 eg34_0 eg34_1 eg34_2 px40 => ?_)  fuel0 (0 : Int32) g31 I_g31 rfl rfl rfl (by first | trivial | omega) (by have := fuel0_eq; omega)
            have yx41 := congrArg Int32.toInt eg34_0
            have yx42 := congrArg Int32.toInt eg34_1
            have yx43 := congrArg Int32.toInt eg34_2
            exact sf_some (⟨I_g34, (eg34_0.trans (ex36.trans (ex33.trans ex30))), (eg34_1.trans (ex37.trans (ex34.trans ex31))), (eg34_2.trans (ex38.trans (ex35.trans ex32))), trivial⟩)
        · skip
          refine sf_ite (fun c35 => ?_) (fun c36 => ?_)
          · skip
            exact sf_some (⟨I_h, rfl, rfl, rfl, trivial⟩)
          · skip
            refine sf_ite (fun c37 => ?_) (fun c38 => ?_)
            · skip
              refine sf_guard (by omega) (fun c40 => ?_)
              refine sf_oH (fun g39 hg39 => ?_)
              have ex44 : g39 0 3 = h 0 3 := by rw [hg39]; exact dU_ne (by omega)
              have ex45 : g39 0 4 = h 0 4 := by rw [hg39]; exact dU_ne (by omega)
              have ex46 : g39 0 13 = h 0 13 := by rw [hg39]; exact dU_ne (by omega)
              refine sf_guard (by omega) (fun c42 => ?_)
              refine sf_oH (fun g41 hg41 => ?_)
              have ex47 : g41 0 3 = g39 0 3 := by rw [hg41]; exact dU_ne (by omega)
              have ex48 : g41 0 4 = g39 0 4 := by rw [hg41]; exact dU_ne (by omega)
              have ex49 : g41 0 13 = g39 0 13 := by rw [hg41]; exact dU_ne (by omega)
              refine sf_guard (by omega) (fun c44 => ?_)
              refine sf_oH (fun g43 hg43 => ?_)
              have I_g43 : InvM g43 := by rw [hg43, hg41, hg39]; exact invM_sheet I_h (by first | (intro e; exact absurd e (by decide)) | (intro _; omega))
              have ex50 : g43 0 3 = g41 0 3 := by rw [hg43]; exact dU_ne (by omega)
              have ex51 : g43 0 4 = g41 0 4 := by rw [hg43]; exact dU_ne (by omega)
              have ex52 : g43 0 13 = g41 0 13 := by rw [hg43]; exact dU_ne (by omega)
              have tx53 : (0 : Int32).toInt = 0 := by decide
              refine sl_X7_sheet_77 v1 v2 v3  g43 I_g43 (by omega) (by omega) _ _ (fun g46 I_g46 eg46_0 eg46_1 eg46_2 px54 => ?_)  fuel0 (0 : Int32) g43 I_g43 rfl rfl rfl (by first | trivial | omega) (by have := fuel0_eq; omega)
              have yx55 := congrArg Int32.toInt eg46_0
              have yx56 := congrArg Int32.toInt eg46_1
              have yx57 := congrArg Int32.toInt eg46_2
              exact sf_some (⟨I_g46, (eg46_0.trans (ex50.trans (ex47.trans ex44))), (eg46_1.trans (ex51.trans (ex48.trans ex45))), (eg46_2.trans (ex52.trans (ex49.trans ex46))), trivial⟩)
            · skip
              refine sf_guard (by omega) (fun c48 => ?_)
              refine sf_oH (fun g47 hg47 => ?_)
              have ex58 : g47 0 3 = h 0 3 := by rw [hg47]; exact dU_ne (by omega)
              have ex59 : g47 0 4 = h 0 4 := by rw [hg47]; exact dU_ne (by omega)
              have ex60 : g47 0 13 = h 0 13 := by rw [hg47]; exact dU_ne (by omega)
              refine sf_guard (by omega) (fun c50 => ?_)
              refine sf_oH (fun g49 hg49 => ?_)
              have ex61 : g49 0 3 = g47 0 3 := by rw [hg49]; exact dU_ne (by omega)
              have ex62 : g49 0 4 = g47 0 4 := by rw [hg49]; exact dU_ne (by omega)
              have ex63 : g49 0 13 = g47 0 13 := by rw [hg49]; exact dU_ne (by omega)
              refine sf_guard (by omega) (fun c52 => ?_)
              refine sf_oH (fun g51 hg51 => ?_)
              have I_g51 : InvM g51 := by rw [hg51, hg49, hg47]; exact invM_sheet I_h (by first | (intro e; exact absurd e (by decide)) | (intro _; omega))
              have ex64 : g51 0 3 = g49 0 3 := by rw [hg51]; exact dU_ne (by omega)
              have ex65 : g51 0 4 = g49 0 4 := by rw [hg51]; exact dU_ne (by omega)
              have ex66 : g51 0 13 = g49 0 13 := by rw [hg51]; exact dU_ne (by omega)
              have tx67 : (0 : Int32).toInt = 0 := by decide
              refine sl_X7_sheet_77 v1 v2 v3  g51 I_g51 (by omega) (by omega) _ _ (fun g54 I_g54 eg54_0 eg54_1 eg54_2 px68 => ?_)  fuel0 (0 : Int32) g51 I_g51 rfl rfl rfl (by first | trivial | omega) (by have := fuel0_eq; omega)
              have yx69 := congrArg Int32.toInt eg54_0
              have yx70 := congrArg Int32.toInt eg54_1
              have yx71 := congrArg Int32.toInt eg54_2
              exact sf_some (⟨I_g54, (eg54_0.trans (ex64.trans (ex61.trans ex58))), (eg54_1.trans (ex65.trans (ex62.trans ex59))), (eg54_2.trans (ex66.trans (ex63.trans ex60))), trivial⟩)
      · skip
        refine sf_ite (fun c55 => ?_) (fun c56 => ?_)
        · skip
          exact sf_some (⟨I_h, rfl, rfl, rfl, trivial⟩)
        · skip
          refine sf_ite (fun c57 => ?_) (fun c58 => ?_)
          · skip
            refine sf_ite (fun c59 => ?_) (fun c60 => ?_)
            · skip
              refine sf_guard (by omega) (fun c62 => ?_)
              refine sf_oH (fun g61 hg61 => ?_)
              have ex72 : g61 0 3 = h 0 3 := by rw [hg61]; exact dU_ne (by omega)
              have ex73 : g61 0 4 = h 0 4 := by rw [hg61]; exact dU_ne (by omega)
              have ex74 : g61 0 13 = h 0 13 := by rw [hg61]; exact dU_ne (by omega)
              refine sf_guard (by omega) (fun c64 => ?_)
              refine sf_oH (fun g63 hg63 => ?_)
              have ex75 : g63 0 3 = g61 0 3 := by rw [hg63]; exact dU_ne (by omega)
              have ex76 : g63 0 4 = g61 0 4 := by rw [hg63]; exact dU_ne (by omega)
              have ex77 : g63 0 13 = g61 0 13 := by rw [hg63]; exact dU_ne (by omega)
              refine sf_guard (by omega) (fun c66 => ?_)
              refine sf_oH (fun g65 hg65 => ?_)
              have I_g65 : InvM g65 := by rw [hg65, hg63, hg61]; exact invM_sheet I_h (by first | (intro e; exact absurd e (by decide)) | (intro _; omega))
              have ex78 : g65 0 3 = g63 0 3 := by rw [hg65]; exact dU_ne (by omega)
              have ex79 : g65 0 4 = g63 0 4 := by rw [hg65]; exact dU_ne (by omega)
              have ex80 : g65 0 13 = g63 0 13 := by rw [hg65]; exact dU_ne (by omega)
              have tx81 : (0 : Int32).toInt = 0 := by decide
              refine sl_X7_sheet_77 v1 v2 v3  g65 I_g65 (by omega) (by omega) _ _ (fun g68 I_g68 eg68_0 eg68_1 eg68_2 px82 => ?_)  fuel0 (0 : Int32) g65 I_g65 rfl rfl rfl (by first | trivial | omega) (by have := fuel0_eq; omega)
              have yx83 := congrArg Int32.toInt eg68_0
              have yx84 := congrArg Int32.toInt eg68_1
              have yx85 := congrArg Int32.toInt eg68_2
              exact sf_some (⟨I_g68, (eg68_0.trans (ex78.trans (ex75.trans ex72))), (eg68_1.trans (ex79.trans (ex76.trans ex73))), (eg68_2.trans (ex80.trans (ex77.trans ex74))), trivial⟩)
            · skip
              refine sf_guard (by omega) (fun c70 => ?_)
              refine sf_oH (fun g69 hg69 => ?_)
              have ex86 : g69 0 3 = h 0 3 := by rw [hg69]; exact dU_ne (by omega)
              have ex87 : g69 0 4 = h 0 4 := by rw [hg69]; exact dU_ne (by omega)
              have ex88 : g69 0 13 = h 0 13 := by rw [hg69]; exact dU_ne (by omega)
              refine sf_guard (by omega) (fun c72 => ?_)
              refine sf_oH (fun g71 hg71 => ?_)
              have ex89 : g71 0 3 = g69 0 3 := by rw [hg71]; exact dU_ne (by omega)
              have ex90 : g71 0 4 = g69 0 4 := by rw [hg71]; exact dU_ne (by omega)
              have ex91 : g71 0 13 = g69 0 13 := by rw [hg71]; exact dU_ne (by omega)
              refine sf_guard (by omega) (fun c74 => ?_)
              refine sf_oH (fun g73 hg73 => ?_)
              have I_g73 : InvM g73 := by rw [hg73, hg71, hg69]; exact invM_sheet I_h (by first | (intro e; exact absurd e (by decide)) | (intro _; omega))
              have ex92 : g73 0 3 = g71 0 3 := by rw [hg73]; exact dU_ne (by omega)
              have ex93 : g73 0 4 = g71 0 4 := by rw [hg73]; exact dU_ne (by omega)
              have ex94 : g73 0 13 = g71 0 13 := by rw [hg73]; exact dU_ne (by omega)
              have tx95 : (0 : Int32).toInt = 0 := by decide
              refine sl_X7_sheet_77 v1 v2 v3  g73 I_g73 (by omega) (by omega) _ _ (fun g76 I_g76 eg76_0 eg76_1 eg76_2 px96 => ?_)  fuel0 (0 : Int32) g73 I_g73 rfl rfl rfl (by first | trivial | omega) (by have := fuel0_eq; omega)
              have yx97 := congrArg Int32.toInt eg76_0
              have yx98 := congrArg Int32.toInt eg76_1
              have yx99 := congrArg Int32.toInt eg76_2
              exact sf_some (⟨I_g76, (eg76_0.trans (ex92.trans (ex89.trans ex86))), (eg76_1.trans (ex93.trans (ex90.trans ex87))), (eg76_2.trans (ex94.trans (ex91.trans ex88))), trivial⟩)
          · skip
            refine sf_ite (fun c77 => ?_) (fun c78 => ?_)
            · skip
              exact sf_some (⟨I_h, rfl, rfl, rfl, trivial⟩)
            · skip
              refine sf_ite (fun c79 => ?_) (fun c80 => ?_)
              · skip
                refine sf_guard (by omega) (fun c82 => ?_)
                refine sf_oH (fun g81 hg81 => ?_)
                have ex100 : g81 0 3 = h 0 3 := by rw [hg81]; exact dU_ne (by omega)
                have ex101 : g81 0 4 = h 0 4 := by rw [hg81]; exact dU_ne (by omega)
                have ex102 : g81 0 13 = h 0 13 := by rw [hg81]; exact dU_ne (by omega)
                refine sf_guard (by omega) (fun c84 => ?_)
                refine sf_oH (fun g83 hg83 => ?_)
                have ex103 : g83 0 3 = g81 0 3 := by rw [hg83]; exact dU_ne (by omega)
                have ex104 : g83 0 4 = g81 0 4 := by rw [hg83]; exact dU_ne (by omega)
                have ex105 : g83 0 13 = g81 0 13 := by rw [hg83]; exact dU_ne (by omega)
                refine sf_guard (by omega) (fun c86 => ?_)
                refine sf_oH (fun g85 hg85 => ?_)
                have I_g85 : InvM g85 := by rw [hg85, hg83, hg81]; exact invM_sheet I_h (by first | (intro e; exact absurd e (by decide)) | (intro _; omega))
                have ex106 : g85 0 3 = g83 0 3 := by rw [hg85]; exact dU_ne (by omega)
                have ex107 : g85 0 4 = g83 0 4 := by rw [hg85]; exact dU_ne (by omega)
                have ex108 : g85 0 13 = g83 0 13 := by rw [hg85]; exact dU_ne (by omega)
                have tx109 : (0 : Int32).toInt = 0 := by decide
                refine sl_X7_sheet_77 v1 v2 v3  g85 I_g85 (by omega) (by omega) _ _ (fun g88 I_g88 eg88_0 eg88_1 eg88_2 px110 => ?_)  fuel0 (0 : Int32) g85 I_g85 rfl rfl rfl (by first | trivial | omega) (by have := fuel0_eq; omega)
                have yx111 := congrArg Int32.toInt eg88_0
                have yx112 := congrArg Int32.toInt eg88_1
                have yx113 := congrArg Int32.toInt eg88_2
                exact sf_some (⟨I_g88, (eg88_0.trans (ex106.trans (ex103.trans ex100))), (eg88_1.trans (ex107.trans (ex104.trans ex101))), (eg88_2.trans (ex108.trans (ex105.trans ex102))), trivial⟩)
              · skip
                refine sf_guard (by omega) (fun c90 => ?_)
                refine sf_oH (fun g89 hg89 => ?_)
                have ex114 : g89 0 3 = h 0 3 := by rw [hg89]; exact dU_ne (by omega)
                have ex115 : g89 0 4 = h 0 4 := by rw [hg89]; exact dU_ne (by omega)
                have ex116 : g89 0 13 = h 0 13 := by rw [hg89]; exact dU_ne (by omega)
                refine sf_guard (by omega) (fun c92 => ?_)
                refine sf_oH (fun g91 hg91 => ?_)
                have ex117 : g91 0 3 = g89 0 3 := by rw [hg91]; exact dU_ne (by omega)
                have ex118 : g91 0 4 = g89 0 4 := by rw [hg91]; exact dU_ne (by omega)
                have ex119 : g91 0 13 = g89 0 13 := by rw [hg91]; exact dU_ne (by omega)
                refine sf_guard (by omega) (fun c94 => ?_)
                refine sf_oH (fun g93 hg93 => ?_)
                have I_g93 : InvM g93 := by rw [hg93, hg91, hg89]; exact invM_sheet I_h (by first | (intro e; exact absurd e (by decide)) | (intro _; omega))
                have ex120 : g93 0 3 = g91 0 3 := by rw [hg93]; exact dU_ne (by omega)
                have ex121 : g93 0 4 = g91 0 4 := by rw [hg93]; exact dU_ne (by omega)
                have ex122 : g93 0 13 = g91 0 13 := by rw [hg93]; exact dU_ne (by omega)
                have tx123 : (0 : Int32).toInt = 0 := by decide
                refine sl_X7_sheet_77 v1 v2 v3  g93 I_g93 (by omega) (by omega) _ _ (fun g96 I_g96 eg96_0 eg96_1 eg96_2 px124 => ?_)  fuel0 (0 : Int32) g93 I_g93 rfl rfl rfl (by first | trivial | omega) (by have := fuel0_eq; omega)
                have yx125 := congrArg Int32.toInt eg96_0
                have yx126 := congrArg Int32.toInt eg96_1
                have yx127 := congrArg Int32.toInt eg96_2
                exact sf_some (⟨I_g96, (eg96_0.trans (ex120.trans (ex117.trans ex114))), (eg96_1.trans (ex121.trans (ex118.trans ex115))), (eg96_2.trans (ex122.trans (ex119.trans ex116))), trivial⟩)
theorem sl_X7_film_39 (v1 : Int32) (v2 : Int32)  (h0 : dH) (I_h0 : InvM h0) (r_v1 : 0 ≤ v1.toInt ∧ v1.toInt ≤ 3) (r_v2 : 0 ≤ v2.toInt ∧ v2.toInt ≤ 7) (k : dH → Option (Int32 × dH)) (Q : Int32 × dH → Prop) (hk : ∀  (g : dH) (Ig : InvM g) (e0 : g 0 3 = h0 0 3) (e1 : g 0 4 = h0 0 4) (e2 : g 0 13 = h0 0 13), True → Sf (k  g) Q)  : ∀ (n : Nat) (v3 : Int32) (h : dH) (I_h : InvM h) (e0 : h 0 3 = h0 0 3) (e1 : h 0 4 = h0 0 4) (e2 : h 0 13 = h0 0 13), 0 ≤ v3.toInt ∧ v3.toInt ≤ 8 → 8 - v3.toInt < (n : Int) → Sf (l_X7_film_39 v1 v2 k n v3 h) Q
  | 0, v3, h, I_h, e0, e1, e2, hi, hm => by omega
  | n + 1, v3, h, I_h, e0, e1, e2, hi, hm => by
    rw [l_X7_film_39]
    have yx21 := congrArg Int32.toInt e0
    have yx22 := congrArg Int32.toInt e1
    have yx23 := congrArg Int32.toInt e2
    have bx24 := I_h.1 0 13 (0) (8) rfl
    refine sf_ite (fun c11 => ?_) (fun c12 => ?_)
    · skip
      refine sf_oP (s_X7_strengthOf h I_h v2 v3 (by omega) (by omega)) (fun r13 pr13 => ?_)
      try have tx25 : (40 * v1).toInt = 40 * v1.toInt := i_mul (by decide) rfl (by omega) (by omega)
      try have tx26 : ((40 * v1) + v3).toInt = (40 * v1).toInt + v3.toInt := i_add rfl rfl (by omega) (by omega)
      refine sf_guard (by omega) (fun c15 => ?_)
      refine sf_oH (fun g14 hg14 => ?_)
      have I_g14 : InvM g14 := by rw [hg14]; exact invM_free I_h rfl (by omega) (by omega)
      have ex27 : g14 0 3 = h 0 3 := by rw [hg14]; exact dU_ne (by omega)
      have yx28 := congrArg Int32.toInt ex27
      have ex29 : g14 0 4 = h 0 4 := by rw [hg14]; exact dU_ne (by omega)
      have yx30 := congrArg Int32.toInt ex29
      have ex31 : g14 0 13 = h 0 13 := by rw [hg14]; exact dU_ne (by omega)
      have yx32 := congrArg Int32.toInt ex31
      try have tx33 : (v3 + 1).toInt = v3.toInt + 1 := i_add rfl (by decide) (by omega) (by omega)
      exact sl_X7_film_39  v1 v2  h0 I_h0 r_v1 r_v2 k Q hk n (v3 + 1) g14 I_g14 (ex27.trans e0) (ex29.trans e1) (ex31.trans e2) (by first | trivial | omega) (by omega)
    · skip
      exact hk  h I_h e0 e1 e2 (by first | trivial | omega)
theorem s_X7_film (h : dH) (I_h : InvM h) (v1 : Int32) (v2 : Int32)  : Sf (f_X7_film v1 v2 h) (fun o => InvM o.2 ∧ o.2 0 3 = h 0 3 ∧ o.2 0 4 = h 0 4 ∧ o.2 0 13 = h 0 13 ∧ True) := by
  unfold f_X7_film
  have u_v1 := Int32.toInt_lt v1
  have w_v1 := Int32.le_toInt v1
  have u_v2 := Int32.toInt_lt v2
  have w_v2 := Int32.le_toInt v2
  refine sf_oP (s_X7_isSheet h I_h v1) (fun r1 pr1 => ?_)
  refine sf_ite (fun c2 => ?_) (fun c3 => ?_)
  · skip
    exact sf_some (⟨I_h, rfl, rfl, rfl, trivial⟩)
  · skip
    refine sf_oP (s_X7_isHouse h I_h v2) (fun r4 pr4 => ?_)
    refine sf_ite (fun c5 => ?_) (fun c6 => ?_)
    · skip
      exact sf_some (⟨I_h, rfl, rfl, rfl, trivial⟩)
    · skip
      have tx1 : (0 : Int32).toInt = 0 := by decide
      have bx2 := I_h.1 0 13 (0) (8) rfl
      refine sf_oI (s_X7_sheet h I_h v1 (0 : Int32) (h 0 13)) (fun r7 g8 pg8 => ?_)
      obtain ⟨I_g8, ex3, ex4, ex5, qg8⟩ := pg8
      try simp only at I_g8 ex3 ex4 ex5 qg8
      have yx6 := congrArg Int32.toInt ex3
      have yx7 := congrArg Int32.toInt ex4
      have yx8 := congrArg Int32.toInt ex5
      refine sf_oV (s_X7_laysAside g8 I_g8 ) (fun g9 pg9 => ?_)
      obtain ⟨I_g9, ex9, ex10, ex11, qg9⟩ := pg9
      try simp only at I_g9 ex9 ex10 ex11 qg9
      have yx12 := congrArg Int32.toInt ex9
      have yx13 := congrArg Int32.toInt ex10
      have yx14 := congrArg Int32.toInt ex11
      refine sf_oV (s_X7_feasts g9 I_g9 ) (fun g10 pg10 => ?_)
      obtain ⟨I_g10, ex15, ex16, ex17, qg10⟩ := pg10
      try simp only at I_g10 ex15 ex16 ex17 qg10
      have yx18 := congrArg Int32.toInt ex15
      have yx19 := congrArg Int32.toInt ex16
      have yx20 := congrArg Int32.toInt ex17
      refine sl_X7_film_39 v1 v2  g10 I_g10 (by omega) (by omega) _ _ (fun g17 I_g17 eg17_0 eg17_1 eg17_2 px34 => ?_)  fuel0 (0 : Int32) g10 I_g10 rfl rfl rfl (by first | trivial | omega) (by have := fuel0_eq; omega)
      have yx35 := congrArg Int32.toInt eg17_0
      have yx36 := congrArg Int32.toInt eg17_1
      have yx37 := congrArg Int32.toInt eg17_2
      refine sf_oV (s_X7_laysBack g17 I_g17 ) (fun g18 pg18 => ?_)
      obtain ⟨I_g18, ex38, ex39, ex40, qg18⟩ := pg18
      try simp only at I_g18 ex38 ex39 ex40 qg18
      have yx41 := congrArg Int32.toInt ex38
      have yx42 := congrArg Int32.toInt ex39
      have yx43 := congrArg Int32.toInt ex40
      exact sf_some (⟨I_g18, (ex38.trans (eg17_0.trans (ex15.trans (ex9.trans ex3)))), (ex39.trans (eg17_1.trans (ex16.trans (ex10.trans ex4)))), (ex40.trans (eg17_2.trans (ex17.trans (ex11.trans ex5)))), trivial⟩)
theorem sl_X7_friendsBy_9   (h0 : dH) (I_h0 : InvM h0)  (k : dH → Option (Int32 × dH)) (Q : Int32 × dH → Prop) (hk : ∀  (g : dH) (Ig : InvM g) (e0 : g 0 3 = h0 0 3) (e1 : g 0 4 = h0 0 4) (e2 : g 0 13 = h0 0 13), True → Sf (k  g) Q)  : ∀ (n : Nat) (v3 : Int32) (v4 : Int32) (h : dH) (I_h : InvM h) (e0 : h 0 3 = h0 0 3) (e1 : h 0 4 = h0 0 4) (e2 : h 0 13 = h0 0 13), 0 ≤ v4.toInt ∧ v4.toInt ≤ 8 → 8 - v4.toInt < (n : Int) → Sf (l_X7_friendsBy_9  k n v3 v4 h) Q
  | 0, v3, v4, h, I_h, e0, e1, e2, hi, hm => by omega
  | n + 1, v3, v4, h, I_h, e0, e1, e2, hi, hm => by
    rw [l_X7_friendsBy_9]
    have yx7 := congrArg Int32.toInt e0
    have yx8 := congrArg Int32.toInt e1
    have yx9 := congrArg Int32.toInt e2
    have bx10 := I_h.1 0 13 (0) (8) rfl
    refine sf_ite (fun c2 => ?_) (fun c3 => ?_)
    · skip
      refine sf_guard (by omega) (fun c5 => ?_)
      try have tx11 : (v3 * 1103515245).toInt = v3.toInt * 1103515245 := i_mul rfl (by decide) (by omega) (by omega)
      try have tx12 : ((v3 * 1103515245) + 12345).toInt = (v3 * 1103515245).toInt + 12345 := i_add rfl (by decide) (by omega) (by omega)
      try have tx13 := drem_ok (x := (dushr ((v3 * 1103515245) + 12345) 9)) (y := (4 : Int32)) (by omega) (by omega)
      refine sf_oH (fun g4 hg4 => ?_)
      have I_g4 : InvM g4 := by rw [hg4]; exact invM_free I_h rfl (by omega) (by omega)
      have ex14 : g4 0 3 = h 0 3 := by rw [hg4]; exact dU_ne (by omega)
      have yx15 := congrArg Int32.toInt ex14
      have ex16 : g4 0 4 = h 0 4 := by rw [hg4]; exact dU_ne (by omega)
      have yx17 := congrArg Int32.toInt ex16
      have ex18 : g4 0 13 = h 0 13 := by rw [hg4]; exact dU_ne (by omega)
      have yx19 := congrArg Int32.toInt ex18
      try have tx20 : (v4 + 1).toInt = v4.toInt + 1 := i_add rfl (by decide) (by omega) (by omega)
      exact sl_X7_friendsBy_9    h0 I_h0  k Q hk n ((v3 * 1103515245) + 12345) (v4 + 1) g4 I_g4 (ex14.trans e0) (ex16.trans e1) (ex18.trans e2) (by first | trivial | omega) (by omega)
    · skip
      exact hk  h I_h e0 e1 e2 (by first | trivial | omega)
theorem s_X7_friendsBy (h : dH) (I_h : InvM h) (v1 : Int32) (v2 : Int32) (q0 : 0 ≤ v2.toInt ∧ v2.toInt ≤ 20) : Sf (f_X7_friendsBy v1 v2 h) (fun o => InvM o.2 ∧ o.2 0 3 = h 0 3 ∧ o.2 0 4 = h 0 4 ∧ o.2 0 13 = h 0 13 ∧ True) := by
  unfold f_X7_friendsBy
  have u_v1 := Int32.toInt_lt v1
  have w_v1 := Int32.le_toInt v1
  have u_v2 := Int32.toInt_lt v2
  have w_v2 := Int32.le_toInt v2
  refine sf_oV (s_X7_clears h I_h ) (fun g1 pg1 => ?_)
  obtain ⟨I_g1, ex1, ex2, ex3, qg1⟩ := pg1
  try simp only at I_g1 ex1 ex2 ex3 qg1
  have yx4 := congrArg Int32.toInt ex1
  have yx5 := congrArg Int32.toInt ex2
  have yx6 := congrArg Int32.toInt ex3
  have tx21 : (0 : Int32).toInt = 0 := by decide
  refine sl_X7_friendsBy_9   g1 I_g1  _ _ (fun g8 I_g8 eg8_0 eg8_1 eg8_2 px22 => ?_)  fuel0 v1 (0 : Int32) g1 I_g1 rfl rfl rfl (by first | trivial | omega) (by have := fuel0_eq; omega)
  have yx23 := congrArg Int32.toInt eg8_0
  have yx24 := congrArg Int32.toInt eg8_1
  have yx25 := congrArg Int32.toInt eg8_2
  refine sf_oI (s_X7_friendsBehind g8 I_g8 v2 (by omega)) (fun r9 g10 pg10 => ?_)
  obtain ⟨I_g10, ex26, ex27, ex28, qg10⟩ := pg10
  try simp only at I_g10 ex26 ex27 ex28 qg10
  have yx29 := congrArg Int32.toInt ex26
  have yx30 := congrArg Int32.toInt ex27
  have yx31 := congrArg Int32.toInt ex28
  refine sf_oV (s_X7_sitsAgain g10 I_g10 ) (fun g11 pg11 => ?_)
  obtain ⟨I_g11, ex32, ex33, ex34, qg11⟩ := pg11
  try simp only at I_g11 ex32 ex33 ex34 qg11
  have yx35 := congrArg Int32.toInt ex32
  have yx36 := congrArg Int32.toInt ex33
  have yx37 := congrArg Int32.toInt ex34
  exact sf_some (⟨I_g11, (ex32.trans (ex26.trans (eg8_0.trans ex1))), (ex33.trans (ex27.trans (eg8_1.trans ex2))), (ex34.trans (ex28.trans (eg8_2.trans ex3))), trivial⟩)
theorem s_X7_drawn (h : dH) (I_h : InvM h) (v1 : Int32) (v2 : Int32)  : Sf (f_X7_drawn v1 v2 h) (fun o => InvM o.2 ∧ o.2 0 3 = h 0 3 ∧ o.2 0 4 = h 0 4 ∧ o.2 0 13 = h 0 13 ∧ True) := by
  unfold f_X7_drawn
  have u_v1 := Int32.toInt_lt v1
  have w_v1 := Int32.le_toInt v1
  have u_v2 := Int32.toInt_lt v2
  have w_v2 := Int32.le_toInt v2
  have tx1 : v2.toInt64.toInt = v2.toInt := l_i2l
  have tx2 : (0 : Int64).toInt = 0 := by decide
  have tx3 : (20 : Int64).toInt = 20 := by decide
  refine sf_oP (s_X7_in h I_h (v2.toInt64) 0 20) (fun r1 pr1 => ?_)
  refine sf_ite (fun c2 => ?_) (fun c3 => ?_)
  · skip
    exact sf_some (⟨I_h, rfl, rfl, rfl, trivial⟩)
  · skip
    refine sf_oI (s_X7_friendsBy h I_h v1 v2 (by omega)) (fun r4 g5 pg5 => ?_)
    obtain ⟨I_g5, ex4, ex5, ex6, qg5⟩ := pg5
    try simp only at I_g5 ex4 ex5 ex6 qg5
    have yx7 := congrArg Int32.toInt ex4
    have yx8 := congrArg Int32.toInt ex5
    have yx9 := congrArg Int32.toInt ex6
    exact sf_some (⟨I_g5, ex4, ex5, ex6, trivial⟩)
theorem sl_X7_chance_45 (v1 : Int32) (v2 : Int32) (v3 : Int32)  (h0 : dH) (I_h0 : InvM h0) (r_v2 : 1 ≤ v2.toInt ∧ v2.toInt ≤ 20) (k : Int64 → dH → Option (Int64 × dH)) (Q : Int64 × dH → Prop) (hk : ∀ (v5 : Int64) (g : dH) (Ig : InvM g) (e0 : g 0 3 = h0 0 3) (e1 : g 0 4 = h0 0 4) (e2 : g 0 13 = h0 0 13), 0 ≤ v5.toInt ∧ v5.toInt ≤ 20 → Sf (k v5 g) Q)  : ∀ (n : Nat) (v5 : Int64) (v7 : Int32) (h : dH) (I_h : InvM h) (e0 : h 0 3 = h0 0 3) (e1 : h 0 4 = h0 0 4) (e2 : h 0 13 = h0 0 13), 0 ≤ v5.toInt ∧ v5.toInt ≤ v7.toInt ∧ 0 ≤ v7.toInt ∧ v7.toInt ≤ 20 → 20 - v7.toInt < (n : Int) → Sf (l_X7_chance_45 v1 v2 v3 k n v5 v7 h) Q
  | 0, v5, v7, h, I_h, e0, e1, e2, hi, hm => by omega
  | n + 1, v5, v7, h, I_h, e0, e1, e2, hi, hm => by
    rw [l_X7_chance_45]
    have yx8 := congrArg Int32.toInt e0
    have yx9 := congrArg Int32.toInt e1
    have yx10 := congrArg Int32.toInt e2
    refine sf_ite (fun c10 => ?_) (fun c11 => ?_)
    · skip
      try have tx11 : (v1 + v7).toInt = v1.toInt + v7.toInt := i_add rfl rfl (by omega) (by omega)
      have tx12 : (3 : Int32).toInt = 3 := by decide
      refine sf_oI (s_X7_friendsBy h I_h (v1 + v7) (3 : Int32) (by omega)) (fun r12 g13 pg13 => ?_)
      obtain ⟨I_g13, ex13, ex14, ex15, qg13⟩ := pg13
      try simp only at I_g13 ex13 ex14 ex15 qg13
      have yx16 := congrArg Int32.toInt ex13
      have yx17 := congrArg Int32.toInt ex14
      have yx18 := congrArg Int32.toInt ex15
      refine sf_ite (fun c14 => ?_) (fun c15 => ?_)
      · skip
        try have tx19 : (v5 + 0).toInt = v5.toInt + 0 := l_add rfl (by decide) (by omega) (by omega)
        try have tx20 : (v7 + 1).toInt = v7.toInt + 1 := i_add rfl (by decide) (by omega) (by omega)
        exact sl_X7_chance_45  v1 v2 v3  h0 I_h0 r_v2 k Q hk n (v5 + 0) (v7 + 1) g13 I_g13 (ex13.trans e0) (ex14.trans e1) (ex15.trans e2) (by first | trivial | omega) (by omega)
      · skip
        try have tx21 : (v5 + 1).toInt = v5.toInt + 1 := l_add rfl (by decide) (by omega) (by omega)
        try have tx22 : (v7 + 1).toInt = v7.toInt + 1 := i_add rfl (by decide) (by omega) (by omega)
        exact sl_X7_chance_45  v1 v2 v3  h0 I_h0 r_v2 k Q hk n (v5 + 1) (v7 + 1) g13 I_g13 (ex13.trans e0) (ex14.trans e1) (ex15.trans e2) (by first | trivial | omega) (by omega)
    · skip
      exact hk v5 h I_h e0 e1 e2 (by first | trivial | omega)
theorem sl_X7_chance_88   (h : dH) (I_h : InvM h)  (k : Int64 → Option (Int64 × dH)) (Q : Int64 × dH → Prop) (hk : ∀ (v7 : Int64), 0 < v7.toInt → Sf (k v7) Q)  : ∀ (n : Nat) (v7 : Int64) (v9 : Int64), (0 ≤ v7.toInt ∧ v7.toInt ≤ 1000 ∧ 0 ≤ v9.toInt ∧ v9.toInt ≤ 1000 ∧ (0 < v9.toInt ∨ 0 < v7.toInt)) → v9.toInt < (n : Int) → Sf (l_X7_chance_88  k n v7 v9) Q
  | 0, v7, v9, hi, hm => by omega
  | n + 1, v7, v9, hi, hm => by
    rw [l_X7_chance_88]
    have tx28 : (0 : Int64).toInt = 0 := by decide
    have tx29 := dlcmp_ok v9 0
    refine sf_ite (fun c19 => ?_) (fun c20 => ?_)
    · skip
      exact hk v7 (by first | trivial | omega)
    · skip
      refine sf_guard (l_ne0 (by omega)) (fun c21 => ?_)
      try have tx30 := lrem_ok (x := v7) (y := v9) (by omega) (by omega)
      exact sl_X7_chance_88    h I_h  k Q hk n v9 (v7 - v7 / v9 * v9) (by first | trivial | omega) (by omega)
theorem s_X7_chance (h : dH) (I_h : InvM h) (v1 : Int32) (v2 : Int32) (v3 : Int32) (v4 : Int32)  : Sf (f_X7_chance v1 v2 v3 v4 h) (fun o => InvM o.2 ∧ o.2 0 3 = h 0 3 ∧ o.2 0 4 = h 0 4 ∧ o.2 0 13 = h 0 13 ∧ True) := by
  unfold f_X7_chance
  have u_v1 := Int32.toInt_lt v1
  have w_v1 := Int32.le_toInt v1
  have u_v2 := Int32.toInt_lt v2
  have w_v2 := Int32.le_toInt v2
  have u_v3 := Int32.toInt_lt v3
  have w_v3 := Int32.le_toInt v3
  have u_v4 := Int32.toInt_lt v4
  have w_v4 := Int32.le_toInt v4
  have tx1 : v2.toInt64.toInt = v2.toInt := l_i2l
  have tx2 : (1 : Int64).toInt = 1 := by decide
  have tx3 : (20 : Int64).toInt = 20 := by decide
  refine sf_oP (s_X7_in h I_h (v2.toInt64) 1 20) (fun r1 pr1 => ?_)
  refine sf_ite (fun c2 => ?_) (fun c3 => ?_)
  · skip
    exact sf_some (⟨I_h, rfl, rfl, rfl, trivial⟩)
  · skip
    have tx4 : v3.toInt64.toInt = v3.toInt := l_i2l
    have tx5 : (0 : Int64).toInt = 0 := by decide
    have tx6 : (28 : Int64).toInt = 28 := by decide
    refine sf_oP (s_X7_in h I_h (v3.toInt64) 0 28) (fun r4 pr4 => ?_)
    refine sf_ite (fun c5 => ?_) (fun c6 => ?_)
    · skip
      exact sf_some (⟨I_h, rfl, rfl, rfl, trivial⟩)
    · skip
      have tx7 : v4.toInt64.toInt = v4.toInt := l_i2l
      refine sf_oP (s_X7_in h I_h (v4.toInt64) 0 1) (fun r7 pr7 => ?_)
      refine sf_ite (fun c8 => ?_) (fun c9 => ?_)
      · skip
        exact sf_some (⟨I_h, rfl, rfl, rfl, trivial⟩)
      · skip
        have tx23 : (0 : Int32).toInt = 0 := by decide
        refine sl_X7_chance_45 v1 v2 v3  h I_h (by omega) _ _ (fun v5_16 g18 I_g18 eg18_0 eg18_1 eg18_2 px24 => ?_)  fuel0 0 (0 : Int32) h I_h rfl rfl rfl (by first | trivial | omega) (by have := fuel0_eq; omega)
        have yx25 := congrArg Int32.toInt eg18_0
        have yx26 := congrArg Int32.toInt eg18_1
        have yx27 := congrArg Int32.toInt eg18_2
        refine sl_X7_chance_88   g18 I_g18  _ _ (fun v7_22 px31 => ?_)  fuel0 v5_16 (v2.toInt64)  (by first | trivial | omega) (by have := fuel0_eq; omega)
        refine sf_ite (fun c26 => ?_) (fun c27 => ?_)
        · skip
          refine sf_guard (l_ne0 (by omega)) (fun c28 => ?_)
          exact sf_some (⟨I_g18, eg18_0, eg18_1, eg18_2, trivial⟩)
        · skip
          refine sf_guard (l_ne0 (by omega)) (fun c29 => ?_)
          exact sf_some (⟨I_g18, eg18_0, eg18_1, eg18_2, trivial⟩)
theorem sl_X7_image_2   (h0 : dH) (I_h0 : InvM h0)  (k : dH → Option (Int32 × dH)) (Q : Int32 × dH → Prop) (hk : ∀  (g : dH) (Ig : InvM g) (e0 : g 0 3 = h0 0 3) (e1 : g 0 4 = h0 0 4) (e2 : g 0 13 = h0 0 13) (e3 : g 0 39 = h0 0 39) (e4 : g 0 42 = h0 0 42), True → Sf (k  g) Q)  : ∀ (n : Nat) (v1 : Int32) (h : dH) (I_h : InvM h) (e0 : h 0 3 = h0 0 3) (e1 : h 0 4 = h0 0 4) (e2 : h 0 13 = h0 0 13) (e3 : h 0 39 = h0 0 39) (e4 : h 0 42 = h0 0 42), 0 ≤ v1.toInt ∧ v1.toInt ≤ 8 → 8 - v1.toInt < (n : Int) → Sf (l_X7_image_2  k n v1 h) Q
  | 0, v1, h, I_h, e0, e1, e2, e3, e4, hi, hm => by omega
  | n + 1, v1, h, I_h, e0, e1, e2, e3, e4, hi, hm => by
    rw [l_X7_image_2]
    have yx1 := congrArg Int32.toInt e0
    have yx2 := congrArg Int32.toInt e1
    have yx3 := congrArg Int32.toInt e2
    have yx4 := congrArg Int32.toInt e3
    have yx5 := congrArg Int32.toInt e4
    refine sf_ite (fun c1 => ?_) (fun c2 => ?_)
    · skip
      refine sf_guard (by omega) (fun c3 => ?_)
      refine sf_guard (by omega) (fun c5 => ?_)
      refine sf_oH (fun g4 hg4 => ?_)
      have I_g4 : InvM g4 := by rw [hg4]; exact invM_free I_h rfl (by omega) (by omega)
      have ex6 : g4 0 3 = h 0 3 := by rw [hg4]; exact dU_ne (by omega)
      have yx7 := congrArg Int32.toInt ex6
      have ex8 : g4 0 4 = h 0 4 := by rw [hg4]; exact dU_ne (by omega)
      have yx9 := congrArg Int32.toInt ex8
      have ex10 : g4 0 13 = h 0 13 := by rw [hg4]; exact dU_ne (by omega)
      have yx11 := congrArg Int32.toInt ex10
      have ex12 : g4 0 39 = h 0 39 := by rw [hg4]; exact dU_ne (by omega)
      have yx13 := congrArg Int32.toInt ex12
      have ex14 : g4 0 42 = h 0 42 := by rw [hg4]; exact dU_ne (by omega)
      have yx15 := congrArg Int32.toInt ex14
      refine sf_guard (by omega) (fun c6 => ?_)
      refine sf_guard (by omega) (fun c8 => ?_)
      refine sf_oH (fun g7 hg7 => ?_)
      have I_g7 : InvM g7 := by rw [hg7]; exact invM_free I_g4 rfl (by omega) (by omega)
      have ex16 : g7 0 3 = g4 0 3 := by rw [hg7]; exact dU_ne (by omega)
      have yx17 := congrArg Int32.toInt ex16
      have ex18 : g7 0 4 = g4 0 4 := by rw [hg7]; exact dU_ne (by omega)
      have yx19 := congrArg Int32.toInt ex18
      have ex20 : g7 0 13 = g4 0 13 := by rw [hg7]; exact dU_ne (by omega)
      have yx21 := congrArg Int32.toInt ex20
      have ex22 : g7 0 39 = g4 0 39 := by rw [hg7]; exact dU_ne (by omega)
      have yx23 := congrArg Int32.toInt ex22
      have ex24 : g7 0 42 = g4 0 42 := by rw [hg7]; exact dU_ne (by omega)
      have yx25 := congrArg Int32.toInt ex24
      try have tx26 : (v1 + 1).toInt = v1.toInt + 1 := i_add rfl (by decide) (by omega) (by omega)
      exact sl_X7_image_2    h0 I_h0  k Q hk n (v1 + 1) g7 I_g7 (ex16.trans (ex6.trans e0)) (ex18.trans (ex8.trans e1)) (ex20.trans (ex10.trans e2)) (ex22.trans (ex12.trans e3)) (ex24.trans (ex14.trans e4)) (by first | trivial | omega) (by omega)
    · skip
      exact hk  h I_h e0 e1 e2 e3 e4 (by first | trivial | omega)
theorem sl_X7_image_40   (h0 : dH) (I_h0 : InvM h0)  (k : dH → Option (Int32 × dH)) (Q : Int32 × dH → Prop) (hk : ∀  (g : dH) (Ig : InvM g) (e0 : g 0 3 = h0 0 3) (e1 : g 0 4 = h0 0 4) (e2 : g 0 13 = h0 0 13) (e3 : g 0 39 = h0 0 39) (e4 : g 0 42 = h0 0 42), True → Sf (k  g) Q)  : ∀ (n : Nat) (v1 : Int32) (h : dH) (I_h : InvM h) (e0 : h 0 3 = h0 0 3) (e1 : h 0 4 = h0 0 4) (e2 : h 0 13 = h0 0 13) (e3 : h 0 39 = h0 0 39) (e4 : h 0 42 = h0 0 42), 0 ≤ v1.toInt ∧ v1.toInt ≤ 64 → 64 - v1.toInt < (n : Int) → Sf (l_X7_image_40  k n v1 h) Q
  | 0, v1, h, I_h, e0, e1, e2, e3, e4, hi, hm => by omega
  | n + 1, v1, h, I_h, e0, e1, e2, e3, e4, hi, hm => by
    rw [l_X7_image_40]
    have yx34 := congrArg Int32.toInt e0
    have yx35 := congrArg Int32.toInt e1
    have yx36 := congrArg Int32.toInt e2
    have yx37 := congrArg Int32.toInt e3
    have yx38 := congrArg Int32.toInt e4
    refine sf_ite (fun c11 => ?_) (fun c12 => ?_)
    · skip
      refine sf_guard (by omega) (fun c13 => ?_)
      refine sf_guard (by omega) (fun c15 => ?_)
      refine sf_oH (fun g14 hg14 => ?_)
      have I_g14 : InvM g14 := by rw [hg14]; exact invM_free I_h rfl (by omega) (by omega)
      have ex39 : g14 0 3 = h 0 3 := by rw [hg14]; exact dU_ne (by omega)
      have yx40 := congrArg Int32.toInt ex39
      have ex41 : g14 0 4 = h 0 4 := by rw [hg14]; exact dU_ne (by omega)
      have yx42 := congrArg Int32.toInt ex41
      have ex43 : g14 0 13 = h 0 13 := by rw [hg14]; exact dU_ne (by omega)
      have yx44 := congrArg Int32.toInt ex43
      have ex45 : g14 0 39 = h 0 39 := by rw [hg14]; exact dU_ne (by omega)
      have yx46 := congrArg Int32.toInt ex45
      have ex47 : g14 0 42 = h 0 42 := by rw [hg14]; exact dU_ne (by omega)
      have yx48 := congrArg Int32.toInt ex47
      try have tx49 : (v1 + 1).toInt = v1.toInt + 1 := i_add rfl (by decide) (by omega) (by omega)
      exact sl_X7_image_40    h0 I_h0  k Q hk n (v1 + 1) g14 I_g14 (ex39.trans e0) (ex41.trans e1) (ex43.trans e2) (ex45.trans e3) (ex47.trans e4) (by first | trivial | omega) (by omega)
    · skip
      exact hk  h I_h e0 e1 e2 e3 e4 (by first | trivial | omega)
theorem s_X7_image (h : dH) (I_h : InvM h)   : Sf (f_X7_image  h) (fun o => InvM o.2 ∧ o.2 0 3 = h 0 3 ∧ o.2 0 4 = h 0 4 ∧ o.2 0 13 = h 0 13 ∧ True) := by
  unfold f_X7_image
  have tx27 : (0 : Int32).toInt = 0 := by decide
  refine sl_X7_image_2   h I_h  _ _ (fun g10 I_g10 eg10_0 eg10_1 eg10_2 eg10_3 eg10_4 px28 => ?_)  fuel0 (0 : Int32) h I_h rfl rfl rfl rfl rfl (by first | trivial | omega) (by have := fuel0_eq; omega)
  have yx29 := congrArg Int32.toInt eg10_0
  have yx30 := congrArg Int32.toInt eg10_1
  have yx31 := congrArg Int32.toInt eg10_2
  have yx32 := congrArg Int32.toInt eg10_3
  have yx33 := congrArg Int32.toInt eg10_4
  refine sl_X7_image_40   g10 I_g10  _ _ (fun g17 I_g17 eg17_0 eg17_1 eg17_2 eg17_3 eg17_4 px50 => ?_)  fuel0 (0 : Int32) g10 I_g10 rfl rfl rfl rfl rfl (by first | trivial | omega) (by have := fuel0_eq; omega)
  have yx51 := congrArg Int32.toInt eg17_0
  have yx52 := congrArg Int32.toInt eg17_1
  have yx53 := congrArg Int32.toInt eg17_2
  have yx54 := congrArg Int32.toInt eg17_3
  have yx55 := congrArg Int32.toInt eg17_4
  have bx56 := I_g17.1 0 13 (0) (8) rfl
  refine sf_oH (fun g18 hg18 => ?_)
  have I_g18 : InvM g18 := by rw [hg18]; exact invM_set (l := -1) (u := 8) I_g17 rfl (by omega) (by omega) (by omega)
  have ex57 : g18 0 3 = g17 0 3 := by rw [hg18]; exact dU_ne (by omega)
  have yx58 := congrArg Int32.toInt ex57
  have ex59 : g18 0 4 = g17 0 4 := by rw [hg18]; exact dU_ne (by omega)
  have yx60 := congrArg Int32.toInt ex59
  have ex61 : g18 0 13 = g17 0 13 := by rw [hg18]; exact dU_ne (by omega)
  have yx62 := congrArg Int32.toInt ex61
  have ex63 : g18 0 42 = g17 0 42 := by rw [hg18]; exact dU_ne (by omega)
  have yx64 := congrArg Int32.toInt ex63
  have yx65 : (g18 0 39).toInt = (g17 0 13).toInt := by rw [hg18, dU_eq]
  refine sf_oH (fun g19 hg19 => ?_)
  have I_g19 : InvM g19 := by rw [hg19]; exact invM_free I_g18 rfl (by omega) (by omega)
  have ex66 : g19 0 3 = g18 0 3 := by rw [hg19]; exact dU_ne (by omega)
  have yx67 := congrArg Int32.toInt ex66
  have ex68 : g19 0 4 = g18 0 4 := by rw [hg19]; exact dU_ne (by omega)
  have yx69 := congrArg Int32.toInt ex68
  have ex70 : g19 0 13 = g18 0 13 := by rw [hg19]; exact dU_ne (by omega)
  have yx71 := congrArg Int32.toInt ex70
  have ex72 : g19 0 39 = g18 0 39 := by rw [hg19]; exact dU_ne (by omega)
  have yx73 := congrArg Int32.toInt ex72
  have ex74 : g19 0 42 = g18 0 42 := by rw [hg19]; exact dU_ne (by omega)
  have yx75 := congrArg Int32.toInt ex74
  have yx76 : (g19 0 40).toInt = (g18 0 7).toInt := by rw [hg19, dU_eq]
  refine sf_oH (fun g20 hg20 => ?_)
  have I_g20 : InvM g20 := by rw [hg20]; exact invM_free I_g19 rfl (by omega) (by omega)
  have ex77 : g20 0 3 = g19 0 3 := by rw [hg20]; exact dU_ne (by omega)
  have yx78 := congrArg Int32.toInt ex77
  have ex79 : g20 0 4 = g19 0 4 := by rw [hg20]; exact dU_ne (by omega)
  have yx80 := congrArg Int32.toInt ex79
  have ex81 : g20 0 13 = g19 0 13 := by rw [hg20]; exact dU_ne (by omega)
  have yx82 := congrArg Int32.toInt ex81
  have ex83 : g20 0 39 = g19 0 39 := by rw [hg20]; exact dU_ne (by omega)
  have yx84 := congrArg Int32.toInt ex83
  have ex85 : g20 0 42 = g19 0 42 := by rw [hg20]; exact dU_ne (by omega)
  have yx86 := congrArg Int32.toInt ex85
  have yx87 : (g20 0 41).toInt = (g19 0 8).toInt := by rw [hg20, dU_eq]
  have bx88 := I_g20.1 0 4 (0) (5) rfl
  refine sf_oH (fun g21 hg21 => ?_)
  have I_g21 : InvM g21 := by rw [hg21]; exact invM_set (l := 0) (u := 5) I_g20 rfl (by omega) (by omega) (by omega)
  have ex89 : g21 0 3 = g20 0 3 := by rw [hg21]; exact dU_ne (by omega)
  have yx90 := congrArg Int32.toInt ex89
  have ex91 : g21 0 4 = g20 0 4 := by rw [hg21]; exact dU_ne (by omega)
  have yx92 := congrArg Int32.toInt ex91
  have ex93 : g21 0 13 = g20 0 13 := by rw [hg21]; exact dU_ne (by omega)
  have yx94 := congrArg Int32.toInt ex93
  have ex95 : g21 0 39 = g20 0 39 := by rw [hg21]; exact dU_ne (by omega)
  have yx96 := congrArg Int32.toInt ex95
  have yx97 : (g21 0 42).toInt = (g20 0 4).toInt := by rw [hg21, dU_eq]
  exact sf_some (⟨I_g21, (ex89.trans (ex77.trans (ex66.trans (ex57.trans (eg17_0.trans eg10_0))))), (ex91.trans (ex79.trans (ex68.trans (ex59.trans (eg17_1.trans eg10_1))))), (ex93.trans (ex81.trans (ex70.trans (ex61.trans (eg17_2.trans eg10_2))))), trivial⟩)
theorem sl_X7_back_13   (h0 : dH) (I_h0 : InvM h0)  (k : dH → Option (Int32 × dH)) (Q : Int32 × dH → Prop) (hk : ∀  (g : dH) (Ig : InvM g) (e0 : g 0 3 = h0 0 3) (e1 : g 0 4 = h0 0 4) (e2 : g 0 13 = h0 0 13) (e3 : g 0 39 = h0 0 39) (e4 : g 0 42 = h0 0 42), True → Sf (k  g) Q)  : ∀ (n : Nat) (v1 : Int32) (h : dH) (I_h : InvM h) (e0 : h 0 3 = h0 0 3) (e1 : h 0 4 = h0 0 4) (e2 : h 0 13 = h0 0 13) (e3 : h 0 39 = h0 0 39) (e4 : h 0 42 = h0 0 42), 0 ≤ v1.toInt ∧ v1.toInt ≤ 8 → 8 - v1.toInt < (n : Int) → Sf (l_X7_back_13  k n v1 h) Q
  | 0, v1, h, I_h, e0, e1, e2, e3, e4, hi, hm => by omega
  | n + 1, v1, h, I_h, e0, e1, e2, e3, e4, hi, hm => by
    rw [l_X7_back_13]
    have yx2 := congrArg Int32.toInt e0
    have yx3 := congrArg Int32.toInt e1
    have yx4 := congrArg Int32.toInt e2
    have yx5 := congrArg Int32.toInt e3
    have yx6 := congrArg Int32.toInt e4
    refine sf_ite (fun c3 => ?_) (fun c4 => ?_)
    · skip
      refine sf_guard (by omega) (fun c5 => ?_)
      refine sf_guard (by omega) (fun c7 => ?_)
      refine sf_oH (fun g6 hg6 => ?_)
      have I_g6 : InvM g6 := by rw [hg6]; exact invM_free I_h rfl (by omega) (by omega)
      have ex7 : g6 0 3 = h 0 3 := by rw [hg6]; exact dU_ne (by omega)
      have yx8 := congrArg Int32.toInt ex7
      have ex9 : g6 0 4 = h 0 4 := by rw [hg6]; exact dU_ne (by omega)
      have yx10 := congrArg Int32.toInt ex9
      have ex11 : g6 0 13 = h 0 13 := by rw [hg6]; exact dU_ne (by omega)
      have yx12 := congrArg Int32.toInt ex11
      have ex13 : g6 0 39 = h 0 39 := by rw [hg6]; exact dU_ne (by omega)
      have yx14 := congrArg Int32.toInt ex13
      have ex15 : g6 0 42 = h 0 42 := by rw [hg6]; exact dU_ne (by omega)
      have yx16 := congrArg Int32.toInt ex15
      refine sf_guard (by omega) (fun c8 => ?_)
      refine sf_guard (by omega) (fun c10 => ?_)
      refine sf_oH (fun g9 hg9 => ?_)
      have I_g9 : InvM g9 := by rw [hg9]; exact invM_free I_g6 rfl (by omega) (by omega)
      have ex17 : g9 0 3 = g6 0 3 := by rw [hg9]; exact dU_ne (by omega)
      have yx18 := congrArg Int32.toInt ex17
      have ex19 : g9 0 4 = g6 0 4 := by rw [hg9]; exact dU_ne (by omega)
      have yx20 := congrArg Int32.toInt ex19
      have ex21 : g9 0 13 = g6 0 13 := by rw [hg9]; exact dU_ne (by omega)
      have yx22 := congrArg Int32.toInt ex21
      have ex23 : g9 0 39 = g6 0 39 := by rw [hg9]; exact dU_ne (by omega)
      have yx24 := congrArg Int32.toInt ex23
      have ex25 : g9 0 42 = g6 0 42 := by rw [hg9]; exact dU_ne (by omega)
      have yx26 := congrArg Int32.toInt ex25
      try have tx27 : (v1 + 1).toInt = v1.toInt + 1 := i_add rfl (by decide) (by omega) (by omega)
      exact sl_X7_back_13    h0 I_h0  k Q hk n (v1 + 1) g9 I_g9 (ex17.trans (ex7.trans e0)) (ex19.trans (ex9.trans e1)) (ex21.trans (ex11.trans e2)) (ex23.trans (ex13.trans e3)) (ex25.trans (ex15.trans e4)) (by first | trivial | omega) (by omega)
    · skip
      exact hk  h I_h e0 e1 e2 e3 e4 (by first | trivial | omega)
theorem sl_X7_back_51   (h0 : dH) (I_h0 : InvM h0)  (k : dH → Option (Int32 × dH)) (Q : Int32 × dH → Prop) (hk : ∀  (g : dH) (Ig : InvM g) (e0 : g 0 3 = h0 0 3) (e1 : g 0 4 = h0 0 4) (e2 : g 0 13 = h0 0 13) (e3 : g 0 39 = h0 0 39) (e4 : g 0 42 = h0 0 42), True → Sf (k  g) Q)  : ∀ (n : Nat) (v1 : Int32) (h : dH) (I_h : InvM h) (e0 : h 0 3 = h0 0 3) (e1 : h 0 4 = h0 0 4) (e2 : h 0 13 = h0 0 13) (e3 : h 0 39 = h0 0 39) (e4 : h 0 42 = h0 0 42), 0 ≤ v1.toInt ∧ v1.toInt ≤ 64 → 64 - v1.toInt < (n : Int) → Sf (l_X7_back_51  k n v1 h) Q
  | 0, v1, h, I_h, e0, e1, e2, e3, e4, hi, hm => by omega
  | n + 1, v1, h, I_h, e0, e1, e2, e3, e4, hi, hm => by
    rw [l_X7_back_51]
    have yx35 := congrArg Int32.toInt e0
    have yx36 := congrArg Int32.toInt e1
    have yx37 := congrArg Int32.toInt e2
    have yx38 := congrArg Int32.toInt e3
    have yx39 := congrArg Int32.toInt e4
    refine sf_ite (fun c13 => ?_) (fun c14 => ?_)
    · skip
      refine sf_guard (by omega) (fun c15 => ?_)
      refine sf_guard (by omega) (fun c17 => ?_)
      refine sf_oH (fun g16 hg16 => ?_)
      have I_g16 : InvM g16 := by rw [hg16]; exact invM_free I_h rfl (by omega) (by omega)
      have ex40 : g16 0 3 = h 0 3 := by rw [hg16]; exact dU_ne (by omega)
      have yx41 := congrArg Int32.toInt ex40
      have ex42 : g16 0 4 = h 0 4 := by rw [hg16]; exact dU_ne (by omega)
      have yx43 := congrArg Int32.toInt ex42
      have ex44 : g16 0 13 = h 0 13 := by rw [hg16]; exact dU_ne (by omega)
      have yx45 := congrArg Int32.toInt ex44
      have ex46 : g16 0 39 = h 0 39 := by rw [hg16]; exact dU_ne (by omega)
      have yx47 := congrArg Int32.toInt ex46
      have ex48 : g16 0 42 = h 0 42 := by rw [hg16]; exact dU_ne (by omega)
      have yx49 := congrArg Int32.toInt ex48
      try have tx50 : (v1 + 1).toInt = v1.toInt + 1 := i_add rfl (by decide) (by omega) (by omega)
      exact sl_X7_back_51    h0 I_h0  k Q hk n (v1 + 1) g16 I_g16 (ex40.trans e0) (ex42.trans e1) (ex44.trans e2) (ex46.trans e3) (ex48.trans e4) (by first | trivial | omega) (by omega)
    · skip
      exact hk  h I_h e0 e1 e2 e3 e4 (by first | trivial | omega)
theorem s_X7_back (h : dH) (I_h : InvM h)   : Sf (f_X7_back  h) (fun o => InvM o.2 ∧ o.2 0 3 = h 0 3 ∧ o.2 0 39 = h 0 39 ∧ o.2 0 42 = h 0 42 ∧ True) := by
  unfold f_X7_back
  have bx1 := I_h.1 0 39 (-1) (8) rfl
  refine sf_ite (fun c1 => ?_) (fun c2 => ?_)
  · skip
    exact sf_some (⟨I_h, rfl, rfl, rfl, trivial⟩)
  · skip
    have tx28 : (0 : Int32).toInt = 0 := by decide
    refine sl_X7_back_13   h I_h  _ _ (fun g12 I_g12 eg12_0 eg12_1 eg12_2 eg12_3 eg12_4 px29 => ?_)  fuel0 (0 : Int32) h I_h rfl rfl rfl rfl rfl (by first | trivial | omega) (by have := fuel0_eq; omega)
    have yx30 := congrArg Int32.toInt eg12_0
    have yx31 := congrArg Int32.toInt eg12_1
    have yx32 := congrArg Int32.toInt eg12_2
    have yx33 := congrArg Int32.toInt eg12_3
    have yx34 := congrArg Int32.toInt eg12_4
    refine sl_X7_back_51   g12 I_g12  _ _ (fun g19 I_g19 eg19_0 eg19_1 eg19_2 eg19_3 eg19_4 px51 => ?_)  fuel0 (0 : Int32) g12 I_g12 rfl rfl rfl rfl rfl (by first | trivial | omega) (by have := fuel0_eq; omega)
    have yx52 := congrArg Int32.toInt eg19_0
    have yx53 := congrArg Int32.toInt eg19_1
    have yx54 := congrArg Int32.toInt eg19_2
    have yx55 := congrArg Int32.toInt eg19_3
    have yx56 := congrArg Int32.toInt eg19_4
    have bx57 := I_g19.1 0 39 (-1) (8) rfl
    refine sf_oH (fun g20 hg20 => ?_)
    have I_g20 : InvM g20 := by rw [hg20]; exact invM_set (l := 0) (u := 8) I_g19 rfl (by omega) (by omega) (by omega)
    have ex58 : g20 0 3 = g19 0 3 := by rw [hg20]; exact dU_ne (by omega)
    have yx59 := congrArg Int32.toInt ex58
    have ex60 : g20 0 4 = g19 0 4 := by rw [hg20]; exact dU_ne (by omega)
    have yx61 := congrArg Int32.toInt ex60
    have ex62 : g20 0 39 = g19 0 39 := by rw [hg20]; exact dU_ne (by omega)
    have yx63 := congrArg Int32.toInt ex62
    have ex64 : g20 0 42 = g19 0 42 := by rw [hg20]; exact dU_ne (by omega)
    have yx65 := congrArg Int32.toInt ex64
    have yx66 : (g20 0 13).toInt = (g19 0 39).toInt := by rw [hg20, dU_eq]
    refine sf_oH (fun g21 hg21 => ?_)
    have I_g21 : InvM g21 := by rw [hg21]; exact invM_free I_g20 rfl (by omega) (by omega)
    have ex67 : g21 0 3 = g20 0 3 := by rw [hg21]; exact dU_ne (by omega)
    have yx68 := congrArg Int32.toInt ex67
    have ex69 : g21 0 4 = g20 0 4 := by rw [hg21]; exact dU_ne (by omega)
    have yx70 := congrArg Int32.toInt ex69
    have ex71 : g21 0 13 = g20 0 13 := by rw [hg21]; exact dU_ne (by omega)
    have yx72 := congrArg Int32.toInt ex71
    have ex73 : g21 0 39 = g20 0 39 := by rw [hg21]; exact dU_ne (by omega)
    have yx74 := congrArg Int32.toInt ex73
    have ex75 : g21 0 42 = g20 0 42 := by rw [hg21]; exact dU_ne (by omega)
    have yx76 := congrArg Int32.toInt ex75
    have yx77 : (g21 0 7).toInt = (g20 0 40).toInt := by rw [hg21, dU_eq]
    refine sf_oH (fun g22 hg22 => ?_)
    have I_g22 : InvM g22 := by rw [hg22]; exact invM_free I_g21 rfl (by omega) (by omega)
    have ex78 : g22 0 3 = g21 0 3 := by rw [hg22]; exact dU_ne (by omega)
    have yx79 := congrArg Int32.toInt ex78
    have ex80 : g22 0 4 = g21 0 4 := by rw [hg22]; exact dU_ne (by omega)
    have yx81 := congrArg Int32.toInt ex80
    have ex82 : g22 0 13 = g21 0 13 := by rw [hg22]; exact dU_ne (by omega)
    have yx83 := congrArg Int32.toInt ex82
    have ex84 : g22 0 39 = g21 0 39 := by rw [hg22]; exact dU_ne (by omega)
    have yx85 := congrArg Int32.toInt ex84
    have ex86 : g22 0 42 = g21 0 42 := by rw [hg22]; exact dU_ne (by omega)
    have yx87 := congrArg Int32.toInt ex86
    have yx88 : (g22 0 8).toInt = (g21 0 41).toInt := by rw [hg22, dU_eq]
    have bx89 := I_g22.1 0 42 (0) (5) rfl
    refine sf_oH (fun g23 hg23 => ?_)
    have I_g23 : InvM g23 := by rw [hg23]; exact invM_set (l := 0) (u := 5) I_g22 rfl (by omega) (by omega) (by omega)
    have ex90 : g23 0 3 = g22 0 3 := by rw [hg23]; exact dU_ne (by omega)
    have yx91 := congrArg Int32.toInt ex90
    have ex92 : g23 0 13 = g22 0 13 := by rw [hg23]; exact dU_ne (by omega)
    have yx93 := congrArg Int32.toInt ex92
    have ex94 : g23 0 39 = g22 0 39 := by rw [hg23]; exact dU_ne (by omega)
    have yx95 := congrArg Int32.toInt ex94
    have ex96 : g23 0 42 = g22 0 42 := by rw [hg23]; exact dU_ne (by omega)
    have yx97 := congrArg Int32.toInt ex96
    have yx98 : (g23 0 4).toInt = (g22 0 42).toInt := by rw [hg23, dU_eq]
    exact sf_some (⟨I_g23, (ex90.trans (ex78.trans (ex67.trans (ex58.trans (eg19_0.trans eg12_0))))), (ex94.trans (ex84.trans (ex73.trans (ex62.trans (eg19_3.trans eg12_3))))), (ex96.trans (ex86.trans (ex75.trans (ex64.trans (eg19_4.trans eg12_4))))), trivial⟩)
theorem sl_X7_count_65 (v1 : Int32)  (h : dH) (I_h : InvM h)  (k : Int32 → Option (Int32)) (Q : Int32 → Prop) (hk : ∀ (v2 : Int32), True → Sf (k v2) Q)  : ∀ (n : Nat) (v2 : Int32) (v3 : Int32), 0 ≤ v3.toInt ∧ v3.toInt ≤ 8 → 8 - v3.toInt < (n : Int) → Sf (l_X7_count_65 v1 h k n v2 v3) Q
  | 0, v2, v3, hi, hm => by omega
  | n + 1, v2, v3, hi, hm => by
    rw [l_X7_count_65]
    have bx4 := I_h.1 0 13 (0) (8) rfl
    refine sf_ite (fun c12 => ?_) (fun c13 => ?_)
    · skip
      refine sf_ite (fun c14 => ?_) (fun c15 => ?_)
      · skip
        try have tx5 : (v2 + 1).toInt = v2.toInt + 1 := i_add rfl (by decide) (by omega) (by omega)
        try have tx6 : (v3 + 1).toInt = v3.toInt + 1 := i_add rfl (by decide) (by omega) (by omega)
        exact sl_X7_count_65  v1  h I_h  k Q hk n (v2 + 1) (v3 + 1) (by first | trivial | omega) (by omega)
      · skip
        refine sf_guard (by omega) (fun c16 => ?_)
        refine sf_ite (fun c17 => ?_) (fun c18 => ?_)
        · skip
          try have tx7 : (v2 + 0).toInt = v2.toInt + 0 := i_add rfl (by decide) (by omega) (by omega)
          try have tx8 : (v3 + 1).toInt = v3.toInt + 1 := i_add rfl (by decide) (by omega) (by omega)
          exact sl_X7_count_65  v1  h I_h  k Q hk n (v2 + 0) (v3 + 1) (by first | trivial | omega) (by omega)
        · skip
          try have tx9 : (v2 + 1).toInt = v2.toInt + 1 := i_add rfl (by decide) (by omega) (by omega)
          try have tx10 : (v3 + 1).toInt = v3.toInt + 1 := i_add rfl (by decide) (by omega) (by omega)
          exact sl_X7_count_65  v1  h I_h  k Q hk n (v2 + 1) (v3 + 1) (by first | trivial | omega) (by omega)
    · skip
      exact hk v2 (by first | trivial | omega)
theorem s_X7_count (h : dH) (I_h : InvM h) (v1 : Int32)  : Sf (f_X7_count v1 h) (fun r => True) := by
  unfold f_X7_count
  have u_v1 := Int32.toInt_lt v1
  have w_v1 := Int32.le_toInt v1
  have tx1 : v1.toInt64.toInt = v1.toInt := l_i2l
  have tx2 : (0 : Int64).toInt = 0 := by decide
  have tx3 : (5 : Int64).toInt = 5 := by decide
  refine sf_oP (s_X7_in h I_h (v1.toInt64) 0 5) (fun r1 pr1 => ?_)
  refine sf_ite (fun c2 => ?_) (fun c3 => ?_)
  · skip
    exact sf_some (trivial)
  · skip
    refine sf_ite (fun c4 => ?_) (fun c5 => ?_)
    · skip
      refine sf_ite (fun c6 => ?_) (fun c7 => ?_)
      · skip
        exact sf_some (trivial)
      · skip
        refine sf_ite (fun c8 => ?_) (fun c9 => ?_)
        · skip
          exact sf_some (trivial)
        · skip
          refine sf_ite (fun c10 => ?_) (fun c11 => ?_)
          · skip
            exact sf_some (trivial)
          · skip
            exact sf_some (trivial)
    · skip
      have tx11 : (0 : Int32).toInt = 0 := by decide
      refine sl_X7_count_65 v1  h I_h  _ _ (fun v2_19 px12 => ?_)  fuel0 (0 : Int32) (0 : Int32)  (by first | trivial | omega) (by have := fuel0_eq; omega)
      exact sf_some (trivial)
theorem s_X7_cell (h : dH) (I_h : InvM h) (v1 : Int32) (v2 : Int32) (v3 : Int32)  : Sf (f_X7_cell v1 v2 v3 h) (fun o => InvM o.2 ∧ o.2 0 3 = h 0 3 ∧ o.2 0 4 = h 0 4 ∧ o.2 0 13 = h 0 13 ∧ True) := by
  unfold f_X7_cell
  have u_v1 := Int32.toInt_lt v1
  have w_v1 := Int32.le_toInt v1
  have u_v2 := Int32.toInt_lt v2
  have w_v2 := Int32.le_toInt v2
  have u_v3 := Int32.toInt_lt v3
  have w_v3 := Int32.le_toInt v3
  refine sf_oP (s_X7_isSheet h I_h v1) (fun r1 pr1 => ?_)
  refine sf_ite (fun c2 => ?_) (fun c3 => ?_)
  · skip
    exact sf_some (⟨I_h, rfl, rfl, rfl, trivial⟩)
  · skip
    try have shx := I_h.2 v1.toInt.toNat (by omega) (by omega)
    refine sf_guard (by omega) (fun c4 => ?_)
    refine sf_ite (fun c5 => ?_) (fun c6 => ?_)
    · skip
      exact sf_some (⟨I_h, rfl, rfl, rfl, trivial⟩)
    · skip
      try have shx := I_h.2 v1.toInt.toNat (by omega) (by omega)
      refine sf_guard (by omega) (fun c7 => ?_)
      have tx1 : v2.toInt64.toInt = v2.toInt := l_i2l
      have tx2 : (0 : Int64).toInt = 0 := by decide
      try have tx3 : ((h 16 (v1.toInt.toNat)) - 1).toInt = (h 16 (v1.toInt.toNat)).toInt - 1 := i_sub rfl (by decide) (by omega) (by omega)
      have tx4 : ((h 16 (v1.toInt.toNat)) - 1).toInt64.toInt = ((h 16 (v1.toInt.toNat)) - 1).toInt := l_i2l
      refine sf_oP (s_X7_in h I_h (v2.toInt64) 0 (((h 16 (v1.toInt.toNat)) - 1).toInt64)) (fun r8 pr8 => ?_)
      refine sf_ite (fun c9 => ?_) (fun c10 => ?_)
      · skip
        exact sf_some (⟨I_h, rfl, rfl, rfl, trivial⟩)
      · skip
        try have shx := I_h.2 v1.toInt.toNat (by omega) (by omega)
        refine sf_guard (by omega) (fun c11 => ?_)
        refine sf_ite (fun c12 => ?_) (fun c13 => ?_)
        · skip
          try have tx5 : (40 * v1).toInt = 40 * v1.toInt := i_mul (by decide) rfl (by omega) (by omega)
          try have tx6 : ((40 * v1) + v2).toInt = (40 * v1).toInt + v2.toInt := i_add rfl rfl (by omega) (by omega)
          try have shx := I_h.2 v1.toInt.toNat (by omega) (by omega)
          refine sf_guard (by omega) (fun c15 => ?_)
          refine sf_oH (fun g14 hg14 => ?_)
          have I_g14 : InvM g14 := by rw [hg14]; exact invM_free I_h rfl (by omega) (by omega)
          have ex7 : g14 0 3 = h 0 3 := by rw [hg14]; exact dU_ne (by omega)
          have yx8 := congrArg Int32.toInt ex7
          have ex9 : g14 0 4 = h 0 4 := by rw [hg14]; exact dU_ne (by omega)
          have yx10 := congrArg Int32.toInt ex9
          have ex11 : g14 0 13 = h 0 13 := by rw [hg14]; exact dU_ne (by omega)
          have yx12 := congrArg Int32.toInt ex11
          exact sf_some (⟨I_g14, ex7, ex9, ex11, trivial⟩)
        · skip
          try have shx := I_h.2 v1.toInt.toNat (by omega) (by omega)
          refine sf_guard (by omega) (fun c16 => ?_)
          refine sf_ite (fun c17 => ?_) (fun c18 => ?_)
          · skip
            try have tx13 : (40 * v1).toInt = 40 * v1.toInt := i_mul (by decide) rfl (by omega) (by omega)
            try have tx14 : ((40 * v1) + v2).toInt = (40 * v1).toInt + v2.toInt := i_add rfl rfl (by omega) (by omega)
            try have shx := I_h.2 v1.toInt.toNat (by omega) (by omega)
            refine sf_guard (by omega) (fun c20 => ?_)
            refine sf_oH (fun g19 hg19 => ?_)
            have I_g19 : InvM g19 := by rw [hg19]; exact invM_free I_h rfl (by omega) (by omega)
            have ex15 : g19 0 3 = h 0 3 := by rw [hg19]; exact dU_ne (by omega)
            have yx16 := congrArg Int32.toInt ex15
            have ex17 : g19 0 4 = h 0 4 := by rw [hg19]; exact dU_ne (by omega)
            have yx18 := congrArg Int32.toInt ex17
            have ex19 : g19 0 13 = h 0 13 := by rw [hg19]; exact dU_ne (by omega)
            have yx20 := congrArg Int32.toInt ex19
            exact sf_some (⟨I_g19, ex15, ex17, ex19, trivial⟩)
          · skip
            try have tx21 : (40 * v1).toInt = 40 * v1.toInt := i_mul (by decide) rfl (by omega) (by omega)
            try have tx22 : ((40 * v1) + v2).toInt = (40 * v1).toInt + v2.toInt := i_add rfl rfl (by omega) (by omega)
            try have shx := I_h.2 v1.toInt.toNat (by omega) (by omega)
            refine sf_guard (by omega) (fun c22 => ?_)
            refine sf_oH (fun g21 hg21 => ?_)
            have I_g21 : InvM g21 := by rw [hg21]; exact invM_free I_h rfl (by omega) (by omega)
            have ex23 : g21 0 3 = h 0 3 := by rw [hg21]; exact dU_ne (by omega)
            have yx24 := congrArg Int32.toInt ex23
            have ex25 : g21 0 4 = h 0 4 := by rw [hg21]; exact dU_ne (by omega)
            have yx26 := congrArg Int32.toInt ex25
            have ex27 : g21 0 13 = h 0 13 := by rw [hg21]; exact dU_ne (by omega)
            have yx28 := congrArg Int32.toInt ex27
            exact sf_some (⟨I_g21, ex23, ex25, ex27, trivial⟩)
end
