/-! that they answer: X6_isHouse, X6_setting, X6_set, X6_settle, X6_house, X6_isTwo, X6_bind, X6_told, X6_feed, X6_text, X6_force, X6_isEither, X6_asks, X6_feast, X6_year, X6_figure, X6_street, X6_way, X6_isYears, X6_run, X6_isFriends, X6_takes, X6_best, X6_canChange, X6_change, X6_split, X6_missed, X6_match, X6_isSheet, X6_fits, X6_leastLimit, X6_limits, X6_otherwise, X6_choices (by program) -/
noncomputable section
theorem s_X6_isHouse (h : dH) (I_h : InvC h) (v1 : Int32)  : Sf (f_X6_isHouse v1 h) (fun r => r.toInt = 0 ∨ (0 ≤ v1.toInt ∧ v1.toInt < (h 43 2).toInt ∧ v1.toInt ≤ 7)) := by
  unfold f_X6_isHouse
  have u_v1 := Int32.toInt_lt v1
  have w_v1 := Int32.le_toInt v1
  refine sf_ite (fun c1 => ?_) (fun c2 => ?_)
  · skip
    have tx1 : (0 : Int32).toInt = 0 := by decide
    exact sf_some ((show (0 : Int32).toInt = 0 ∨ (0 ≤ v1.toInt ∧ v1.toInt < (h 43 2).toInt ∧ v1.toInt ≤ 7) by omega))
  · skip
    have bx2 := I_h 43 2 (0) (8) rfl
    refine sf_ite (fun c3 => ?_) (fun c4 => ?_)
    · skip
      have tx3 : (1 : Int32).toInt = 1 := by decide
      exact sf_some ((show (1 : Int32).toInt = 0 ∨ (0 ≤ v1.toInt ∧ v1.toInt < (h 43 2).toInt ∧ v1.toInt ≤ 7) by omega))
    · skip
      have tx4 : (0 : Int32).toInt = 0 := by decide
      exact sf_some ((show (0 : Int32).toInt = 0 ∨ (0 ≤ v1.toInt ∧ v1.toInt < (h 43 2).toInt ∧ v1.toInt ≤ 7) by omega))
theorem s_X6_setting (h : dH) (I_h : InvC h) (v1 : Int32) (v2 : Int32) (q0 : 0 ≤ v1.toInt ∧ v1.toInt ≤ 3 ∧ (v1.toInt ≤ 1 ∨ (0 ≤ v2.toInt ∧ v2.toInt ≤ 7))) : Sf (f_X6_setting v1 v2 h) (fun r => True) := by
  unfold f_X6_setting
  have u_v1 := Int32.toInt_lt v1
  have w_v1 := Int32.le_toInt v1
  have u_v2 := Int32.toInt_lt v2
  have w_v2 := Int32.le_toInt v2
  refine sf_ite (fun c1 => ?_) (fun c2 => ?_)
  · skip
    exact sf_some (trivial)
  · skip
    refine sf_ite (fun c3 => ?_) (fun c4 => ?_)
    · skip
      exact sf_some (trivial)
    · skip
      refine sf_ite (fun c5 => ?_) (fun c6 => ?_)
      · skip
        refine sf_guard (by omega) (fun c7 => ?_)
        exact sf_some (trivial)
      · skip
        refine sf_guard (by omega) (fun c8 => ?_)
        exact sf_some (trivial)
theorem s_X6_set (h : dH) (I_h : InvC h) (v1 : Int32) (v2 : Int32) (v3 : Int32)  : Sf (f_X6_set v1 v2 v3 h) (fun o => InvC o.2 ∧ o.2 0 3 = h 0 3 ∧ o.2 1 0 = h 1 0 ∧ o.2 1 5 = h 1 5 ∧ o.2 42 2 = h 42 2 ∧ o.2 43 2 = h 43 2 ∧ True) := by
  unfold f_X6_set
  have u_v1 := Int32.toInt_lt v1
  have w_v1 := Int32.le_toInt v1
  have u_v2 := Int32.toInt_lt v2
  have w_v2 := Int32.le_toInt v2
  have u_v3 := Int32.toInt_lt v3
  have w_v3 := Int32.le_toInt v3
  refine sf_ite (fun c1 => ?_) (fun c2 => ?_)
  · skip
    exact sf_some (⟨I_h, rfl, rfl, rfl, rfl, rfl, trivial⟩)
  · skip
    refine sf_ite (fun c3 => ?_) (fun c4 => ?_)
    · skip
      exact sf_some (⟨I_h, rfl, rfl, rfl, rfl, rfl, trivial⟩)
    · skip
      refine sf_ite (fun c5 => ?_) (fun c6 => ?_)
      · skip
        refine sf_guard (by omega) (fun c7 => ?_)
        refine sf_ite (fun c8 => ?_) (fun c9 => ?_)
        · skip
          exact sf_some (⟨I_h, rfl, rfl, rfl, rfl, rfl, trivial⟩)
        · skip
          refine sf_guard (by omega) (fun c10 => ?_)
          refine sf_ite (fun c11 => ?_) (fun c12 => ?_)
          · skip
            exact sf_some (⟨I_h, rfl, rfl, rfl, rfl, rfl, trivial⟩)
          · skip
            refine sf_oP (s_X6_setting h I_h v1 v2 (by omega)) (fun r13 pr13 => ?_)
            refine sf_ite (fun c14 => ?_) (fun c15 => ?_)
            · skip
              refine sf_oH (fun g16 hg16 => ?_)
              have I_g16 : InvC g16 := by rw [hg16]; exact inv_free I_h rfl
              have ex1 : g16 0 3 = h 0 3 := by rw [hg16]; exact dU_ne (by omega)
              have yx2 := congrArg Int32.toInt ex1
              have ex3 : g16 1 0 = h 1 0 := by rw [hg16]; exact dU_ne (by omega)
              have yx4 := congrArg Int32.toInt ex3
              have ex5 : g16 1 5 = h 1 5 := by rw [hg16]; exact dU_ne (by omega)
              have yx6 := congrArg Int32.toInt ex5
              have ex7 : g16 42 2 = h 42 2 := by rw [hg16]; exact dU_ne (by omega)
              have yx8 := congrArg Int32.toInt ex7
              have ex9 : g16 43 2 = h 43 2 := by rw [hg16]; exact dU_ne (by omega)
              have yx10 := congrArg Int32.toInt ex9
              have yx11 : (g16 43 0).toInt = v3.toInt := by rw [hg16, dU_eq]
              exact sf_some (⟨I_g16, ex1, ex3, ex5, ex7, ex9, trivial⟩)
            · skip
              refine sf_ite (fun c17 => ?_) (fun c18 => ?_)
              · skip
                refine sf_oH (fun g19 hg19 => ?_)
                have I_g19 : InvC g19 := by rw [hg19]; exact inv_free I_h rfl
                have ex12 : g19 0 3 = h 0 3 := by rw [hg19]; exact dU_ne (by omega)
                have yx13 := congrArg Int32.toInt ex12
                have ex14 : g19 1 0 = h 1 0 := by rw [hg19]; exact dU_ne (by omega)
                have yx15 := congrArg Int32.toInt ex14
                have ex16 : g19 1 5 = h 1 5 := by rw [hg19]; exact dU_ne (by omega)
                have yx17 := congrArg Int32.toInt ex16
                have ex18 : g19 42 2 = h 42 2 := by rw [hg19]; exact dU_ne (by omega)
                have yx19 := congrArg Int32.toInt ex18
                have ex20 : g19 43 2 = h 43 2 := by rw [hg19]; exact dU_ne (by omega)
                have yx21 := congrArg Int32.toInt ex20
                have yx22 : (g19 43 1).toInt = v3.toInt := by rw [hg19, dU_eq]
                exact sf_some (⟨I_g19, ex12, ex14, ex16, ex18, ex20, trivial⟩)
              · skip
                refine sf_ite (fun c20 => ?_) (fun c21 => ?_)
                · skip
                  refine sf_guard (by omega) (fun c23 => ?_)
                  refine sf_oH (fun g22 hg22 => ?_)
                  have I_g22 : InvC g22 := by rw [hg22]; exact inv_free I_h (fS2 zS43)
                  have ex23 : g22 0 3 = h 0 3 := by rw [hg22]; exact dU_ne (by omega)
                  have yx24 := congrArg Int32.toInt ex23
                  have ex25 : g22 1 0 = h 1 0 := by rw [hg22]; exact dU_ne (by omega)
                  have yx26 := congrArg Int32.toInt ex25
                  have ex27 : g22 1 5 = h 1 5 := by rw [hg22]; exact dU_ne (by omega)
                  have yx28 := congrArg Int32.toInt ex27
                  have ex29 : g22 42 2 = h 42 2 := by rw [hg22]; exact dU_ne (by omega)
                  have yx30 := congrArg Int32.toInt ex29
                  have ex31 : g22 43 2 = h 43 2 := by rw [hg22]; exact dU_ne (by omega)
                  have yx32 := congrArg Int32.toInt ex31
                  exact sf_some (⟨I_g22, ex23, ex25, ex27, ex29, ex31, trivial⟩)
                · skip
                  refine sf_guard (by omega) (fun c25 => ?_)
                  refine sf_oH (fun g24 hg24 => ?_)
                  have I_g24 : InvC g24 := by rw [hg24]; exact inv_free I_h (fS3 zS43)
                  have ex33 : g24 0 3 = h 0 3 := by rw [hg24]; exact dU_ne (by omega)
                  have yx34 := congrArg Int32.toInt ex33
                  have ex35 : g24 1 0 = h 1 0 := by rw [hg24]; exact dU_ne (by omega)
                  have yx36 := congrArg Int32.toInt ex35
                  have ex37 : g24 1 5 = h 1 5 := by rw [hg24]; exact dU_ne (by omega)
                  have yx38 := congrArg Int32.toInt ex37
                  have ex39 : g24 42 2 = h 42 2 := by rw [hg24]; exact dU_ne (by omega)
                  have yx40 := congrArg Int32.toInt ex39
                  have ex41 : g24 43 2 = h 43 2 := by rw [hg24]; exact dU_ne (by omega)
                  have yx42 := congrArg Int32.toInt ex41
                  exact sf_some (⟨I_g24, ex33, ex35, ex37, ex39, ex41, trivial⟩)
      · skip
        refine sf_oP (s_X6_isHouse h I_h v2) (fun r26 pr26 => ?_)
        refine sf_ite (fun c27 => ?_) (fun c28 => ?_)
        · skip
          exact sf_some (⟨I_h, rfl, rfl, rfl, rfl, rfl, trivial⟩)
        · skip
          refine sf_guard (by omega) (fun c29 => ?_)
          refine sf_ite (fun c30 => ?_) (fun c31 => ?_)
          · skip
            exact sf_some (⟨I_h, rfl, rfl, rfl, rfl, rfl, trivial⟩)
          · skip
            refine sf_guard (by omega) (fun c32 => ?_)
            refine sf_ite (fun c33 => ?_) (fun c34 => ?_)
            · skip
              exact sf_some (⟨I_h, rfl, rfl, rfl, rfl, rfl, trivial⟩)
            · skip
              refine sf_oP (s_X6_setting h I_h v1 v2 (by omega)) (fun r35 pr35 => ?_)
              refine sf_ite (fun c36 => ?_) (fun c37 => ?_)
              · skip
                refine sf_oH (fun g38 hg38 => ?_)
                have I_g38 : InvC g38 := by rw [hg38]; exact inv_free I_h rfl
                have ex43 : g38 0 3 = h 0 3 := by rw [hg38]; exact dU_ne (by omega)
                have yx44 := congrArg Int32.toInt ex43
                have ex45 : g38 1 0 = h 1 0 := by rw [hg38]; exact dU_ne (by omega)
                have yx46 := congrArg Int32.toInt ex45
                have ex47 : g38 1 5 = h 1 5 := by rw [hg38]; exact dU_ne (by omega)
                have yx48 := congrArg Int32.toInt ex47
                have ex49 : g38 42 2 = h 42 2 := by rw [hg38]; exact dU_ne (by omega)
                have yx50 := congrArg Int32.toInt ex49
                have ex51 : g38 43 2 = h 43 2 := by rw [hg38]; exact dU_ne (by omega)
                have yx52 := congrArg Int32.toInt ex51
                have yx53 : (g38 43 0).toInt = v3.toInt := by rw [hg38, dU_eq]
                exact sf_some (⟨I_g38, ex43, ex45, ex47, ex49, ex51, trivial⟩)
              · skip
                refine sf_ite (fun c39 => ?_) (fun c40 => ?_)
                · skip
                  refine sf_oH (fun g41 hg41 => ?_)
                  have I_g41 : InvC g41 := by rw [hg41]; exact inv_free I_h rfl
                  have ex54 : g41 0 3 = h 0 3 := by rw [hg41]; exact dU_ne (by omega)
                  have yx55 := congrArg Int32.toInt ex54
                  have ex56 : g41 1 0 = h 1 0 := by rw [hg41]; exact dU_ne (by omega)
                  have yx57 := congrArg Int32.toInt ex56
                  have ex58 : g41 1 5 = h 1 5 := by rw [hg41]; exact dU_ne (by omega)
                  have yx59 := congrArg Int32.toInt ex58
                  have ex60 : g41 42 2 = h 42 2 := by rw [hg41]; exact dU_ne (by omega)
                  have yx61 := congrArg Int32.toInt ex60
                  have ex62 : g41 43 2 = h 43 2 := by rw [hg41]; exact dU_ne (by omega)
                  have yx63 := congrArg Int32.toInt ex62
                  have yx64 : (g41 43 1).toInt = v3.toInt := by rw [hg41, dU_eq]
                  exact sf_some (⟨I_g41, ex54, ex56, ex58, ex60, ex62, trivial⟩)
                · skip
                  refine sf_ite (fun c42 => ?_) (fun c43 => ?_)
                  · skip
                    refine sf_guard (by omega) (fun c45 => ?_)
                    refine sf_oH (fun g44 hg44 => ?_)
                    have I_g44 : InvC g44 := by rw [hg44]; exact inv_free I_h (fS2 zS43)
                    have ex65 : g44 0 3 = h 0 3 := by rw [hg44]; exact dU_ne (by omega)
                    have yx66 := congrArg Int32.toInt ex65
                    have ex67 : g44 1 0 = h 1 0 := by rw [hg44]; exact dU_ne (by omega)
                    have yx68 := congrArg Int32.toInt ex67
                    have ex69 : g44 1 5 = h 1 5 := by rw [hg44]; exact dU_ne (by omega)
                    have yx70 := congrArg Int32.toInt ex69
                    have ex71 : g44 42 2 = h 42 2 := by rw [hg44]; exact dU_ne (by omega)
                    have yx72 := congrArg Int32.toInt ex71
                    have ex73 : g44 43 2 = h 43 2 := by rw [hg44]; exact dU_ne (by omega)
                    have yx74 := congrArg Int32.toInt ex73
                    exact sf_some (⟨I_g44, ex65, ex67, ex69, ex71, ex73, trivial⟩)
                  · skip
                    refine sf_guard (by omega) (fun c47 => ?_)
                    refine sf_oH (fun g46 hg46 => ?_)
                    have I_g46 : InvC g46 := by rw [hg46]; exact inv_free I_h (fS3 zS43)
                    have ex75 : g46 0 3 = h 0 3 := by rw [hg46]; exact dU_ne (by omega)
                    have yx76 := congrArg Int32.toInt ex75
                    have ex77 : g46 1 0 = h 1 0 := by rw [hg46]; exact dU_ne (by omega)
                    have yx78 := congrArg Int32.toInt ex77
                    have ex79 : g46 1 5 = h 1 5 := by rw [hg46]; exact dU_ne (by omega)
                    have yx80 := congrArg Int32.toInt ex79
                    have ex81 : g46 42 2 = h 42 2 := by rw [hg46]; exact dU_ne (by omega)
                    have yx82 := congrArg Int32.toInt ex81
                    have ex83 : g46 43 2 = h 43 2 := by rw [hg46]; exact dU_ne (by omega)
                    have yx84 := congrArg Int32.toInt ex83
                    exact sf_some (⟨I_g46, ex75, ex77, ex79, ex81, ex83, trivial⟩)
theorem s_X6_settle (h : dH) (I_h : InvC h) (v1 : Int32) (v2 : Int32)  : Sf (f_X6_settle v1 v2 h) (fun o => InvC o.2 ∧ o.2 0 3 = h 0 3 ∧ o.2 1 0 = h 1 0 ∧ o.2 1 5 = h 1 5 ∧ o.2 42 2 = h 42 2 ∧ True) := by
  unfold f_X6_settle
  have u_v1 := Int32.toInt_lt v1
  have w_v1 := Int32.le_toInt v1
  have u_v2 := Int32.toInt_lt v2
  have w_v2 := Int32.le_toInt v2
  refine sf_ite (fun c1 => ?_) (fun c2 => ?_)
  · skip
    exact sf_some (⟨I_h, rfl, rfl, rfl, rfl, trivial⟩)
  · skip
    refine sf_ite (fun c3 => ?_) (fun c4 => ?_)
    · skip
      refine sf_ite (fun c5 => ?_) (fun c6 => ?_)
      · skip
        exact sf_some (⟨I_h, rfl, rfl, rfl, rfl, trivial⟩)
      · skip
        refine sf_ite (fun c7 => ?_) (fun c8 => ?_)
        · skip
          have bx1 := I_h 43 2 (0) (8) rfl
          refine sf_ite (fun c9 => ?_) (fun c10 => ?_)
          · skip
            refine sf_oV (s_X3_add h I_h 43 zS43 v1 v2) (fun g11 pg11 => ?_)
            obtain ⟨I_g11, ex2, ex3, ex4, ex5, qg11⟩ := pg11
            try simp only at I_g11 ex2 ex3 ex4 ex5 qg11
            have yx6 := congrArg Int32.toInt ex2
            have yx7 := congrArg Int32.toInt ex3
            have yx8 := congrArg Int32.toInt ex4
            have yx9 := congrArg Int32.toInt ex5
            exact sf_some (⟨I_g11, ex2, ex3, ex4, ex5, trivial⟩)
          · skip
            exact sf_some (⟨I_h, rfl, rfl, rfl, rfl, trivial⟩)
        · skip
          exact sf_some (⟨I_h, rfl, rfl, rfl, rfl, trivial⟩)
    · skip
      exact sf_some (⟨I_h, rfl, rfl, rfl, rfl, trivial⟩)
theorem s_X6_house (h : dH) (I_h : InvC h) (v1 : Int32) (v2 : Int32)  : Sf (f_X6_house v1 v2 h) (fun o => InvC o.2 ∧ o.2 0 3 = h 0 3 ∧ o.2 1 0 = h 1 0 ∧ o.2 1 5 = h 1 5 ∧ o.2 42 2 = h 42 2 ∧ True) := by
  unfold f_X6_house
  have u_v1 := Int32.toInt_lt v1
  have w_v1 := Int32.le_toInt v1
  have u_v2 := Int32.toInt_lt v2
  have w_v2 := Int32.le_toInt v2
  refine sf_oI (s_X6_settle h I_h v1 v2) (fun r1 g2 pg2 => ?_)
  obtain ⟨I_g2, ex1, ex2, ex3, ex4, qg2⟩ := pg2
  try simp only at I_g2 ex1 ex2 ex3 ex4 qg2
  have yx5 := congrArg Int32.toInt ex1
  have yx6 := congrArg Int32.toInt ex2
  have yx7 := congrArg Int32.toInt ex3
  have yx8 := congrArg Int32.toInt ex4
  exact sf_some (⟨I_g2, ex1, ex2, ex3, ex4, trivial⟩)
theorem s_X6_isTwo (h : dH) (I_h : InvC h) (v1 : Int32) (v2 : Int32)  : Sf (f_X6_isTwo v1 v2 h) (fun r => r.toInt = 0 ∨ (0 ≤ v1.toInt ∧ v1.toInt ≤ 7 ∧ 0 ≤ v2.toInt ∧ v2.toInt ≤ 7)) := by
  unfold f_X6_isTwo
  have u_v1 := Int32.toInt_lt v1
  have w_v1 := Int32.le_toInt v1
  have u_v2 := Int32.toInt_lt v2
  have w_v2 := Int32.le_toInt v2
  refine sf_oP (s_X6_isHouse h I_h v1) (fun r1 pr1 => ?_)
  refine sf_ite (fun c2 => ?_) (fun c3 => ?_)
  · skip
    have tx1 : (0 : Int32).toInt = 0 := by decide
    exact sf_some ((show (0 : Int32).toInt = 0 ∨ (0 ≤ v1.toInt ∧ v1.toInt ≤ 7 ∧ 0 ≤ v2.toInt ∧ v2.toInt ≤ 7) by omega))
  · skip
    refine sf_oP (s_X6_isHouse h I_h v2) (fun r4 pr4 => ?_)
    refine sf_ite (fun c5 => ?_) (fun c6 => ?_)
    · skip
      have tx2 : (0 : Int32).toInt = 0 := by decide
      exact sf_some ((show (0 : Int32).toInt = 0 ∨ (0 ≤ v1.toInt ∧ v1.toInt ≤ 7 ∧ 0 ≤ v2.toInt ∧ v2.toInt ≤ 7) by omega))
    · skip
      refine sf_ite (fun c7 => ?_) (fun c8 => ?_)
      · skip
        have tx3 : (0 : Int32).toInt = 0 := by decide
        exact sf_some ((show (0 : Int32).toInt = 0 ∨ (0 ≤ v1.toInt ∧ v1.toInt ≤ 7 ∧ 0 ≤ v2.toInt ∧ v2.toInt ≤ 7) by omega))
      · skip
        have tx4 : (1 : Int32).toInt = 1 := by decide
        exact sf_some ((show (1 : Int32).toInt = 0 ∨ (0 ≤ v1.toInt ∧ v1.toInt ≤ 7 ∧ 0 ≤ v2.toInt ∧ v2.toInt ≤ 7) by omega))
theorem s_X6_bind (h : dH) (I_h : InvC h) (v1 : Int32) (v2 : Int32) (v3 : Int32)  : Sf (f_X6_bind v1 v2 v3 h) (fun o => InvC o.2 ∧ o.2 0 3 = h 0 3 ∧ o.2 1 0 = h 1 0 ∧ o.2 1 5 = h 1 5 ∧ o.2 42 2 = h 42 2 ∧ o.2 43 2 = h 43 2 ∧ True) := by
  unfold f_X6_bind
  have u_v1 := Int32.toInt_lt v1
  have w_v1 := Int32.le_toInt v1
  have u_v2 := Int32.toInt_lt v2
  have w_v2 := Int32.le_toInt v2
  have u_v3 := Int32.toInt_lt v3
  have w_v3 := Int32.le_toInt v3
  refine sf_oP (s_X6_isTwo h I_h v1 v2) (fun r1 pr1 => ?_)
  refine sf_ite (fun c2 => ?_) (fun c3 => ?_)
  · skip
    exact sf_some (⟨I_h, rfl, rfl, rfl, rfl, rfl, trivial⟩)
  · skip
    refine sf_ite (fun c4 => ?_) (fun c5 => ?_)
    · skip
      exact sf_some (⟨I_h, rfl, rfl, rfl, rfl, rfl, trivial⟩)
    · skip
      refine sf_ite (fun c6 => ?_) (fun c7 => ?_)
      · skip
        exact sf_some (⟨I_h, rfl, rfl, rfl, rfl, rfl, trivial⟩)
      · skip
        refine sf_guard (by omega) (fun c8 => ?_)
        refine sf_guard (by omega) (fun c9 => ?_)
        refine sf_oV (s_X3_tie h I_h 43 zS43 v1 v2 v3 (by omega) (by omega)) (fun g10 pg10 => ?_)
        obtain ⟨I_g10, ex1, ex2, ex3, ex4, ex5, qg10⟩ := pg10
        try simp only at I_g10 ex1 ex2 ex3 ex4 ex5 qg10
        have yx6 := congrArg Int32.toInt ex1
        have yx7 := congrArg Int32.toInt ex2
        have yx8 := congrArg Int32.toInt ex3
        have yx9 := congrArg Int32.toInt ex4
        have yx10 := congrArg Int32.toInt ex5
        exact sf_some (⟨I_g10, ex1, ex2, ex3, ex4, ex5, trivial⟩)
theorem s_X6_told (h : dH) (I_h : InvC h) (v1 : Int32) (v2 : Int32)  : Sf (f_X6_told v1 v2 h) (fun o => InvC o.2 ∧ o.2 0 3 = h 0 3 ∧ o.2 1 0 = h 1 0 ∧ o.2 1 5 = h 1 5 ∧ o.2 42 2 = h 42 2 ∧ o.2 43 2 = h 43 2 ∧ True) := by
  unfold f_X6_told
  have u_v1 := Int32.toInt_lt v1
  have w_v1 := Int32.le_toInt v1
  have u_v2 := Int32.toInt_lt v2
  have w_v2 := Int32.le_toInt v2
  refine sf_ite (fun c1 => ?_) (fun c2 => ?_)
  · skip
    refine sf_oP (s_X6_setting h I_h v2 v1 (by omega)) (fun r3 pr3 => ?_)
    exact sf_some (⟨I_h, rfl, rfl, rfl, rfl, rfl, trivial⟩)
  · skip
    refine sf_ite (fun c4 => ?_) (fun c5 => ?_)
    · skip
      refine sf_oP (s_X6_setting h I_h v2 v1 (by omega)) (fun r6 pr6 => ?_)
      exact sf_some (⟨I_h, rfl, rfl, rfl, rfl, rfl, trivial⟩)
    · skip
      refine sf_oP (s_X6_isHouse h I_h v1) (fun r7 pr7 => ?_)
      refine sf_ite (fun c8 => ?_) (fun c9 => ?_)
      · skip
        exact sf_some (⟨I_h, rfl, rfl, rfl, rfl, rfl, trivial⟩)
      · skip
        refine sf_ite (fun c10 => ?_) (fun c11 => ?_)
        · skip
          refine sf_oP (s_X6_setting h I_h v2 v1 (by omega)) (fun r12 pr12 => ?_)
          exact sf_some (⟨I_h, rfl, rfl, rfl, rfl, rfl, trivial⟩)
        · skip
          refine sf_ite (fun c13 => ?_) (fun c14 => ?_)
          · skip
            refine sf_oP (s_X6_setting h I_h v2 v1 (by omega)) (fun r15 pr15 => ?_)
            exact sf_some (⟨I_h, rfl, rfl, rfl, rfl, rfl, trivial⟩)
          · skip
            refine sf_ite (fun c16 => ?_) (fun c17 => ?_)
            · skip
              refine sf_guard (by omega) (fun c18 => ?_)
              exact sf_some (⟨I_h, rfl, rfl, rfl, rfl, rfl, trivial⟩)
            · skip
              refine sf_ite (fun c19 => ?_) (fun c20 => ?_)
              · skip
                refine sf_oP (s_X3_acquaintances h I_h 43 zS43 v1 (by omega)) (fun r21 pr21 => ?_)
                exact sf_some (⟨I_h, rfl, rfl, rfl, rfl, rfl, trivial⟩)
              · skip
                refine sf_ite (fun c22 => ?_) (fun c23 => ?_)
                · skip
                  refine sf_guard (by omega) (fun c24 => ?_)
                  refine sf_oP (s_X3_seatsAt h I_h 43 zS43 (h (43 + 3) (v1.toInt.toNat))) (fun r25 pr25 => ?_)
                  exact sf_some (⟨I_h, rfl, rfl, rfl, rfl, rfl, trivial⟩)
                · skip
                  refine sf_ite (fun c26 => ?_) (fun c27 => ?_)
                  · skip
                    refine sf_oI (s_X3_sounds h I_h 43 zS43 v1 (by omega)) (fun r28 g29 pg29 => ?_)
                    obtain ⟨I_g29, ex1, ex2, ex3, ex4, ex5, qg29⟩ := pg29
                    try simp only at I_g29 ex1 ex2 ex3 ex4 ex5 qg29
                    have yx6 := congrArg Int32.toInt ex1
                    have yx7 := congrArg Int32.toInt ex2
                    have yx8 := congrArg Int32.toInt ex3
                    have yx9 := congrArg Int32.toInt ex4
                    have yx10 := congrArg Int32.toInt ex5
                    exact sf_some (⟨I_g29, ex1, ex2, ex3, ex4, ex5, trivial⟩)
                  · skip
                    try have tx11 : (v2 - 10).toInt = v2.toInt - 10 := i_sub rfl (by decide) (by omega) (by omega)
                    refine sf_oP (s_X6_isHouse h I_h (v2 - 10)) (fun r30 pr30 => ?_)
                    refine sf_ite (fun c31 => ?_) (fun c32 => ?_)
                    · skip
                      exact sf_some (⟨I_h, rfl, rfl, rfl, rfl, rfl, trivial⟩)
                    · skip
                      refine sf_guard (by omega) (fun c33 => ?_)
                      refine sf_guard (by omega) (fun c34 => ?_)
                      exact sf_some (⟨I_h, rfl, rfl, rfl, rfl, rfl, trivial⟩)
theorem s_X6_feed (h : dH) (I_h : InvC h) (v1 : Int32)  : Sf (f_X6_feed v1 h) (fun o => InvC o.2 ∧ o.2 0 3 = h 0 3 ∧ o.2 1 5 = h 1 5 ∧ o.2 42 2 = h 42 2 ∧ o.2 43 2 = h 43 2 ∧ True) := by
  unfold f_X6_feed
  have u_v1 := Int32.toInt_lt v1
  have w_v1 := Int32.le_toInt v1
  refine sf_ite (fun c1 => ?_) (fun c2 => ?_)
  · skip
    exact sf_some (⟨I_h, rfl, rfl, rfl, rfl, trivial⟩)
  · skip
    refine sf_ite (fun c3 => ?_) (fun c4 => ?_)
    · skip
      exact sf_some (⟨I_h, rfl, rfl, rfl, rfl, trivial⟩)
    · skip
      refine sf_oI (s_X4_put h I_h v1) (fun r5 g6 pg6 => ?_)
      obtain ⟨I_g6, ex1, ex2, ex3, ex4, qg6⟩ := pg6
      try simp only at I_g6 ex1 ex2 ex3 ex4 qg6
      have yx5 := congrArg Int32.toInt ex1
      have yx6 := congrArg Int32.toInt ex2
      have yx7 := congrArg Int32.toInt ex3
      have yx8 := congrArg Int32.toInt ex4
      refine sf_ite (fun c7 => ?_) (fun c8 => ?_)
      · skip
        exact sf_some (⟨I_g6, ex1, ex2, ex3, ex4, trivial⟩)
      · skip
        exact sf_some (⟨I_g6, ex1, ex2, ex3, ex4, trivial⟩)
theorem s_X6_text (h : dH) (I_h : InvC h)   : Sf (f_X6_text  h) (fun o => InvC o.2 ∧ o.2 43 2 = h 43 2 ∧ True) := by
  unfold f_X6_text
  have bx1 := I_h 0 3 (0) (6) rfl
  refine sf_ite (fun c1 => ?_) (fun c2 => ?_)
  · skip
    refine sf_guard (by omega) (fun c3 => ?_)
    refine sf_oI (s_X1_readInto h I_h (10 + 4 * (h 0 3).toInt.toNat) (zT6 (by omega : (h 0 3).toInt.toNat < 6))) (fun r4 g5 pg5 => ?_)
    obtain ⟨I_g5, ex2, ex3, ex4, qg5⟩ := pg5
    try simp only at I_g5 ex2 ex3 ex4 qg5
    have yx5 := congrArg Int32.toInt ex2
    have yx6 := congrArg Int32.toInt ex3
    have yx7 := congrArg Int32.toInt ex4
    refine sf_oV (s_X4_empty g5 I_g5 ) (fun g6 pg6 => ?_)
    obtain ⟨I_g6, ex8, ex9, ex10, ex11, qg6⟩ := pg6
    try simp only at I_g6 ex8 ex9 ex10 ex11 qg6
    have yx12 := congrArg Int32.toInt ex8
    have yx13 := congrArg Int32.toInt ex9
    have yx14 := congrArg Int32.toInt ex10
    have yx15 := congrArg Int32.toInt ex11
    refine sf_ite (fun c7 => ?_) (fun c8 => ?_)
    · skip
      have bx16 := I_g6 0 3 (0) (6) rfl
      try have tx17 : ((g6 0 3) + 1).toInt = (g6 0 3).toInt + 1 := i_add rfl (by decide) (by omega) (by omega)
      refine sf_oH (fun g9 hg9 => ?_)
      have I_g9 : InvC g9 := by rw [hg9]; exact inv_set (l := 0) (u := 6) I_g6 rfl (by omega)
      have ex18 : g9 1 0 = g6 1 0 := by rw [hg9]; exact dU_ne (by omega)
      have yx19 := congrArg Int32.toInt ex18
      have ex20 : g9 1 5 = g6 1 5 := by rw [hg9]; exact dU_ne (by omega)
      have yx21 := congrArg Int32.toInt ex20
      have ex22 : g9 42 2 = g6 42 2 := by rw [hg9]; exact dU_ne (by omega)
      have yx23 := congrArg Int32.toInt ex22
      have ex24 : g9 43 2 = g6 43 2 := by rw [hg9]; exact dU_ne (by omega)
      have yx25 := congrArg Int32.toInt ex24
      have yx26 : (g9 0 3).toInt = ((g6 0 3) + 1).toInt := by rw [hg9, dU_eq]
      exact sf_some (⟨I_g9, (ex24.trans (ex11.trans ex4)), trivial⟩)
    · skip
      exact sf_some (⟨I_g6, (ex11.trans ex4), trivial⟩)
  · skip
    exact sf_some (⟨I_h, rfl, trivial⟩)
theorem s_X6_force (h : dH) (I_h : InvC h) (v1 : Int32)  : Sf (f_X6_force v1 h) (fun o => InvC o.2 ∧ o.2 0 3 = h 0 3 ∧ o.2 1 0 = h 1 0 ∧ o.2 1 5 = h 1 5 ∧ o.2 42 2 = h 42 2 ∧ o.2 43 2 = h 43 2 ∧ True) := by
  unfold f_X6_force
  have u_v1 := Int32.toInt_lt v1
  have w_v1 := Int32.le_toInt v1
  refine sf_ite (fun c1 => ?_) (fun c2 => ?_)
  · skip
    exact sf_some (⟨I_h, rfl, rfl, rfl, rfl, rfl, trivial⟩)
  · skip
    have bx1 := I_h 0 3 (0) (6) rfl
    refine sf_ite (fun c3 => ?_) (fun c4 => ?_)
    · skip
      refine sf_guard (by omega) (fun c5 => ?_)
      refine sf_oH (fun g6 hg6 => ?_)
      have I_g6 : InvC g6 := by rw [hg6]; exact inv_free I_h rfl
      have ex2 : g6 0 3 = h 0 3 := by rw [hg6]; exact dU_ne (by omega)
      have yx3 := congrArg Int32.toInt ex2
      have ex4 : g6 1 0 = h 1 0 := by rw [hg6]; exact dU_ne (by omega)
      have yx5 := congrArg Int32.toInt ex4
      have ex6 : g6 1 5 = h 1 5 := by rw [hg6]; exact dU_ne (by omega)
      have yx7 := congrArg Int32.toInt ex6
      have ex8 : g6 42 2 = h 42 2 := by rw [hg6]; exact dU_ne (by omega)
      have yx9 := congrArg Int32.toInt ex8
      have ex10 : g6 43 2 = h 43 2 := by rw [hg6]; exact dU_ne (by omega)
      have yx11 := congrArg Int32.toInt ex10
      exact sf_some (⟨I_g6, ex2, ex4, ex6, ex8, ex10, trivial⟩)
    · skip
      exact sf_some (⟨I_h, rfl, rfl, rfl, rfl, rfl, trivial⟩)
theorem s_X6_isEither (h : dH) (I_h : InvC h) (v0 : Int32)  : Sf (f_X6_isEither v0) (fun r => r.toInt = 0 ∨ (0 ≤ v0.toInt ∧ v0.toInt ≤ 1)) := by
  unfold f_X6_isEither
  have u_v0 := Int32.toInt_lt v0
  have w_v0 := Int32.le_toInt v0
  refine sf_ite (fun c1 => ?_) (fun c2 => ?_)
  · skip
    have tx1 : (1 : Int32).toInt = 1 := by decide
    exact sf_some ((show (1 : Int32).toInt = 0 ∨ (0 ≤ v0.toInt ∧ v0.toInt ≤ 1) by omega))
  · skip
    refine sf_ite (fun c3 => ?_) (fun c4 => ?_)
    · skip
      have tx2 : (1 : Int32).toInt = 1 := by decide
      exact sf_some ((show (1 : Int32).toInt = 0 ∨ (0 ≤ v0.toInt ∧ v0.toInt ≤ 1) by omega))
    · skip
      have tx3 : (0 : Int32).toInt = 0 := by decide
      exact sf_some ((show (0 : Int32).toInt = 0 ∨ (0 ≤ v0.toInt ∧ v0.toInt ≤ 1) by omega))
theorem s_X6_asks (h : dH) (I_h : InvC h) (v1 : Int32) (v2 : Int32) (v3 : Int32)  : Sf (f_X6_asks v1 v2 v3 h) (fun o => InvC o.2 ∧ o.2 0 3 = h 0 3 ∧ o.2 1 0 = h 1 0 ∧ o.2 1 5 = h 1 5 ∧ o.2 42 2 = h 42 2 ∧ o.2 43 2 = h 43 2 ∧ True) := by
  unfold f_X6_asks
  have u_v1 := Int32.toInt_lt v1
  have w_v1 := Int32.le_toInt v1
  have u_v2 := Int32.toInt_lt v2
  have w_v2 := Int32.le_toInt v2
  have u_v3 := Int32.toInt_lt v3
  have w_v3 := Int32.le_toInt v3
  refine sf_oP (s_X6_isTwo h I_h v1 v2) (fun r1 pr1 => ?_)
  refine sf_ite (fun c2 => ?_) (fun c3 => ?_)
  · skip
    exact sf_some (⟨I_h, rfl, rfl, rfl, rfl, rfl, trivial⟩)
  · skip
    refine sf_oP (s_X6_isEither h I_h v3) (fun r4 pr4 => ?_)
    refine sf_ite (fun c5 => ?_) (fun c6 => ?_)
    · skip
      exact sf_some (⟨I_h, rfl, rfl, rfl, rfl, rfl, trivial⟩)
    · skip
      refine sf_ite (fun c7 => ?_) (fun c8 => ?_)
      · skip
        refine sf_oI (s_X3_meets h I_h 43 zS43 v1 v2 (by omega) (by omega)) (fun r9 g10 pg10 => ?_)
        obtain ⟨I_g10, ex1, ex2, ex3, ex4, ex5, qg10⟩ := pg10
        try simp only at I_g10 ex1 ex2 ex3 ex4 ex5 qg10
        have yx6 := congrArg Int32.toInt ex1
        have yx7 := congrArg Int32.toInt ex2
        have yx8 := congrArg Int32.toInt ex3
        have yx9 := congrArg Int32.toInt ex4
        have yx10 := congrArg Int32.toInt ex5
        exact sf_some (⟨I_g10, ex1, ex2, ex3, ex4, ex5, trivial⟩)
      · skip
        refine sf_oI (s_X3_forgets h I_h 43 zS43 v1 v2 (by omega) (by omega)) (fun r11 g12 pg12 => ?_)
        obtain ⟨I_g12, ex11, ex12, ex13, ex14, ex15, qg12⟩ := pg12
        try simp only at I_g12 ex11 ex12 ex13 ex14 ex15 qg12
        have yx16 := congrArg Int32.toInt ex11
        have yx17 := congrArg Int32.toInt ex12
        have yx18 := congrArg Int32.toInt ex13
        have yx19 := congrArg Int32.toInt ex14
        have yx20 := congrArg Int32.toInt ex15
        exact sf_some (⟨I_g12, ex11, ex12, ex13, ex14, ex15, trivial⟩)
theorem s_X6_feast (h : dH) (I_h : InvC h)   : Sf (f_X6_feast  h) (fun o => InvC o.2 ∧ o.2 0 3 = h 0 3 ∧ o.2 1 0 = h 1 0 ∧ o.2 1 5 = h 1 5 ∧ o.2 42 2 = h 42 2 ∧ o.2 43 2 = h 43 2 ∧ True) := by
  unfold f_X6_feast
  refine sf_oV (s_X3_holdFeast h I_h 43 zS43) (fun g1 pg1 => ?_)
  obtain ⟨I_g1, ex1, ex2, ex3, ex4, ex5, qg1⟩ := pg1
  try simp only at I_g1 ex1 ex2 ex3 ex4 ex5 qg1
  have yx6 := congrArg Int32.toInt ex1
  have yx7 := congrArg Int32.toInt ex2
  have yx8 := congrArg Int32.toInt ex3
  have yx9 := congrArg Int32.toInt ex4
  have yx10 := congrArg Int32.toInt ex5
  refine sf_oP (s_X3_friends g1 I_g1 43 zS43) (fun r2 pr2 => ?_)
  exact sf_some (⟨I_g1, ex1, ex2, ex3, ex4, ex5, trivial⟩)
theorem s_X6_year (h : dH) (I_h : InvC h)   : Sf (f_X6_year  h) (fun o => InvC o.2 ∧ o.2 0 3 = h 0 3 ∧ o.2 1 0 = h 1 0 ∧ o.2 1 5 = h 1 5 ∧ o.2 42 2 = h 42 2 ∧ o.2 43 2 = h 43 2 ∧ True) := by
  unfold f_X6_year
  refine sf_ite (fun c1 => ?_) (fun c2 => ?_)
  · skip
    refine sf_oV (s_X3_endYear h I_h 43 zS43) (fun g3 pg3 => ?_)
    obtain ⟨I_g3, ex1, ex2, ex3, ex4, ex5, qg3⟩ := pg3
    try simp only at I_g3 ex1 ex2 ex3 ex4 ex5 qg3
    have yx6 := congrArg Int32.toInt ex1
    have yx7 := congrArg Int32.toInt ex2
    have yx8 := congrArg Int32.toInt ex3
    have yx9 := congrArg Int32.toInt ex4
    have yx10 := congrArg Int32.toInt ex5
    refine sf_oP (s_X3_friends g3 I_g3 43 zS43) (fun r4 pr4 => ?_)
    exact sf_some (⟨I_g3, ex1, ex2, ex3, ex4, ex5, trivial⟩)
  · skip
    exact sf_some (⟨I_h, rfl, rfl, rfl, rfl, rfl, trivial⟩)
theorem s_X6_figure (h : dH) (I_h : InvC h) (a1 : Nat) (ha1 : zS a1) (v2 : Int32)  : Sf (f_X6_figure a1 v2 h) (fun o => InvC o.2 ∧ o.2 0 3 = h 0 3 ∧ o.2 1 0 = h 1 0 ∧ o.2 1 5 = h 1 5 ∧ o.2 42 2 = h 42 2 ∧ o.2 43 2 = h 43 2 ∧ True) := by
  unfold f_X6_figure
  have z_a1 : a1 = 43 ∨ a1 = 57 ∨ a1 = 71 := ha1
  have u_v2 := Int32.toInt_lt v2
  have w_v2 := Int32.le_toInt v2
  refine sf_oV (s_X0_see h I_h a1 ha1) (fun g1 pg1 => ?_)
  obtain ⟨I_g1, ex1, ex2, ex3, ex4, ex5, qg1⟩ := pg1
  try simp only at I_g1 ex1 ex2 ex3 ex4 ex5 qg1
  have yx6 := congrArg Int32.toInt ex1
  have yx7 := congrArg Int32.toInt ex2
  have yx8 := congrArg Int32.toInt ex3
  have yx9 := congrArg Int32.toInt ex4
  have yx10 := congrArg Int32.toInt ex5
  refine sf_ite (fun c2 => ?_) (fun c3 => ?_)
  · skip
    refine sf_oP (s_X3_friends g1 I_g1 a1 ha1) (fun r4 pr4 => ?_)
    exact sf_some (⟨I_g1, ex1, ex2, ex3, ex4, ex5, trivial⟩)
  · skip
    refine sf_ite (fun c5 => ?_) (fun c6 => ?_)
    · skip
      refine sf_oP (s_X0_everyone g1 I_g1 ) (fun r7 pr7 => ?_)
      refine sf_oP (s_X0_companies g1 I_g1 r7) (fun r8 pr8 => ?_)
      exact sf_some (⟨I_g1, ex1, ex2, ex3, ex4, ex5, trivial⟩)
    · skip
      refine sf_ite (fun c9 => ?_) (fun c10 => ?_)
      · skip
        refine sf_oP (s_X0_largestCompany g1 I_g1 ) (fun r11 pr11 => ?_)
        exact sf_some (⟨I_g1, ex1, ex2, ex3, ex4, ex5, trivial⟩)
      · skip
        refine sf_ite (fun c12 => ?_) (fun c13 => ?_)
        · skip
          refine sf_oP (s_X3_allStrength g1 I_g1 a1 ha1) (fun r14 pr14 => ?_)
          exact sf_some (⟨I_g1, ex1, ex2, ex3, ex4, ex5, trivial⟩)
        · skip
          refine sf_ite (fun c15 => ?_) (fun c16 => ?_)
          · skip
            have tx11 : (0 : Int32).toInt = 0 := by decide
            refine sf_oP (s_X0_longestWay g1 I_g1 (0 : Int32)) (fun r17 pr17 => ?_)
            exact sf_some (⟨I_g1, ex1, ex2, ex3, ex4, ex5, trivial⟩)
          · skip
            refine sf_oI (s_X3_quietTable g1 I_g1 a1 ha1) (fun r18 g19 pg19 => ?_)
            obtain ⟨I_g19, ex12, ex13, ex14, ex15, ex16, qg19⟩ := pg19
            try simp only at I_g19 ex12 ex13 ex14 ex15 ex16 qg19
            have yx17 := congrArg Int32.toInt ex12
            have yx18 := congrArg Int32.toInt ex13
            have yx19 := congrArg Int32.toInt ex14
            have yx20 := congrArg Int32.toInt ex15
            have yx21 := congrArg Int32.toInt ex16
            exact sf_some (⟨I_g19, (ex12.trans ex1), (ex13.trans ex2), (ex14.trans ex3), (ex15.trans ex4), (ex16.trans ex5), trivial⟩)
theorem s_X6_street (h : dH) (I_h : InvC h) (v1 : Int32)  : Sf (f_X6_street v1 h) (fun o => InvC o.2 ∧ o.2 0 3 = h 0 3 ∧ o.2 1 0 = h 1 0 ∧ o.2 1 5 = h 1 5 ∧ o.2 42 2 = h 42 2 ∧ o.2 43 2 = h 43 2 ∧ True) := by
  unfold f_X6_street
  have u_v1 := Int32.toInt_lt v1
  have w_v1 := Int32.le_toInt v1
  refine sf_ite (fun c1 => ?_) (fun c2 => ?_)
  · skip
    exact sf_some (⟨I_h, rfl, rfl, rfl, rfl, rfl, trivial⟩)
  · skip
    refine sf_ite (fun c3 => ?_) (fun c4 => ?_)
    · skip
      exact sf_some (⟨I_h, rfl, rfl, rfl, rfl, rfl, trivial⟩)
    · skip
      refine sf_oI (s_X6_figure h I_h 43 zS43 v1) (fun r5 g6 pg6 => ?_)
      obtain ⟨I_g6, ex1, ex2, ex3, ex4, ex5, qg6⟩ := pg6
      try simp only at I_g6 ex1 ex2 ex3 ex4 ex5 qg6
      have yx6 := congrArg Int32.toInt ex1
      have yx7 := congrArg Int32.toInt ex2
      have yx8 := congrArg Int32.toInt ex3
      have yx9 := congrArg Int32.toInt ex4
      have yx10 := congrArg Int32.toInt ex5
      exact sf_some (⟨I_g6, ex1, ex2, ex3, ex4, ex5, trivial⟩)
theorem s_X6_way (h : dH) (I_h : InvC h) (v1 : Int32) (v2 : Int32)  : Sf (f_X6_way v1 v2 h) (fun o => InvC o.2 ∧ o.2 0 3 = h 0 3 ∧ o.2 1 0 = h 1 0 ∧ o.2 1 5 = h 1 5 ∧ o.2 42 2 = h 42 2 ∧ o.2 43 2 = h 43 2 ∧ True) := by
  unfold f_X6_way
  have u_v1 := Int32.toInt_lt v1
  have w_v1 := Int32.le_toInt v1
  have u_v2 := Int32.toInt_lt v2
  have w_v2 := Int32.le_toInt v2
  refine sf_oP (s_X6_isHouse h I_h v1) (fun r1 pr1 => ?_)
  refine sf_ite (fun c2 => ?_) (fun c3 => ?_)
  · skip
    exact sf_some (⟨I_h, rfl, rfl, rfl, rfl, rfl, trivial⟩)
  · skip
    refine sf_oP (s_X6_isHouse h I_h v2) (fun r4 pr4 => ?_)
    refine sf_ite (fun c5 => ?_) (fun c6 => ?_)
    · skip
      exact sf_some (⟨I_h, rfl, rfl, rfl, rfl, rfl, trivial⟩)
    · skip
      refine sf_oV (s_X0_see h I_h 43 zS43) (fun g7 pg7 => ?_)
      obtain ⟨I_g7, ex1, ex2, ex3, ex4, ex5, qg7⟩ := pg7
      try simp only at I_g7 ex1 ex2 ex3 ex4 ex5 qg7
      have yx6 := congrArg Int32.toInt ex1
      have yx7 := congrArg Int32.toInt ex2
      have yx8 := congrArg Int32.toInt ex3
      have yx9 := congrArg Int32.toInt ex4
      have yx10 := congrArg Int32.toInt ex5
      refine sf_oP (s_X0_distance g7 I_g7 v1 v2) (fun r8 pr8 => ?_)
      exact sf_some (⟨I_g7, ex1, ex2, ex3, ex4, ex5, trivial⟩)
theorem s_X6_isYears (h : dH) (I_h : InvC h) (v0 : Int32)  : Sf (f_X6_isYears v0) (fun r => r.toInt = 0 ∨ (0 ≤ v0.toInt ∧ v0.toInt ≤ 20)) := by
  unfold f_X6_isYears
  have u_v0 := Int32.toInt_lt v0
  have w_v0 := Int32.le_toInt v0
  refine sf_ite (fun c1 => ?_) (fun c2 => ?_)
  · skip
    have tx1 : (0 : Int32).toInt = 0 := by decide
    exact sf_some ((show (0 : Int32).toInt = 0 ∨ (0 ≤ v0.toInt ∧ v0.toInt ≤ 20) by omega))
  · skip
    refine sf_ite (fun c3 => ?_) (fun c4 => ?_)
    · skip
      have tx2 : (0 : Int32).toInt = 0 := by decide
      exact sf_some ((show (0 : Int32).toInt = 0 ∨ (0 ≤ v0.toInt ∧ v0.toInt ≤ 20) by omega))
    · skip
      have tx3 : (1 : Int32).toInt = 1 := by decide
      exact sf_some ((show (1 : Int32).toInt = 0 ∨ (0 ≤ v0.toInt ∧ v0.toInt ≤ 20) by omega))
theorem s_X6_run (h : dH) (I_h : InvC h) (v1 : Int32) (v2 : Int32)  : Sf (f_X6_run v1 v2 h) (fun o => InvC o.2 ∧ o.2 0 3 = h 0 3 ∧ o.2 1 0 = h 1 0 ∧ o.2 1 5 = h 1 5 ∧ o.2 42 2 = h 42 2 ∧ True) := by
  unfold f_X6_run
  have u_v1 := Int32.toInt_lt v1
  have w_v1 := Int32.le_toInt v1
  have u_v2 := Int32.toInt_lt v2
  have w_v2 := Int32.le_toInt v2
  refine sf_oP (s_X6_isYears h I_h v1) (fun r1 pr1 => ?_)
  refine sf_ite (fun c2 => ?_) (fun c3 => ?_)
  · skip
    exact sf_some (⟨I_h, rfl, rfl, rfl, rfl, trivial⟩)
  · skip
    refine sf_ite (fun c4 => ?_) (fun c5 => ?_)
    · skip
      exact sf_some (⟨I_h, rfl, rfl, rfl, rfl, trivial⟩)
    · skip
      refine sf_ite (fun c6 => ?_) (fun c7 => ?_)
      · skip
        exact sf_some (⟨I_h, rfl, rfl, rfl, rfl, trivial⟩)
      · skip
        refine sf_oV (s_X3_become h I_h 57 zS57 43 zS43) (fun g8 pg8 => ?_)
        obtain ⟨I_g8, ex1, ex2, ex3, ex4, qg8⟩ := pg8
        try simp only at I_g8 ex1 ex2 ex3 ex4 qg8
        have yx5 := congrArg Int32.toInt ex1
        have yx6 := congrArg Int32.toInt ex2
        have yx7 := congrArg Int32.toInt ex3
        have yx8 := congrArg Int32.toInt ex4
        refine sf_oI (s_X3_pass g8 I_g8 57 zS57 v1 (by omega)) (fun r9 g10 pg10 => ?_)
        obtain ⟨I_g10, ex9, ex10, ex11, ex12, ex13, qg10⟩ := pg10
        try simp only at I_g10 ex9 ex10 ex11 ex12 ex13 qg10
        have yx14 := congrArg Int32.toInt ex9
        have yx15 := congrArg Int32.toInt ex10
        have yx16 := congrArg Int32.toInt ex11
        have yx17 := congrArg Int32.toInt ex12
        have yx18 := congrArg Int32.toInt ex13
        refine sf_oI (s_X6_figure g10 I_g10 57 zS57 v2) (fun r11 g12 pg12 => ?_)
        obtain ⟨I_g12, ex19, ex20, ex21, ex22, ex23, qg12⟩ := pg12
        try simp only at I_g12 ex19 ex20 ex21 ex22 ex23 qg12
        have yx24 := congrArg Int32.toInt ex19
        have yx25 := congrArg Int32.toInt ex20
        have yx26 := congrArg Int32.toInt ex21
        have yx27 := congrArg Int32.toInt ex22
        have yx28 := congrArg Int32.toInt ex23
        exact sf_some (⟨I_g12, (ex19.trans (ex9.trans ex1)), (ex20.trans (ex10.trans ex2)), (ex21.trans (ex11.trans ex3)), (ex22.trans (ex12.trans ex4)), trivial⟩)
theorem s_X6_isFriends (h : dH) (I_h : InvC h) (v0 : Int32)  : Sf (f_X6_isFriends v0) (fun r => r.toInt = 0 ∨ (0 ≤ v0.toInt ∧ v0.toInt ≤ 28)) := by
  unfold f_X6_isFriends
  have u_v0 := Int32.toInt_lt v0
  have w_v0 := Int32.le_toInt v0
  refine sf_ite (fun c1 => ?_) (fun c2 => ?_)
  · skip
    have tx1 : (0 : Int32).toInt = 0 := by decide
    exact sf_some ((show (0 : Int32).toInt = 0 ∨ (0 ≤ v0.toInt ∧ v0.toInt ≤ 28) by omega))
  · skip
    refine sf_ite (fun c3 => ?_) (fun c4 => ?_)
    · skip
      have tx2 : (0 : Int32).toInt = 0 := by decide
      exact sf_some ((show (0 : Int32).toInt = 0 ∨ (0 ≤ v0.toInt ∧ v0.toInt ≤ 28) by omega))
    · skip
      have tx3 : (1 : Int32).toInt = 1 := by decide
      exact sf_some ((show (1 : Int32).toInt = 0 ∨ (0 ≤ v0.toInt ∧ v0.toInt ≤ 28) by omega))
theorem sl_X6_takes_31 (v1 : Int32)  (h0 : dH) (I_h0 : InvC h0)  (k : Int32 → Int32 → dH → Option (Int32 × dH)) (Q : Int32 × dH → Prop) (hk : ∀ (v2 : Int32) (v3 : Int32) (g : dH) (Ig : InvC g) (e0 : g 0 3 = h0 0 3) (e1 : g 1 0 = h0 1 0) (e2 : g 1 5 = h0 1 5) (e3 : g 42 2 = h0 42 2) (e4 : g 43 2 = h0 43 2), 0 ≤ v3.toInt ∧ v3.toInt ≤ 20 → Sf (k v2 v3 g) Q)  : ∀ (n : Nat) (v2 : Int32) (v3 : Int32) (h : dH) (I_h : InvC h) (e0 : h 0 3 = h0 0 3) (e1 : h 1 0 = h0 1 0) (e2 : h 1 5 = h0 1 5) (e3 : h 42 2 = h0 42 2) (e4 : h 43 2 = h0 43 2), 0 ≤ v3.toInt ∧ v3.toInt ≤ 20 → 20 - v3.toInt < (n : Int) → Sf (l_X6_takes_31 v1 k n v2 v3 h) Q
  | 0, v2, v3, h, I_h, e0, e1, e2, e3, e4, hi, hm => by omega
  | n + 1, v2, v3, h, I_h, e0, e1, e2, e3, e4, hi, hm => by
    rw [l_X6_takes_31]
    have yx9 := congrArg Int32.toInt e0
    have yx10 := congrArg Int32.toInt e1
    have yx11 := congrArg Int32.toInt e2
    have yx12 := congrArg Int32.toInt e3
    have yx13 := congrArg Int32.toInt e4
    refine sf_ite (fun c6 => ?_) (fun c7 => ?_)
    · skip
      refine sf_ite (fun c8 => ?_) (fun c9 => ?_)
      · skip
        have tx14 : (1 : Int32).toInt = 1 := by decide
        refine sf_oI (s_X3_pass h I_h 57 zS57 (1 : Int32) (by omega)) (fun r10 g11 pg11 => ?_)
        obtain ⟨I_g11, ex15, ex16, ex17, ex18, ex19, qg11⟩ := pg11
        try simp only at I_g11 ex15 ex16 ex17 ex18 ex19 qg11
        have yx20 := congrArg Int32.toInt ex15
        have yx21 := congrArg Int32.toInt ex16
        have yx22 := congrArg Int32.toInt ex17
        have yx23 := congrArg Int32.toInt ex18
        have yx24 := congrArg Int32.toInt ex19
        try have tx25 : (v3 + 1).toInt = v3.toInt + 1 := i_add rfl (by decide) (by omega) (by omega)
        exact sl_X6_takes_31  v1  h0 I_h0  k Q hk n r10 (v3 + 1) g11 I_g11 (ex15.trans e0) (ex16.trans e1) (ex17.trans e2) (ex18.trans e3) (ex19.trans e4) (by first | trivial | omega) (by omega)
      · skip
        exact hk v2 v3 h I_h e0 e1 e2 e3 e4 (by first | trivial | omega)
    · skip
      exact hk v2 v3 h I_h e0 e1 e2 e3 e4 (by first | trivial | omega)
theorem s_X6_takes (h : dH) (I_h : InvC h) (v1 : Int32)  : Sf (f_X6_takes v1 h) (fun o => InvC o.2 ∧ o.2 0 3 = h 0 3 ∧ o.2 1 0 = h 1 0 ∧ o.2 1 5 = h 1 5 ∧ o.2 42 2 = h 42 2 ∧ True) := by
  unfold f_X6_takes
  have u_v1 := Int32.toInt_lt v1
  have w_v1 := Int32.le_toInt v1
  refine sf_oP (s_X6_isFriends h I_h v1) (fun r1 pr1 => ?_)
  refine sf_ite (fun c2 => ?_) (fun c3 => ?_)
  · skip
    exact sf_some (⟨I_h, rfl, rfl, rfl, rfl, trivial⟩)
  · skip
    refine sf_oV (s_X3_become h I_h 57 zS57 43 zS43) (fun g4 pg4 => ?_)
    obtain ⟨I_g4, ex1, ex2, ex3, ex4, qg4⟩ := pg4
    try simp only at I_g4 ex1 ex2 ex3 ex4 qg4
    have yx5 := congrArg Int32.toInt ex1
    have yx6 := congrArg Int32.toInt ex2
    have yx7 := congrArg Int32.toInt ex3
    have yx8 := congrArg Int32.toInt ex4
    refine sf_oP (s_X3_friends g4 I_g4 57 zS57) (fun r5 pr5 => ?_)
    have tx26 : (0 : Int32).toInt = 0 := by decide
    refine sl_X6_takes_31 v1  g4 I_g4  _ _ (fun v2_12 v3_13 g14 I_g14 eg14_0 eg14_1 eg14_2 eg14_3 eg14_4 px27 => ?_)  fuel0 r5 (0 : Int32) g4 I_g4 rfl rfl rfl rfl rfl (by first | trivial | omega) (by have := fuel0_eq; omega)
    have yx28 := congrArg Int32.toInt eg14_0
    have yx29 := congrArg Int32.toInt eg14_1
    have yx30 := congrArg Int32.toInt eg14_2
    have yx31 := congrArg Int32.toInt eg14_3
    have yx32 := congrArg Int32.toInt eg14_4
    refine sf_ite (fun c15 => ?_) (fun c16 => ?_)
    · skip
      exact sf_some (⟨I_g14, (eg14_0.trans ex1), (eg14_1.trans ex2), (eg14_2.trans ex3), (eg14_3.trans ex4), trivial⟩)
    · skip
      exact sf_some (⟨I_g14, (eg14_0.trans ex1), (eg14_1.trans ex2), (eg14_2.trans ex3), (eg14_3.trans ex4), trivial⟩)
theorem sl_X6_best_34 (v1 : Int32) (v2 : Int32)  (h0 : dH) (I_h0 : InvC h0) (r_v1 : 0 ≤ v1.toInt ∧ v1.toInt ≤ 7) (r_v2 : 0 ≤ v2.toInt ∧ v2.toInt ≤ 20) (k : Int32 → Int32 → dH → Option (Int32 × dH)) (Q : Int32 × dH → Prop) (hk : ∀ (v4 : Int32) (v5 : Int32) (g : dH) (Ig : InvC g) (e0 : g 0 3 = h0 0 3) (e1 : g 1 0 = h0 1 0) (e2 : g 1 5 = h0 1 5) (e3 : g 42 2 = h0 42 2), True → Sf (k v4 v5 g) Q)  : ∀ (n : Nat) (v4 : Int32) (v5 : Int32) (v6 : Int32) (h : dH) (I_h : InvC h) (e0 : h 0 3 = h0 0 3) (e1 : h 1 0 = h0 1 0) (e2 : h 1 5 = h0 1 5) (e3 : h 42 2 = h0 42 2), 0 ≤ v6.toInt ∧ v6.toInt ≤ 4 → 4 - v6.toInt < (n : Int) → Sf (l_X6_best_34 v1 v2 k n v4 v5 v6 h) Q
  | 0, v4, v5, v6, h, I_h, e0, e1, e2, e3, hi, hm => by omega
  | n + 1, v4, v5, v6, h, I_h, e0, e1, e2, e3, hi, hm => by
    rw [l_X6_best_34]
    have yx1 := congrArg Int32.toInt e0
    have yx2 := congrArg Int32.toInt e1
    have yx3 := congrArg Int32.toInt e2
    have yx4 := congrArg Int32.toInt e3
    refine sf_ite (fun c10 => ?_) (fun c11 => ?_)
    · skip
      refine sf_oV (s_X3_become h I_h 57 zS57 43 zS43) (fun g12 pg12 => ?_)
      obtain ⟨I_g12, ex5, ex6, ex7, ex8, qg12⟩ := pg12
      try simp only at I_g12 ex5 ex6 ex7 ex8 qg12
      have yx9 := congrArg Int32.toInt ex5
      have yx10 := congrArg Int32.toInt ex6
      have yx11 := congrArg Int32.toInt ex7
      have yx12 := congrArg Int32.toInt ex8
      refine sf_guard (by omega) (fun c14 => ?_)
      refine sf_oH (fun g13 hg13 => ?_)
      have I_g13 : InvC g13 := by rw [hg13]; exact inv_free I_g12 (fS3 zS57)
      have ex13 : g13 0 3 = g12 0 3 := by rw [hg13]; exact dU_ne (by omega)
      have yx14 := congrArg Int32.toInt ex13
      have ex15 : g13 1 0 = g12 1 0 := by rw [hg13]; exact dU_ne (by omega)
      have yx16 := congrArg Int32.toInt ex15
      have ex17 : g13 1 5 = g12 1 5 := by rw [hg13]; exact dU_ne (by omega)
      have yx18 := congrArg Int32.toInt ex17
      have ex19 : g13 42 2 = g12 42 2 := by rw [hg13]; exact dU_ne (by omega)
      have yx20 := congrArg Int32.toInt ex19
      have ex21 : g13 43 2 = g12 43 2 := by rw [hg13]; exact dU_ne (by omega)
      have yx22 := congrArg Int32.toInt ex21
      refine sf_oI (s_X3_pass g13 I_g13 57 zS57 v2 (by omega)) (fun r15 g16 pg16 => ?_)
      obtain ⟨I_g16, ex23, ex24, ex25, ex26, ex27, qg16⟩ := pg16
      try simp only at I_g16 ex23 ex24 ex25 ex26 ex27 qg16
      have yx28 := congrArg Int32.toInt ex23
      have yx29 := congrArg Int32.toInt ex24
      have yx30 := congrArg Int32.toInt ex25
      have yx31 := congrArg Int32.toInt ex26
      have yx32 := congrArg Int32.toInt ex27
      refine sf_ite (fun c17 => ?_) (fun c18 => ?_)
      · skip
        try have tx33 : (v6 + 1).toInt = v6.toInt + 1 := i_add rfl (by decide) (by omega) (by omega)
        exact sl_X6_best_34  v1 v2  h0 I_h0 r_v1 r_v2 k Q hk n v6 r15 (v6 + 1) g16 I_g16 (ex23.trans (ex13.trans (ex5.trans e0))) (ex24.trans (ex15.trans (ex6.trans e1))) (ex25.trans (ex17.trans (ex7.trans e2))) (ex26.trans (ex19.trans (ex8.trans e3))) (by first | trivial | omega) (by omega)
      · skip
        try have tx34 : (v6 + 1).toInt = v6.toInt + 1 := i_add rfl (by decide) (by omega) (by omega)
        exact sl_X6_best_34  v1 v2  h0 I_h0 r_v1 r_v2 k Q hk n v4 v5 (v6 + 1) g16 I_g16 (ex23.trans (ex13.trans (ex5.trans e0))) (ex24.trans (ex15.trans (ex6.trans e1))) (ex25.trans (ex17.trans (ex7.trans e2))) (ex26.trans (ex19.trans (ex8.trans e3))) (by first | trivial | omega) (by omega)
    · skip
      exact hk v4 v5 h I_h e0 e1 e2 e3 (by first | trivial | omega)
theorem s_X6_best (h : dH) (I_h : InvC h) (v1 : Int32) (v2 : Int32) (v3 : Int32)  : Sf (f_X6_best v1 v2 v3 h) (fun o => InvC o.2 ∧ o.2 0 3 = h 0 3 ∧ o.2 1 0 = h 1 0 ∧ o.2 1 5 = h 1 5 ∧ o.2 42 2 = h 42 2 ∧ True) := by
  unfold f_X6_best
  have u_v1 := Int32.toInt_lt v1
  have w_v1 := Int32.le_toInt v1
  have u_v2 := Int32.toInt_lt v2
  have w_v2 := Int32.le_toInt v2
  have u_v3 := Int32.toInt_lt v3
  have w_v3 := Int32.le_toInt v3
  refine sf_oP (s_X6_isHouse h I_h v1) (fun r1 pr1 => ?_)
  refine sf_ite (fun c2 => ?_) (fun c3 => ?_)
  · skip
    exact sf_some (⟨I_h, rfl, rfl, rfl, rfl, trivial⟩)
  · skip
    refine sf_oP (s_X6_isYears h I_h v2) (fun r4 pr4 => ?_)
    refine sf_ite (fun c5 => ?_) (fun c6 => ?_)
    · skip
      exact sf_some (⟨I_h, rfl, rfl, rfl, rfl, trivial⟩)
    · skip
      refine sf_oP (s_X6_isEither h I_h v3) (fun r7 pr7 => ?_)
      refine sf_ite (fun c8 => ?_) (fun c9 => ?_)
      · skip
        exact sf_some (⟨I_h, rfl, rfl, rfl, rfl, trivial⟩)
      · skip
        have tx35 : ((-1) : Int32).toInt = (-1) := by decide
        have tx36 : (0 : Int32).toInt = 0 := by decide
        refine sl_X6_best_34 v1 v2  h I_h (by omega) (by omega) _ _ (fun v4_19 v5_20 g23 I_g23 eg23_0 eg23_1 eg23_2 eg23_3 px37 => ?_)  fuel0 ((-1) : Int32) ((-1) : Int32) (0 : Int32) h I_h rfl rfl rfl rfl (by first | trivial | omega) (by have := fuel0_eq; omega)
        have yx38 := congrArg Int32.toInt eg23_0
        have yx39 := congrArg Int32.toInt eg23_1
        have yx40 := congrArg Int32.toInt eg23_2
        have yx41 := congrArg Int32.toInt eg23_3
        refine sf_ite (fun c24 => ?_) (fun c25 => ?_)
        · skip
          exact sf_some (⟨I_g23, eg23_0, eg23_1, eg23_2, eg23_3, trivial⟩)
        · skip
          exact sf_some (⟨I_g23, eg23_0, eg23_1, eg23_2, eg23_3, trivial⟩)
theorem s_X6_canChange (h : dH) (I_h : InvC h) (v1 : Int32) (v2 : Int32) (q0 : 0 ≤ v1.toInt ∧ v1.toInt ≤ 7) (q1 : 0 ≤ v2.toInt ∧ v2.toInt ≤ 7) : Sf (f_X6_canChange v1 v2 h) (fun r => True) := by
  unfold f_X6_canChange
  have u_v1 := Int32.toInt_lt v1
  have w_v1 := Int32.le_toInt v1
  have u_v2 := Int32.toInt_lt v2
  have w_v2 := Int32.le_toInt v2
  refine sf_guard (by omega) (fun c1 => ?_)
  refine sf_guard (by omega) (fun c2 => ?_)
  refine sf_ite (fun c3 => ?_) (fun c4 => ?_)
  · skip
    exact sf_some (trivial)
  · skip
    refine sf_ite (fun c5 => ?_) (fun c6 => ?_)
    · skip
      exact sf_some (trivial)
    · skip
      refine sf_ite (fun c7 => ?_) (fun c8 => ?_)
      · skip
        exact sf_some (trivial)
      · skip
        exact sf_some (trivial)
theorem sl_X6_change_61 (v1 : Int32) (v5 : Int32)  (h0 : dH) (I_h0 : InvC h0) (r_v1 : 0 ≤ v1.toInt ∧ v1.toInt ≤ 20) (r_v5 : 0 ≤ v5.toInt ∧ v5.toInt ≤ 7) (k : Int32 → Int32 → dH → Option (Int32 × dH)) (Q : Int32 × dH → Prop) (hk : ∀ (v3 : Int32) (v4 : Int32) (g : dH) (Ig : InvC g) (e0 : g 0 3 = h0 0 3) (e1 : g 1 0 = h0 1 0) (e2 : g 1 5 = h0 1 5) (e3 : g 42 2 = h0 42 2), True → Sf (k v3 v4 g) Q)  : ∀ (n : Nat) (v3 : Int32) (v4 : Int32) (v6 : Int32) (h : dH) (I_h : InvC h) (e0 : h 0 3 = h0 0 3) (e1 : h 1 0 = h0 1 0) (e2 : h 1 5 = h0 1 5) (e3 : h 42 2 = h0 42 2), 0 ≤ v6.toInt ∧ v6.toInt ≤ 8 → 8 - v6.toInt < (n : Int) → Sf (l_X6_change_61 v1 v5 k n v3 v4 v6 h) Q
  | 0, v3, v4, v6, h, I_h, e0, e1, e2, e3, hi, hm => by omega
  | n + 1, v3, v4, v6, h, I_h, e0, e1, e2, e3, hi, hm => by
    rw [l_X6_change_61]
    have yx24 := congrArg Int32.toInt e0
    have yx25 := congrArg Int32.toInt e1
    have yx26 := congrArg Int32.toInt e2
    have yx27 := congrArg Int32.toInt e3
    have bx28 := I_h 43 2 (0) (8) rfl
    refine sf_ite (fun c12 => ?_) (fun c13 => ?_)
    · skip
      refine sf_oP (s_X6_canChange h I_h v5 v6 (by omega) (by omega)) (fun r14 pr14 => ?_)
      refine sf_ite (fun c15 => ?_) (fun c16 => ?_)
      · skip
        try have tx29 : (v6 + 1).toInt = v6.toInt + 1 := i_add rfl (by decide) (by omega) (by omega)
        exact sl_X6_change_61  v1 v5  h0 I_h0 r_v1 r_v5 k Q hk n v3 v4 (v6 + 1) h I_h e0 e1 e2 e3 (by first | trivial | omega) (by omega)
      · skip
        refine sf_oV (s_X3_become h I_h 57 zS57 43 zS43) (fun g17 pg17 => ?_)
        obtain ⟨I_g17, ex30, ex31, ex32, ex33, qg17⟩ := pg17
        try simp only at I_g17 ex30 ex31 ex32 ex33 qg17
        have yx34 := congrArg Int32.toInt ex30
        have yx35 := congrArg Int32.toInt ex31
        have yx36 := congrArg Int32.toInt ex32
        have yx37 := congrArg Int32.toInt ex33
        refine sf_guard (by omega) (fun c18 => ?_)
        refine sf_guard (by omega) (fun c20 => ?_)
        refine sf_oH (fun g19 hg19 => ?_)
        have I_g19 : InvC g19 := by rw [hg19]; exact inv_free I_g17 (fS3 zS57)
        have ex38 : g19 0 3 = g17 0 3 := by rw [hg19]; exact dU_ne (by omega)
        have yx39 := congrArg Int32.toInt ex38
        have ex40 : g19 1 0 = g17 1 0 := by rw [hg19]; exact dU_ne (by omega)
        have yx41 := congrArg Int32.toInt ex40
        have ex42 : g19 1 5 = g17 1 5 := by rw [hg19]; exact dU_ne (by omega)
        have yx43 := congrArg Int32.toInt ex42
        have ex44 : g19 42 2 = g17 42 2 := by rw [hg19]; exact dU_ne (by omega)
        have yx45 := congrArg Int32.toInt ex44
        have ex46 : g19 43 2 = g17 43 2 := by rw [hg19]; exact dU_ne (by omega)
        have yx47 := congrArg Int32.toInt ex46
        refine sf_guard (by omega) (fun c21 => ?_)
        refine sf_guard (by omega) (fun c23 => ?_)
        refine sf_oH (fun g22 hg22 => ?_)
        have I_g22 : InvC g22 := by rw [hg22]; exact inv_free I_g19 (fS3 zS57)
        have ex48 : g22 0 3 = g19 0 3 := by rw [hg22]; exact dU_ne (by omega)
        have yx49 := congrArg Int32.toInt ex48
        have ex50 : g22 1 0 = g19 1 0 := by rw [hg22]; exact dU_ne (by omega)
        have yx51 := congrArg Int32.toInt ex50
        have ex52 : g22 1 5 = g19 1 5 := by rw [hg22]; exact dU_ne (by omega)
        have yx53 := congrArg Int32.toInt ex52
        have ex54 : g22 42 2 = g19 42 2 := by rw [hg22]; exact dU_ne (by omega)
        have yx55 := congrArg Int32.toInt ex54
        have ex56 : g22 43 2 = g19 43 2 := by rw [hg22]; exact dU_ne (by omega)
        have yx57 := congrArg Int32.toInt ex56
        refine sf_oI (s_X3_pass g22 I_g22 57 zS57 v1 (by omega)) (fun r24 g25 pg25 => ?_)
        obtain ⟨I_g25, ex58, ex59, ex60, ex61, ex62, qg25⟩ := pg25
        try simp only at I_g25 ex58 ex59 ex60 ex61 ex62 qg25
        have yx63 := congrArg Int32.toInt ex58
        have yx64 := congrArg Int32.toInt ex59
        have yx65 := congrArg Int32.toInt ex60
        have yx66 := congrArg Int32.toInt ex61
        have yx67 := congrArg Int32.toInt ex62
        refine sf_ite (fun c26 => ?_) (fun c27 => ?_)
        · skip
          try have tx68 : (10 * v5).toInt = 10 * v5.toInt := i_mul (by decide) rfl (by omega) (by omega)
          try have tx69 : ((10 * v5) + v6).toInt = (10 * v5).toInt + v6.toInt := i_add rfl rfl (by omega) (by omega)
          try have tx70 : (v6 + 1).toInt = v6.toInt + 1 := i_add rfl (by decide) (by omega) (by omega)
          exact sl_X6_change_61  v1 v5  h0 I_h0 r_v1 r_v5 k Q hk n ((10 * v5) + v6) r24 (v6 + 1) g25 I_g25 (ex58.trans (ex48.trans (ex38.trans (ex30.trans e0)))) (ex59.trans (ex50.trans (ex40.trans (ex31.trans e1)))) (ex60.trans (ex52.trans (ex42.trans (ex32.trans e2)))) (ex61.trans (ex54.trans (ex44.trans (ex33.trans e3)))) (by first | trivial | omega) (by omega)
        · skip
          try have tx71 : (v6 + 1).toInt = v6.toInt + 1 := i_add rfl (by decide) (by omega) (by omega)
          exact sl_X6_change_61  v1 v5  h0 I_h0 r_v1 r_v5 k Q hk n v3 v4 (v6 + 1) g25 I_g25 (ex58.trans (ex48.trans (ex38.trans (ex30.trans e0)))) (ex59.trans (ex50.trans (ex40.trans (ex31.trans e1)))) (ex60.trans (ex52.trans (ex42.trans (ex32.trans e2)))) (ex61.trans (ex54.trans (ex44.trans (ex33.trans e3)))) (by first | trivial | omega) (by omega)
    · skip
      exact hk v3 v4 h I_h e0 e1 e2 e3 (by first | trivial | omega)
theorem sl_X6_change_43 (v1 : Int32)  (h0 : dH) (I_h0 : InvC h0) (r_v1 : 0 ≤ v1.toInt ∧ v1.toInt ≤ 20) (k : Int32 → Int32 → dH → Option (Int32 × dH)) (Q : Int32 × dH → Prop) (hk : ∀ (v3 : Int32) (v4 : Int32) (g : dH) (Ig : InvC g) (e0 : g 0 3 = h0 0 3) (e1 : g 1 0 = h0 1 0) (e2 : g 1 5 = h0 1 5) (e3 : g 42 2 = h0 42 2), True → Sf (k v3 v4 g) Q)  : ∀ (n : Nat) (v3 : Int32) (v4 : Int32) (v5 : Int32) (h : dH) (I_h : InvC h) (e0 : h 0 3 = h0 0 3) (e1 : h 1 0 = h0 1 0) (e2 : h 1 5 = h0 1 5) (e3 : h 42 2 = h0 42 2), 0 ≤ v5.toInt ∧ v5.toInt ≤ 8 → 8 - v5.toInt < (n : Int) → Sf (l_X6_change_43 v1 k n v3 v4 v5 h) Q
  | 0, v3, v4, v5, h, I_h, e0, e1, e2, e3, hi, hm => by omega
  | n + 1, v3, v4, v5, h, I_h, e0, e1, e2, e3, hi, hm => by
    rw [l_X6_change_43]
    have yx19 := congrArg Int32.toInt e0
    have yx20 := congrArg Int32.toInt e1
    have yx21 := congrArg Int32.toInt e2
    have yx22 := congrArg Int32.toInt e3
    have bx23 := I_h 43 2 (0) (8) rfl
    refine sf_ite (fun c10 => ?_) (fun c11 => ?_)
    · skip
      try have tx72 : (v5 + 1).toInt = v5.toInt + 1 := i_add rfl (by decide) (by omega) (by omega)
      refine sl_X6_change_61 v1 v5  h I_h (by omega) (by omega) _ _ (fun v3_28 v4_29 g32 I_g32 eg32_0 eg32_1 eg32_2 eg32_3 px73 => ?_)  fuel0 v3 v4 (v5 + 1) h I_h rfl rfl rfl rfl (by first | trivial | omega) (by have := fuel0_eq; omega)
      have yx74 := congrArg Int32.toInt eg32_0
      have yx75 := congrArg Int32.toInt eg32_1
      have yx76 := congrArg Int32.toInt eg32_2
      have yx77 := congrArg Int32.toInt eg32_3
      exact sl_X6_change_43  v1  h0 I_h0 r_v1 k Q hk n v3_28 v4_29 (v5 + 1) g32 I_g32 (eg32_0.trans e0) (eg32_1.trans e1) (eg32_2.trans e2) (eg32_3.trans e3) (by first | trivial | omega) (by omega)
    · skip
      exact hk v3 v4 h I_h e0 e1 e2 e3 (by first | trivial | omega)
theorem s_X6_change (h : dH) (I_h : InvC h) (v1 : Int32) (v2 : Int32)  : Sf (f_X6_change v1 v2 h) (fun o => InvC o.2 ∧ o.2 0 3 = h 0 3 ∧ o.2 1 0 = h 1 0 ∧ o.2 1 5 = h 1 5 ∧ o.2 42 2 = h 42 2 ∧ True) := by
  unfold f_X6_change
  have u_v1 := Int32.toInt_lt v1
  have w_v1 := Int32.le_toInt v1
  have u_v2 := Int32.toInt_lt v2
  have w_v2 := Int32.le_toInt v2
  refine sf_oP (s_X6_isYears h I_h v1) (fun r1 pr1 => ?_)
  refine sf_ite (fun c2 => ?_) (fun c3 => ?_)
  · skip
    exact sf_some (⟨I_h, rfl, rfl, rfl, rfl, trivial⟩)
  · skip
    refine sf_oP (s_X6_isEither h I_h v2) (fun r4 pr4 => ?_)
    refine sf_ite (fun c5 => ?_) (fun c6 => ?_)
    · skip
      exact sf_some (⟨I_h, rfl, rfl, rfl, rfl, trivial⟩)
    · skip
      refine sf_oV (s_X3_become h I_h 57 zS57 43 zS43) (fun g7 pg7 => ?_)
      obtain ⟨I_g7, ex1, ex2, ex3, ex4, qg7⟩ := pg7
      try simp only at I_g7 ex1 ex2 ex3 ex4 qg7
      have yx5 := congrArg Int32.toInt ex1
      have yx6 := congrArg Int32.toInt ex2
      have yx7 := congrArg Int32.toInt ex3
      have yx8 := congrArg Int32.toInt ex4
      refine sf_oI (s_X3_pass g7 I_g7 57 zS57 v1 (by omega)) (fun r8 g9 pg9 => ?_)
      obtain ⟨I_g9, ex9, ex10, ex11, ex12, ex13, qg9⟩ := pg9
      try simp only at I_g9 ex9 ex10 ex11 ex12 ex13 qg9
      have yx14 := congrArg Int32.toInt ex9
      have yx15 := congrArg Int32.toInt ex10
      have yx16 := congrArg Int32.toInt ex11
      have yx17 := congrArg Int32.toInt ex12
      have yx18 := congrArg Int32.toInt ex13
      have tx78 : ((-1) : Int32).toInt = (-1) := by decide
      have tx79 : (0 : Int32).toInt = 0 := by decide
      refine sl_X6_change_43 v1  g9 I_g9 (by omega) _ _ (fun v3_33 v4_34 g38 I_g38 eg38_0 eg38_1 eg38_2 eg38_3 px80 => ?_)  fuel0 ((-1) : Int32) r8 (0 : Int32) g9 I_g9 rfl rfl rfl rfl (by first | trivial | omega) (by have := fuel0_eq; omega)
      have yx81 := congrArg Int32.toInt eg38_0
      have yx82 := congrArg Int32.toInt eg38_1
      have yx83 := congrArg Int32.toInt eg38_2
      have yx84 := congrArg Int32.toInt eg38_3
      refine sf_ite (fun c39 => ?_) (fun c40 => ?_)
      · skip
        exact sf_some (⟨I_g38, (eg38_0.trans (ex9.trans ex1)), (eg38_1.trans (ex10.trans ex2)), (eg38_2.trans (ex11.trans ex3)), (eg38_3.trans (ex12.trans ex4)), trivial⟩)
      · skip
        exact sf_some (⟨I_g38, (eg38_0.trans (ex9.trans ex1)), (eg38_1.trans (ex10.trans ex2)), (eg38_2.trans (ex11.trans ex3)), (eg38_3.trans (ex12.trans ex4)), trivial⟩)
theorem sl_X6_split_75 (v6 : Int32)  (h0 : dH) (I_h0 : InvC h0) (r_v6 : 0 ≤ v6.toInt ∧ v6.toInt ≤ 127) (k : dH → Option (Int32 × dH)) (Q : Int32 × dH → Prop) (hk : ∀  (g : dH) (Ig : InvC g) (e0 : g 0 3 = h0 0 3) (e1 : g 1 0 = h0 1 0) (e2 : g 1 5 = h0 1 5) (e3 : g 42 2 = h0 42 2) (e4 : g 43 2 = h0 43 2), True → Sf (k  g) Q)  : ∀ (n : Nat) (v7 : Int32) (h : dH) (I_h : InvC h) (e0 : h 0 3 = h0 0 3) (e1 : h 1 0 = h0 1 0) (e2 : h 1 5 = h0 1 5) (e3 : h 42 2 = h0 42 2) (e4 : h 43 2 = h0 43 2), 0 ≤ v7.toInt ∧ v7.toInt ≤ 8 → 8 - v7.toInt < (n : Int) → Sf (l_X6_split_75 v6 k n v7 h) Q
  | 0, v7, h, I_h, e0, e1, e2, e3, e4, hi, hm => by omega
  | n + 1, v7, h, I_h, e0, e1, e2, e3, e4, hi, hm => by
    rw [l_X6_split_75]
    have yx14 := congrArg Int32.toInt e0
    have yx15 := congrArg Int32.toInt e1
    have yx16 := congrArg Int32.toInt e2
    have yx17 := congrArg Int32.toInt e3
    have yx18 := congrArg Int32.toInt e4
    have bx19 := I_h 43 2 (0) (8) rfl
    refine sf_ite (fun c13 => ?_) (fun c14 => ?_)
    · skip
      refine sf_guard (by omega) (fun c16 => ?_)
      refine sf_oH (fun g15 hg15 => ?_)
      have I_g15 : InvC g15 := by rw [hg15]; exact inv_free I_h (fS3 zS57)
      have ex20 : g15 0 3 = h 0 3 := by rw [hg15]; exact dU_ne (by omega)
      have yx21 := congrArg Int32.toInt ex20
      have ex22 : g15 1 0 = h 1 0 := by rw [hg15]; exact dU_ne (by omega)
      have yx23 := congrArg Int32.toInt ex22
      have ex24 : g15 1 5 = h 1 5 := by rw [hg15]; exact dU_ne (by omega)
      have yx25 := congrArg Int32.toInt ex24
      have ex26 : g15 42 2 = h 42 2 := by rw [hg15]; exact dU_ne (by omega)
      have yx27 := congrArg Int32.toInt ex26
      have ex28 : g15 43 2 = h 43 2 := by rw [hg15]; exact dU_ne (by omega)
      have yx29 := congrArg Int32.toInt ex28
      try have tx30 : (v7 + 1).toInt = v7.toInt + 1 := i_add rfl (by decide) (by omega) (by omega)
      exact sl_X6_split_75  v6  h0 I_h0 r_v6 k Q hk n (v7 + 1) g15 I_g15 (ex20.trans e0) (ex22.trans e1) (ex24.trans e2) (ex26.trans e3) (ex28.trans e4) (by first | trivial | omega) (by omega)
    · skip
      exact hk  h I_h e0 e1 e2 e3 e4 (by first | trivial | omega)
theorem sl_X6_split_54 (v1 : Int32) (v5 : Int32)  (h0 : dH) (I_h0 : InvC h0) (r_v1 : 0 ≤ v1.toInt ∧ v1.toInt ≤ 20) (r_v5 : 0 ≤ v5.toInt ∧ v5.toInt ≤ 128) (k : Int32 → Int32 → dH → Option (Int32 × dH)) (Q : Int32 × dH → Prop) (hk : ∀ (v3 : Int32) (v4 : Int32) (g : dH) (Ig : InvC g) (e0 : g 0 3 = h0 0 3) (e1 : g 1 0 = h0 1 0) (e2 : g 1 5 = h0 1 5) (e3 : g 42 2 = h0 42 2), True → Sf (k v3 v4 g) Q)  : ∀ (n : Nat) (v3 : Int32) (v4 : Int32) (v6 : Int32) (h : dH) (I_h : InvC h) (e0 : h 0 3 = h0 0 3) (e1 : h 1 0 = h0 1 0) (e2 : h 1 5 = h0 1 5) (e3 : h 42 2 = h0 42 2), 0 ≤ v6.toInt ∧ v6.toInt ≤ 128 → 128 - v6.toInt < (n : Int) → Sf (l_X6_split_54 v1 v5 k n v3 v4 v6 h) Q
  | 0, v3, v4, v6, h, I_h, e0, e1, e2, e3, hi, hm => by omega
  | n + 1, v3, v4, v6, h, I_h, e0, e1, e2, e3, hi, hm => by
    rw [l_X6_split_54]
    have yx2 := congrArg Int32.toInt e0
    have yx3 := congrArg Int32.toInt e1
    have yx4 := congrArg Int32.toInt e2
    have yx5 := congrArg Int32.toInt e3
    refine sf_ite (fun c10 => ?_) (fun c11 => ?_)
    · skip
      refine sf_oV (s_X3_become h I_h 57 zS57 43 zS43) (fun g12 pg12 => ?_)
      obtain ⟨I_g12, ex6, ex7, ex8, ex9, qg12⟩ := pg12
      try simp only at I_g12 ex6 ex7 ex8 ex9 qg12
      have yx10 := congrArg Int32.toInt ex6
      have yx11 := congrArg Int32.toInt ex7
      have yx12 := congrArg Int32.toInt ex8
      have yx13 := congrArg Int32.toInt ex9
      have tx31 : (0 : Int32).toInt = 0 := by decide
      refine sl_X6_split_75 v6  g12 I_g12 (by omega) _ _ (fun g18 I_g18 eg18_0 eg18_1 eg18_2 eg18_3 eg18_4 px32 => ?_)  fuel0 (0 : Int32) g12 I_g12 rfl rfl rfl rfl rfl (by first | trivial | omega) (by have := fuel0_eq; omega)
      have yx33 := congrArg Int32.toInt eg18_0
      have yx34 := congrArg Int32.toInt eg18_1
      have yx35 := congrArg Int32.toInt eg18_2
      have yx36 := congrArg Int32.toInt eg18_3
      have yx37 := congrArg Int32.toInt eg18_4
      refine sf_oI (s_X3_pass g18 I_g18 57 zS57 v1 (by omega)) (fun r19 g20 pg20 => ?_)
      obtain ⟨I_g20, ex38, ex39, ex40, ex41, ex42, qg20⟩ := pg20
      try simp only at I_g20 ex38 ex39 ex40 ex41 ex42 qg20
      have yx43 := congrArg Int32.toInt ex38
      have yx44 := congrArg Int32.toInt ex39
      have yx45 := congrArg Int32.toInt ex40
      have yx46 := congrArg Int32.toInt ex41
      have yx47 := congrArg Int32.toInt ex42
      refine sf_ite (fun c21 => ?_) (fun c22 => ?_)
      · skip
        try have tx48 : (v6 + 1).toInt = v6.toInt + 1 := i_add rfl (by decide) (by omega) (by omega)
        exact sl_X6_split_54  v1 v5  h0 I_h0 r_v1 r_v5 k Q hk n v6 r19 (v6 + 1) g20 I_g20 (ex38.trans (eg18_0.trans (ex6.trans e0))) (ex39.trans (eg18_1.trans (ex7.trans e1))) (ex40.trans (eg18_2.trans (ex8.trans e2))) (ex41.trans (eg18_3.trans (ex9.trans e3))) (by first | trivial | omega) (by omega)
      · skip
        try have tx49 : (v6 + 1).toInt = v6.toInt + 1 := i_add rfl (by decide) (by omega) (by omega)
        exact sl_X6_split_54  v1 v5  h0 I_h0 r_v1 r_v5 k Q hk n v3 v4 (v6 + 1) g20 I_g20 (ex38.trans (eg18_0.trans (ex6.trans e0))) (ex39.trans (eg18_1.trans (ex7.trans e1))) (ex40.trans (eg18_2.trans (ex8.trans e2))) (ex41.trans (eg18_3.trans (ex9.trans e3))) (by first | trivial | omega) (by omega)
    · skip
      exact hk v3 v4 h I_h e0 e1 e2 e3 (by first | trivial | omega)
theorem s_X6_split (h : dH) (I_h : InvC h) (v1 : Int32) (v2 : Int32)  : Sf (f_X6_split v1 v2 h) (fun o => InvC o.2 ∧ o.2 0 3 = h 0 3 ∧ o.2 1 0 = h 1 0 ∧ o.2 1 5 = h 1 5 ∧ o.2 42 2 = h 42 2 ∧ True) := by
  unfold f_X6_split
  have u_v1 := Int32.toInt_lt v1
  have w_v1 := Int32.le_toInt v1
  have u_v2 := Int32.toInt_lt v2
  have w_v2 := Int32.le_toInt v2
  refine sf_ite (fun c1 => ?_) (fun c2 => ?_)
  · skip
    exact sf_some (⟨I_h, rfl, rfl, rfl, rfl, trivial⟩)
  · skip
    refine sf_ite (fun c3 => ?_) (fun c4 => ?_)
    · skip
      exact sf_some (⟨I_h, rfl, rfl, rfl, rfl, trivial⟩)
    · skip
      refine sf_oP (s_X6_isEither h I_h v2) (fun r5 pr5 => ?_)
      refine sf_ite (fun c6 => ?_) (fun c7 => ?_)
      · skip
        exact sf_some (⟨I_h, rfl, rfl, rfl, rfl, trivial⟩)
      · skip
        have bx1 := I_h 43 2 (0) (8) rfl
        refine sf_ite (fun c8 => ?_) (fun c9 => ?_)
        · skip
          try have tx50 : ((h 43 2) - 1).toInt = (h 43 2).toInt - 1 := i_sub rfl (by decide) (by omega) (by omega)
          try have tx51 := dshl1_ok (y := ((h 43 2) - 1)) (by omega) (by omega)
          have tx52 : (0 : Int32).toInt = 0 := by decide
          have tx53 : ((-1) : Int32).toInt = (-1) := by decide
          refine sl_X6_split_54 v1 (dshl 1 ((h 43 2) - 1))  h I_h (by omega) (by omega) _ _ (fun v3_23 v4_24 g27 I_g27 eg27_0 eg27_1 eg27_2 eg27_3 px54 => ?_)  fuel0 (0 : Int32) ((-1) : Int32) (0 : Int32) h I_h rfl rfl rfl rfl (by first | trivial | omega) (by have := fuel0_eq; omega)
          have yx55 := congrArg Int32.toInt eg27_0
          have yx56 := congrArg Int32.toInt eg27_1
          have yx57 := congrArg Int32.toInt eg27_2
          have yx58 := congrArg Int32.toInt eg27_3
          refine sf_ite (fun c28 => ?_) (fun c29 => ?_)
          · skip
            exact sf_some (⟨I_g27, eg27_0, eg27_1, eg27_2, eg27_3, trivial⟩)
          · skip
            exact sf_some (⟨I_g27, eg27_0, eg27_1, eg27_2, eg27_3, trivial⟩)
        · skip
          have tx59 : (1 : Int32).toInt = 1 := by decide
          have tx60 : (0 : Int32).toInt = 0 := by decide
          have tx61 : ((-1) : Int32).toInt = (-1) := by decide
          refine sl_X6_split_54 v1 (1 : Int32)  h I_h (by omega) (by omega) _ _ (fun v3_30 v4_31 g34 I_g34 eg34_0 eg34_1 eg34_2 eg34_3 px62 => ?_)  fuel0 (0 : Int32) ((-1) : Int32) (0 : Int32) h I_h rfl rfl rfl rfl (by first | trivial | omega) (by have := fuel0_eq; omega)
          have yx63 := congrArg Int32.toInt eg34_0
          have yx64 := congrArg Int32.toInt eg34_1
          have yx65 := congrArg Int32.toInt eg34_2
          have yx66 := congrArg Int32.toInt eg34_3
          refine sf_ite (fun c35 => ?_) (fun c36 => ?_)
          · skip
            exact sf_some (⟨I_g34, eg34_0, eg34_1, eg34_2, eg34_3, trivial⟩)
          · skip
            exact sf_some (⟨I_g34, eg34_0, eg34_1, eg34_2, eg34_3, trivial⟩)
theorem sl_X6_missed_28   (h : dH) (I_h : InvC h)  (k : Int32 → Int32 → Option (Int32 × dH)) (Q : Int32 × dH → Prop) (hk : ∀ (v2 : Int32) (v3 : Int32), True → Sf (k v2 v3) Q)  : ∀ (n : Nat) (v2 : Int32) (v3 : Int32) (v4 : Int32), 0 ≤ v4.toInt ∧ v4.toInt ≤ 8 → 8 - v4.toInt < (n : Int) → Sf (l_X6_missed_28  h k n v2 v3 v4) Q
  | 0, v2, v3, v4, hi, hm => by omega
  | n + 1, v2, v3, v4, hi, hm => by
    rw [l_X6_missed_28]
    have bx11 := I_h 43 2 (0) (8) rfl
    refine sf_ite (fun c5 => ?_) (fun c6 => ?_)
    · skip
      refine sf_oP (s_X0_everyone h I_h ) (fun r7 pr7 => ?_)
      try have tx12 := dshl1_ok (y := v4) (by omega) (by omega)
      refine sf_oP (s_X0_companies h I_h (r7 &&& ((dshl 1 v4) ^^^ (-1)))) (fun r8 pr8 => ?_)
      refine sf_ite (fun c9 => ?_) (fun c10 => ?_)
      · skip
        try have tx13 : (v4 + 1).toInt = v4.toInt + 1 := i_add rfl (by decide) (by omega) (by omega)
        exact sl_X6_missed_28    h I_h  k Q hk n v4 r8 (v4 + 1) (by first | trivial | omega) (by omega)
      · skip
        try have tx14 : (v4 + 1).toInt = v4.toInt + 1 := i_add rfl (by decide) (by omega) (by omega)
        exact sl_X6_missed_28    h I_h  k Q hk n v2 v3 (v4 + 1) (by first | trivial | omega) (by omega)
    · skip
      exact hk v2 v3 (by first | trivial | omega)
theorem s_X6_missed (h : dH) (I_h : InvC h) (v1 : Int32)  : Sf (f_X6_missed v1 h) (fun o => InvC o.2 ∧ o.2 0 3 = h 0 3 ∧ o.2 1 0 = h 1 0 ∧ o.2 1 5 = h 1 5 ∧ o.2 42 2 = h 42 2 ∧ o.2 43 2 = h 43 2 ∧ True) := by
  unfold f_X6_missed
  have u_v1 := Int32.toInt_lt v1
  have w_v1 := Int32.le_toInt v1
  refine sf_oP (s_X6_isEither h I_h v1) (fun r1 pr1 => ?_)
  refine sf_ite (fun c2 => ?_) (fun c3 => ?_)
  · skip
    exact sf_some (⟨I_h, rfl, rfl, rfl, rfl, rfl, trivial⟩)
  · skip
    refine sf_oV (s_X0_see h I_h 43 zS43) (fun g4 pg4 => ?_)
    obtain ⟨I_g4, ex1, ex2, ex3, ex4, ex5, qg4⟩ := pg4
    try simp only at I_g4 ex1 ex2 ex3 ex4 ex5 qg4
    have yx6 := congrArg Int32.toInt ex1
    have yx7 := congrArg Int32.toInt ex2
    have yx8 := congrArg Int32.toInt ex3
    have yx9 := congrArg Int32.toInt ex4
    have yx10 := congrArg Int32.toInt ex5
    have tx15 : ((-1) : Int32).toInt = (-1) := by decide
    have tx16 : (0 : Int32).toInt = 0 := by decide
    refine sl_X6_missed_28   g4 I_g4  _ _ (fun v2_11 v3_12 px17 => ?_)  fuel0 ((-1) : Int32) ((-1) : Int32) (0 : Int32)  (by first | trivial | omega) (by have := fuel0_eq; omega)
    refine sf_ite (fun c15 => ?_) (fun c16 => ?_)
    · skip
      exact sf_some (⟨I_g4, ex1, ex2, ex3, ex4, ex5, trivial⟩)
    · skip
      exact sf_some (⟨I_g4, ex1, ex2, ex3, ex4, ex5, trivial⟩)
theorem sl_X6_match_54 (v4 : Int32)  (h0 : dH) (I_h0 : InvC h0) (r_v4 : 0 ≤ v4.toInt ∧ v4.toInt ≤ 7) (k : Int32 → Int32 → dH → Option (Int32 × dH)) (Q : Int32 × dH → Prop) (hk : ∀ (v2 : Int32) (v3 : Int32) (g : dH) (Ig : InvC g) (e0 : g 0 3 = h0 0 3) (e1 : g 1 0 = h0 1 0) (e2 : g 1 5 = h0 1 5) (e3 : g 42 2 = h0 42 2) (e4 : g 43 2 = h0 43 2), True → Sf (k v2 v3 g) Q)  : ∀ (n : Nat) (v2 : Int32) (v3 : Int32) (v5 : Int32) (h : dH) (I_h : InvC h) (e0 : h 0 3 = h0 0 3) (e1 : h 1 0 = h0 1 0) (e2 : h 1 5 = h0 1 5) (e3 : h 42 2 = h0 42 2) (e4 : h 43 2 = h0 43 2), 0 ≤ v5.toInt ∧ v5.toInt ≤ 8 → 8 - v5.toInt < (n : Int) → Sf (l_X6_match_54 v4 k n v2 v3 v5 h) Q
  | 0, v2, v3, v5, h, I_h, e0, e1, e2, e3, e4, hi, hm => by omega
  | n + 1, v2, v3, v5, h, I_h, e0, e1, e2, e3, e4, hi, hm => by
    rw [l_X6_match_54]
    have yx18 := congrArg Int32.toInt e0
    have yx19 := congrArg Int32.toInt e1
    have yx20 := congrArg Int32.toInt e2
    have yx21 := congrArg Int32.toInt e3
    have yx22 := congrArg Int32.toInt e4
    have bx23 := I_h 43 2 (0) (8) rfl
    refine sf_ite (fun c8 => ?_) (fun c9 => ?_)
    · skip
      refine sf_oP (s_X3_knows h I_h 43 zS43 v4 v5 (by omega) (by omega)) (fun r10 pr10 => ?_)
      refine sf_ite (fun c11 => ?_) (fun c12 => ?_)
      · skip
        refine sf_oV (s_X0_turn h I_h v4 v5 (by omega) (by omega)) (fun g13 pg13 => ?_)
        obtain ⟨I_g13, ex24, ex25, ex26, ex27, ex28, qg13⟩ := pg13
        try simp only at I_g13 ex24 ex25 ex26 ex27 ex28 qg13
        have yx29 := congrArg Int32.toInt ex24
        have yx30 := congrArg Int32.toInt ex25
        have yx31 := congrArg Int32.toInt ex26
        have yx32 := congrArg Int32.toInt ex27
        have yx33 := congrArg Int32.toInt ex28
        have tx34 : (9 : Int32).toInt = 9 := by decide
        refine sf_oP (s_X0_longestWay g13 I_g13 (9 : Int32)) (fun r14 pr14 => ?_)
        refine sf_oV (s_X0_turn g13 I_g13 v4 v5 (by omega) (by omega)) (fun g15 pg15 => ?_)
        obtain ⟨I_g15, ex35, ex36, ex37, ex38, ex39, qg15⟩ := pg15
        try simp only at I_g15 ex35 ex36 ex37 ex38 ex39 qg15
        have yx40 := congrArg Int32.toInt ex35
        have yx41 := congrArg Int32.toInt ex36
        have yx42 := congrArg Int32.toInt ex37
        have yx43 := congrArg Int32.toInt ex38
        have yx44 := congrArg Int32.toInt ex39
        refine sf_ite (fun c16 => ?_) (fun c17 => ?_)
        · skip
          try have tx45 : (10 * v4).toInt = 10 * v4.toInt := i_mul (by decide) rfl (by omega) (by omega)
          try have tx46 : ((10 * v4) + v5).toInt = (10 * v4).toInt + v5.toInt := i_add rfl rfl (by omega) (by omega)
          try have tx47 : (v5 + 1).toInt = v5.toInt + 1 := i_add rfl (by decide) (by omega) (by omega)
          exact sl_X6_match_54  v4  h0 I_h0 r_v4 k Q hk n ((10 * v4) + v5) r14 (v5 + 1) g15 I_g15 (ex35.trans (ex24.trans e0)) (ex36.trans (ex25.trans e1)) (ex37.trans (ex26.trans e2)) (ex38.trans (ex27.trans e3)) (ex39.trans (ex28.trans e4)) (by first | trivial | omega) (by omega)
        · skip
          try have tx48 : (v5 + 1).toInt = v5.toInt + 1 := i_add rfl (by decide) (by omega) (by omega)
          exact sl_X6_match_54  v4  h0 I_h0 r_v4 k Q hk n v2 v3 (v5 + 1) g15 I_g15 (ex35.trans (ex24.trans e0)) (ex36.trans (ex25.trans e1)) (ex37.trans (ex26.trans e2)) (ex38.trans (ex27.trans e3)) (ex39.trans (ex28.trans e4)) (by first | trivial | omega) (by omega)
      · skip
        try have tx49 : (v5 + 1).toInt = v5.toInt + 1 := i_add rfl (by decide) (by omega) (by omega)
        exact sl_X6_match_54  v4  h0 I_h0 r_v4 k Q hk n v2 v3 (v5 + 1) h I_h e0 e1 e2 e3 e4 (by first | trivial | omega) (by omega)
    · skip
      exact hk v2 v3 h I_h e0 e1 e2 e3 e4 (by first | trivial | omega)
theorem sl_X6_match_36   (h0 : dH) (I_h0 : InvC h0)  (k : Int32 → Int32 → dH → Option (Int32 × dH)) (Q : Int32 × dH → Prop) (hk : ∀ (v2 : Int32) (v3 : Int32) (g : dH) (Ig : InvC g) (e0 : g 0 3 = h0 0 3) (e1 : g 1 0 = h0 1 0) (e2 : g 1 5 = h0 1 5) (e3 : g 42 2 = h0 42 2) (e4 : g 43 2 = h0 43 2), True → Sf (k v2 v3 g) Q)  : ∀ (n : Nat) (v2 : Int32) (v3 : Int32) (v4 : Int32) (h : dH) (I_h : InvC h) (e0 : h 0 3 = h0 0 3) (e1 : h 1 0 = h0 1 0) (e2 : h 1 5 = h0 1 5) (e3 : h 42 2 = h0 42 2) (e4 : h 43 2 = h0 43 2), 0 ≤ v4.toInt ∧ v4.toInt ≤ 8 → 8 - v4.toInt < (n : Int) → Sf (l_X6_match_36  k n v2 v3 v4 h) Q
  | 0, v2, v3, v4, h, I_h, e0, e1, e2, e3, e4, hi, hm => by omega
  | n + 1, v2, v3, v4, h, I_h, e0, e1, e2, e3, e4, hi, hm => by
    rw [l_X6_match_36]
    have yx12 := congrArg Int32.toInt e0
    have yx13 := congrArg Int32.toInt e1
    have yx14 := congrArg Int32.toInt e2
    have yx15 := congrArg Int32.toInt e3
    have yx16 := congrArg Int32.toInt e4
    have bx17 := I_h 43 2 (0) (8) rfl
    refine sf_ite (fun c6 => ?_) (fun c7 => ?_)
    · skip
      try have tx50 : (v4 + 1).toInt = v4.toInt + 1 := i_add rfl (by decide) (by omega) (by omega)
      refine sl_X6_match_54 v4  h I_h (by omega) _ _ (fun v2_18 v3_19 g22 I_g22 eg22_0 eg22_1 eg22_2 eg22_3 eg22_4 px51 => ?_)  fuel0 v2 v3 (v4 + 1) h I_h rfl rfl rfl rfl rfl (by first | trivial | omega) (by have := fuel0_eq; omega)
      have yx52 := congrArg Int32.toInt eg22_0
      have yx53 := congrArg Int32.toInt eg22_1
      have yx54 := congrArg Int32.toInt eg22_2
      have yx55 := congrArg Int32.toInt eg22_3
      have yx56 := congrArg Int32.toInt eg22_4
      exact sl_X6_match_36    h0 I_h0  k Q hk n v2_18 v3_19 (v4 + 1) g22 I_g22 (eg22_0.trans e0) (eg22_1.trans e1) (eg22_2.trans e2) (eg22_3.trans e3) (eg22_4.trans e4) (by first | trivial | omega) (by omega)
    · skip
      exact hk v2 v3 h I_h e0 e1 e2 e3 e4 (by first | trivial | omega)
theorem s_X6_match (h : dH) (I_h : InvC h) (v1 : Int32)  : Sf (f_X6_match v1 h) (fun o => InvC o.2 ∧ o.2 0 3 = h 0 3 ∧ o.2 1 0 = h 1 0 ∧ o.2 1 5 = h 1 5 ∧ o.2 42 2 = h 42 2 ∧ o.2 43 2 = h 43 2 ∧ True) := by
  unfold f_X6_match
  have u_v1 := Int32.toInt_lt v1
  have w_v1 := Int32.le_toInt v1
  refine sf_oP (s_X6_isEither h I_h v1) (fun r1 pr1 => ?_)
  refine sf_ite (fun c2 => ?_) (fun c3 => ?_)
  · skip
    exact sf_some (⟨I_h, rfl, rfl, rfl, rfl, rfl, trivial⟩)
  · skip
    refine sf_oV (s_X0_see h I_h 43 zS43) (fun g4 pg4 => ?_)
    obtain ⟨I_g4, ex1, ex2, ex3, ex4, ex5, qg4⟩ := pg4
    try simp only at I_g4 ex1 ex2 ex3 ex4 ex5 qg4
    have yx6 := congrArg Int32.toInt ex1
    have yx7 := congrArg Int32.toInt ex2
    have yx8 := congrArg Int32.toInt ex3
    have yx9 := congrArg Int32.toInt ex4
    have yx10 := congrArg Int32.toInt ex5
    have tx11 : (9 : Int32).toInt = 9 := by decide
    refine sf_oP (s_X0_longestWay g4 I_g4 (9 : Int32)) (fun r5 pr5 => ?_)
    have tx57 : ((-1) : Int32).toInt = (-1) := by decide
    have tx58 : (0 : Int32).toInt = 0 := by decide
    refine sl_X6_match_36   g4 I_g4  _ _ (fun v2_23 v3_24 g28 I_g28 eg28_0 eg28_1 eg28_2 eg28_3 eg28_4 px59 => ?_)  fuel0 ((-1) : Int32) r5 (0 : Int32) g4 I_g4 rfl rfl rfl rfl rfl (by first | trivial | omega) (by have := fuel0_eq; omega)
    have yx60 := congrArg Int32.toInt eg28_0
    have yx61 := congrArg Int32.toInt eg28_1
    have yx62 := congrArg Int32.toInt eg28_2
    have yx63 := congrArg Int32.toInt eg28_3
    have yx64 := congrArg Int32.toInt eg28_4
    refine sf_ite (fun c29 => ?_) (fun c30 => ?_)
    · skip
      exact sf_some (⟨I_g28, (eg28_0.trans ex1), (eg28_1.trans ex2), (eg28_2.trans ex3), (eg28_3.trans ex4), (eg28_4.trans ex5), trivial⟩)
    · skip
      exact sf_some (⟨I_g28, (eg28_0.trans ex1), (eg28_1.trans ex2), (eg28_2.trans ex3), (eg28_3.trans ex4), (eg28_4.trans ex5), trivial⟩)
theorem s_X6_isSheet (h : dH) (I_h : InvC h) (v0 : Int32)  : Sf (f_X6_isSheet v0) (fun r => r.toInt = 0 ∨ (0 ≤ v0.toInt ∧ v0.toInt < 4)) := by
  unfold f_X6_isSheet
  have u_v0 := Int32.toInt_lt v0
  have w_v0 := Int32.le_toInt v0
  refine sf_ite (fun c1 => ?_) (fun c2 => ?_)
  · skip
    have tx1 : (0 : Int32).toInt = 0 := by decide
    exact sf_some ((show (0 : Int32).toInt = 0 ∨ (0 ≤ v0.toInt ∧ v0.toInt < 4) by omega))
  · skip
    refine sf_ite (fun c3 => ?_) (fun c4 => ?_)
    · skip
      have tx2 : (1 : Int32).toInt = 1 := by decide
      exact sf_some ((show (1 : Int32).toInt = 0 ∨ (0 ≤ v0.toInt ∧ v0.toInt < 4) by omega))
    · skip
      have tx3 : (0 : Int32).toInt = 0 := by decide
      exact sf_some ((show (0 : Int32).toInt = 0 ∨ (0 ≤ v0.toInt ∧ v0.toInt < 4) by omega))
theorem sl_X6_fits_3 (a1 : Nat) (v2 : Int32) (v3 : Int32) (ha1 : zW a1) (h : dH) (I_h : InvC h) (r_v2 : 0 ≤ v2.toInt ∧ v2.toInt ≤ 7) (k : Option (Int32)) (Q : Int32 → Prop) (hk : True → Sf (k ) Q) (hQ : ∀ o, True → Q o) : ∀ (n : Nat) (v4 : Int32), 0 ≤ v4.toInt ∧ v4.toInt ≤ 8 → 8 - v4.toInt < (n : Int) → Sf (l_X6_fits_3 a1 v2 v3 h k n v4) Q
  | 0, v4, hi, hm => by omega
  | n + 1, v4, hi, hm => by
    rw [l_X6_fits_3]
    have z_a1 : a1 = 34 ∨ a1 = 36 ∨ a1 = 38 ∨ a1 = 40 := ha1
    have bx1 := I_h 43 2 (0) (8) rfl
    refine sf_ite (fun c1 => ?_) (fun c2 => ?_)
    · skip
      refine sf_guard (by omega) (fun c3 => ?_)
      refine sf_guard (by omega) (fun c4 => ?_)
      refine sf_ite (fun c5 => ?_) (fun c6 => ?_)
      · skip
        refine sf_guard (by omega) (fun c7 => ?_)
        refine sf_ite (fun c8 => ?_) (fun c9 => ?_)
        · skip
          try have tx2 : (v4 + 1).toInt = v4.toInt + 1 := i_add rfl (by decide) (by omega) (by omega)
          exact sl_X6_fits_3  a1 v2 v3 ha1 h I_h r_v2 k Q hk hQ n (v4 + 1) (by first | trivial | omega) (by omega)
        · skip
          exact sf_some (hQ _ trivial)
      · skip
        refine sf_guard (by omega) (fun c10 => ?_)
        refine sf_ite (fun c11 => ?_) (fun c12 => ?_)
        · skip
          exact sf_some (hQ _ trivial)
        · skip
          try have tx3 : (v4 + 1).toInt = v4.toInt + 1 := i_add rfl (by decide) (by omega) (by omega)
          exact sl_X6_fits_3  a1 v2 v3 ha1 h I_h r_v2 k Q hk hQ n (v4 + 1) (by first | trivial | omega) (by omega)
    · skip
      exact hk  (by first | trivial | omega)
theorem s_X6_fits (h : dH) (I_h : InvC h) (a1 : Nat) (ha1 : zW a1) (v2 : Int32) (v3 : Int32) (q0 : 0 ≤ v2.toInt ∧ v2.toInt ≤ 7) : Sf (f_X6_fits a1 v2 v3 h) (fun r => True) := by
  unfold f_X6_fits
  have z_a1 : a1 = 34 ∨ a1 = 36 ∨ a1 = 38 ∨ a1 = 40 := ha1
  have u_v2 := Int32.toInt_lt v2
  have w_v2 := Int32.le_toInt v2
  have u_v3 := Int32.toInt_lt v3
  have w_v3 := Int32.le_toInt v3
  have tx4 : (0 : Int32).toInt = 0 := by decide
  refine sl_X6_fits_3 a1 v2 v3 ha1 h I_h (by omega) _ _ (fun  px5 => ?_) (fun _ h => h) fuel0 (0 : Int32)  (by first | trivial | omega) (by have := fuel0_eq; omega)
  exact sf_some (trivial)
theorem sl_X6_leastLimit_2 (a1 : Nat) (v2 : Int32) (ha1 : zW a1) (h : dH) (I_h : InvC h) (r_v2 : 0 ≤ v2.toInt ∧ v2.toInt ≤ 7) (k : Option (Int32)) (Q : Int32 → Prop) (hk : True → Sf (k ) Q) (hQ : ∀ o, True → Q o) : ∀ (n : Nat) (v3 : Int32), 0 ≤ v3.toInt ∧ v3.toInt ≤ 100 → 100 - v3.toInt < (n : Int) → Sf (l_X6_leastLimit_2 a1 v2 h k n v3) Q
  | 0, v3, hi, hm => by omega
  | n + 1, v3, hi, hm => by
    rw [l_X6_leastLimit_2]
    have z_a1 : a1 = 34 ∨ a1 = 36 ∨ a1 = 38 ∨ a1 = 40 := ha1
    refine sf_ite (fun c1 => ?_) (fun c2 => ?_)
    · skip
      exact hk  (by first | trivial | omega)
    · skip
      refine sf_oP (s_X6_fits h I_h a1 ha1 v2 v3 (by omega)) (fun r3 pr3 => ?_)
      refine sf_ite (fun c4 => ?_) (fun c5 => ?_)
      · skip
        try have tx1 : (v3 + 1).toInt = v3.toInt + 1 := i_add rfl (by decide) (by omega) (by omega)
        exact sl_X6_leastLimit_2  a1 v2 ha1 h I_h r_v2 k Q hk hQ n (v3 + 1) (by first | trivial | omega) (by omega)
      · skip
        exact sf_some (hQ _ trivial)
theorem s_X6_leastLimit (h : dH) (I_h : InvC h) (a1 : Nat) (ha1 : zW a1) (v2 : Int32) (q0 : 0 ≤ v2.toInt ∧ v2.toInt ≤ 7) : Sf (f_X6_leastLimit a1 v2 h) (fun r => True) := by
  unfold f_X6_leastLimit
  have z_a1 : a1 = 34 ∨ a1 = 36 ∨ a1 = 38 ∨ a1 = 40 := ha1
  have u_v2 := Int32.toInt_lt v2
  have w_v2 := Int32.le_toInt v2
  have tx2 : (1 : Int32).toInt = 1 := by decide
  refine sl_X6_leastLimit_2 a1 v2 ha1 h I_h (by omega) _ _ (fun  px3 => ?_) (fun _ h => h) fuel0 (1 : Int32)  (by first | trivial | omega) (by have := fuel0_eq; omega)
  exact sf_some (trivial)
theorem sl_X6_limits_5 (a1 : Nat) (v2 : Int32) (ha1 : zW a1) (h : dH) (I_h : InvC h) (r_v2 : 0 ≤ v2.toInt ∧ v2.toInt ≤ 7) (k : Int32 → Option (Int32)) (Q : Int32 → Prop) (hk : ∀ (v3 : Int32), True → Sf (k v3) Q)  : ∀ (n : Nat) (v3 : Int32) (v4 : Int32), 0 ≤ v4.toInt ∧ v4.toInt ≤ 100 → 100 - v4.toInt < (n : Int) → Sf (l_X6_limits_5 a1 v2 h k n v3 v4) Q
  | 0, v3, v4, hi, hm => by omega
  | n + 1, v3, v4, hi, hm => by
    rw [l_X6_limits_5]
    have z_a1 : a1 = 34 ∨ a1 = 36 ∨ a1 = 38 ∨ a1 = 40 := ha1
    refine sf_ite (fun c1 => ?_) (fun c2 => ?_)
    · skip
      exact hk v3 (by first | trivial | omega)
    · skip
      refine sf_oP (s_X6_fits h I_h a1 ha1 v2 v4 (by omega)) (fun r3 pr3 => ?_)
      refine sf_ite (fun c4 => ?_) (fun c5 => ?_)
      · skip
        try have tx1 : (v4 + 1).toInt = v4.toInt + 1 := i_add rfl (by decide) (by omega) (by omega)
        exact sl_X6_limits_5  a1 v2 ha1 h I_h r_v2 k Q hk n v3 (v4 + 1) (by first | trivial | omega) (by omega)
      · skip
        try have tx2 : (v3 + 1).toInt = v3.toInt + 1 := i_add rfl (by decide) (by omega) (by omega)
        try have tx3 : (v4 + 1).toInt = v4.toInt + 1 := i_add rfl (by decide) (by omega) (by omega)
        exact sl_X6_limits_5  a1 v2 ha1 h I_h r_v2 k Q hk n (v3 + 1) (v4 + 1) (by first | trivial | omega) (by omega)
theorem s_X6_limits (h : dH) (I_h : InvC h) (a1 : Nat) (ha1 : zW a1) (v2 : Int32) (q0 : 0 ≤ v2.toInt ∧ v2.toInt ≤ 7) : Sf (f_X6_limits a1 v2 h) (fun r => True) := by
  unfold f_X6_limits
  have z_a1 : a1 = 34 ∨ a1 = 36 ∨ a1 = 38 ∨ a1 = 40 := ha1
  have u_v2 := Int32.toInt_lt v2
  have w_v2 := Int32.le_toInt v2
  have tx4 : (0 : Int32).toInt = 0 := by decide
  have tx5 : (1 : Int32).toInt = 1 := by decide
  refine sl_X6_limits_5 a1 v2 ha1 h I_h (by omega) _ _ (fun v3_6 px6 => ?_)  fuel0 (0 : Int32) (1 : Int32)  (by first | trivial | omega) (by have := fuel0_eq; omega)
  exact sf_some (trivial)
theorem s_X6_otherwise (h : dH) (I_h : InvC h) (a1 : Nat) (ha1 : zW a1) (v2 : Int32) (q0 : 0 ≤ v2.toInt ∧ v2.toInt ≤ 7) : Sf (f_X6_otherwise a1 v2 h) (fun o => InvC o.2 ∧ o.2 0 3 = h 0 3 ∧ o.2 1 0 = h 1 0 ∧ o.2 1 5 = h 1 5 ∧ o.2 42 2 = h 42 2 ∧ True) := by
  unfold f_X6_otherwise
  have z_a1 : a1 = 34 ∨ a1 = 36 ∨ a1 = 38 ∨ a1 = 40 := ha1
  have u_v2 := Int32.toInt_lt v2
  have w_v2 := Int32.le_toInt v2
  refine sf_oV (s_X3_become h I_h 57 zS57 43 zS43) (fun g1 pg1 => ?_)
  obtain ⟨I_g1, ex1, ex2, ex3, ex4, qg1⟩ := pg1
  try simp only at I_g1 ex1 ex2 ex3 ex4 qg1
  have yx5 := congrArg Int32.toInt ex1
  have yx6 := congrArg Int32.toInt ex2
  have yx7 := congrArg Int32.toInt ex3
  have yx8 := congrArg Int32.toInt ex4
  refine sf_oV (s_X3_holdFeast g1 I_g1 57 zS57) (fun g2 pg2 => ?_)
  obtain ⟨I_g2, ex9, ex10, ex11, ex12, ex13, qg2⟩ := pg2
  try simp only at I_g2 ex9 ex10 ex11 ex12 ex13 qg2
  have yx14 := congrArg Int32.toInt ex9
  have yx15 := congrArg Int32.toInt ex10
  have yx16 := congrArg Int32.toInt ex11
  have yx17 := congrArg Int32.toInt ex12
  have yx18 := congrArg Int32.toInt ex13
  refine sf_guard (by omega) (fun c3 => ?_)
  refine sf_oP (s_X2_unlikeItems g2 I_g2 a1 ha1 (57 + 5 + v2.toInt.toNat) (shSr zS57 (by omega : v2.toInt.toNat < 8))) (fun r4 pr4 => ?_)
  exact sf_some (⟨I_g2, (ex9.trans ex1), (ex10.trans ex2), (ex11.trans ex3), (ex12.trans ex4), trivial⟩)
theorem s_X6_choices (h : dH) (I_h : InvC h) (v1 : Int32)  : Sf (f_X6_choices v1 h) (fun r => 0 ≤ r.toInt ∧ r.toInt ≤ 10 ∧ (v1.toInt = 1 ∨ v1.toInt = 2 ∨ v1.toInt = 3 ∨ r.toInt ≤ 6)) := by
  unfold f_X6_choices
  have u_v1 := Int32.toInt_lt v1
  have w_v1 := Int32.le_toInt v1
  refine sf_ite (fun c1 => ?_) (fun c2 => ?_)
  · skip
    have tx1 : (6 : Int32).toInt = 6 := by decide
    exact sf_some ((show 0 ≤ (6 : Int32).toInt ∧ (6 : Int32).toInt ≤ 10 ∧ (v1.toInt = 1 ∨ v1.toInt = 2 ∨ v1.toInt = 3 ∨ (6 : Int32).toInt ≤ 6) by omega))
  · skip
    refine sf_ite (fun c3 => ?_) (fun c4 => ?_)
    · skip
      have tx2 : (10 : Int32).toInt = 10 := by decide
      exact sf_some ((show 0 ≤ (10 : Int32).toInt ∧ (10 : Int32).toInt ≤ 10 ∧ (v1.toInt = 1 ∨ v1.toInt = 2 ∨ v1.toInt = 3 ∨ (10 : Int32).toInt ≤ 6) by omega))
    · skip
      refine sf_ite (fun c5 => ?_) (fun c6 => ?_)
      · skip
        have tx3 : (4 : Int32).toInt = 4 := by decide
        exact sf_some ((show 0 ≤ (4 : Int32).toInt ∧ (4 : Int32).toInt ≤ 10 ∧ (v1.toInt = 1 ∨ v1.toInt = 2 ∨ v1.toInt = 3 ∨ (4 : Int32).toInt ≤ 6) by omega))
      · skip
        have bx4 := I_h 0 3 (0) (6) rfl
        exact sf_some ((show 0 ≤ (h 0 3).toInt ∧ (h 0 3).toInt ≤ 10 ∧ (v1.toInt = 1 ∨ v1.toInt = 2 ∨ v1.toInt = 3 ∨ (h 0 3).toInt ≤ 6) by omega))
end
