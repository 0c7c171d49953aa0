/-! that they answer: X1_fail, X1_next, X1_expect, X1_levelOf, X1_opens, X1_operationOf, X1_readOne, X1_read, X1_readPart, X1_readInto (by program) -/
noncomputable section
theorem s_X1_fail (h : dH) (I_h : InvC h)   : Sf (f_X1_fail  h) (fun o => InvC o ∧ o 0 3 = h 0 3 ∧ o 1 0 = h 1 0 ∧ o 1 5 = h 1 5 ∧ o 42 2 = h 42 2 ∧ o 43 2 = h 43 2 ∧ True) := by
  unfold f_X1_fail
  refine sf_ite (fun c1 => ?_) (fun c2 => ?_)
  · skip
    have bx1 := I_h 42 2 (0) (160) rfl
    refine sf_guard (by omega) (fun c3 => ?_)
    have bx2 := I_h 3 ((h 42 2).toInt.toNat) (0) (160) rfl
    refine sf_oH (fun g4 hg4 => ?_)
    have I_g4 : InvC g4 := by rw [hg4]; exact inv_free I_h rfl
    have ex3 : g4 0 3 = h 0 3 := by rw [hg4]; exact dU_ne (by omega)
    have yx4 := congrArg Int32.toInt ex3
    have ex5 : g4 1 0 = h 1 0 := by rw [hg4]; exact dU_ne (by omega)
    have yx6 := congrArg Int32.toInt ex5
    have ex7 : g4 1 5 = h 1 5 := by rw [hg4]; exact dU_ne (by omega)
    have yx8 := congrArg Int32.toInt ex7
    have ex9 : g4 42 2 = h 42 2 := by rw [hg4]; exact dU_ne (by omega)
    have yx10 := congrArg Int32.toInt ex9
    have ex11 : g4 43 2 = h 43 2 := by rw [hg4]; exact dU_ne (by omega)
    have yx12 := congrArg Int32.toInt ex11
    have yx13 : (g4 42 4).toInt = (h 3 ((h 42 2).toInt.toNat)).toInt := by rw [hg4, dU_eq]
    refine sf_oH (fun g5 hg5 => ?_)
    have I_g5 : InvC g5 := by rw [hg5]; exact inv_free I_g4 rfl
    have ex14 : g5 0 3 = g4 0 3 := by rw [hg5]; exact dU_ne (by omega)
    have yx15 := congrArg Int32.toInt ex14
    have ex16 : g5 1 0 = g4 1 0 := by rw [hg5]; exact dU_ne (by omega)
    have yx17 := congrArg Int32.toInt ex16
    have ex18 : g5 1 5 = g4 1 5 := by rw [hg5]; exact dU_ne (by omega)
    have yx19 := congrArg Int32.toInt ex18
    have ex20 : g5 42 2 = g4 42 2 := by rw [hg5]; exact dU_ne (by omega)
    have yx21 := congrArg Int32.toInt ex20
    have ex22 : g5 43 2 = g4 43 2 := by rw [hg5]; exact dU_ne (by omega)
    have yx23 := congrArg Int32.toInt ex22
    have yx24 : (g5 42 3).toInt = 301 := by rw [hg5, dU_eq]; decide
    exact sf_some (⟨I_g5, (ex14.trans ex3), (ex16.trans ex5), (ex18.trans ex7), (ex20.trans ex9), (ex22.trans ex11), trivial⟩)
  · skip
    refine sf_oH (fun g6 hg6 => ?_)
    have I_g6 : InvC g6 := by rw [hg6]; exact inv_free I_h rfl
    have ex25 : g6 0 3 = h 0 3 := by rw [hg6]; exact dU_ne (by omega)
    have yx26 := congrArg Int32.toInt ex25
    have ex27 : g6 1 0 = h 1 0 := by rw [hg6]; exact dU_ne (by omega)
    have yx28 := congrArg Int32.toInt ex27
    have ex29 : g6 1 5 = h 1 5 := by rw [hg6]; exact dU_ne (by omega)
    have yx30 := congrArg Int32.toInt ex29
    have ex31 : g6 42 2 = h 42 2 := by rw [hg6]; exact dU_ne (by omega)
    have yx32 := congrArg Int32.toInt ex31
    have ex33 : g6 43 2 = h 43 2 := by rw [hg6]; exact dU_ne (by omega)
    have yx34 := congrArg Int32.toInt ex33
    have yx35 : (g6 42 3).toInt = 301 := by rw [hg6, dU_eq]; decide
    exact sf_some (⟨I_g6, ex25, ex27, ex29, ex31, ex33, trivial⟩)
theorem s_X1_next (h : dH) (I_h : InvC h)   : Sf (f_X1_next  h) (fun o => InvC o ∧ o 0 3 = h 0 3 ∧ o 1 0 = h 1 0 ∧ o 1 5 = h 1 5 ∧ o 43 2 = h 43 2 ∧ True) := by
  unfold f_X1_next
  have bx1 := I_h 42 2 (0) (160) rfl
  refine sf_ite (fun c1 => ?_) (fun c2 => ?_)
  · skip
    try have tx2 : ((h 42 2) + 1).toInt = (h 42 2).toInt + 1 := i_add rfl (by decide) (by omega) (by omega)
    refine sf_oH (fun g3 hg3 => ?_)
    have I_g3 : InvC g3 := by rw [hg3]; exact inv_set (l := 0) (u := 160) I_h rfl (by omega)
    have ex3 : g3 0 3 = h 0 3 := by rw [hg3]; exact dU_ne (by omega)
    have yx4 := congrArg Int32.toInt ex3
    have ex5 : g3 1 0 = h 1 0 := by rw [hg3]; exact dU_ne (by omega)
    have yx6 := congrArg Int32.toInt ex5
    have ex7 : g3 1 5 = h 1 5 := by rw [hg3]; exact dU_ne (by omega)
    have yx8 := congrArg Int32.toInt ex7
    have ex9 : g3 43 2 = h 43 2 := by rw [hg3]; exact dU_ne (by omega)
    have yx10 := congrArg Int32.toInt ex9
    have yx11 : (g3 42 2).toInt = ((h 42 2) + 1).toInt := by rw [hg3, dU_eq]
    have bx12 := I_g3 42 2 (0) (160) rfl
    refine sf_guard (by omega) (fun c4 => ?_)
    refine sf_oH (fun g5 hg5 => ?_)
    have I_g5 : InvC g5 := by rw [hg5]; exact inv_free I_g3 rfl
    have ex13 : g5 0 3 = g3 0 3 := by rw [hg5]; exact dU_ne (by omega)
    have yx14 := congrArg Int32.toInt ex13
    have ex15 : g5 1 0 = g3 1 0 := by rw [hg5]; exact dU_ne (by omega)
    have yx16 := congrArg Int32.toInt ex15
    have ex17 : g5 1 5 = g3 1 5 := by rw [hg5]; exact dU_ne (by omega)
    have yx18 := congrArg Int32.toInt ex17
    have ex19 : g5 42 2 = g3 42 2 := by rw [hg5]; exact dU_ne (by omega)
    have yx20 := congrArg Int32.toInt ex19
    have ex21 : g5 43 2 = g3 43 2 := by rw [hg5]; exact dU_ne (by omega)
    have yx22 := congrArg Int32.toInt ex21
    have yx23 : (g5 42 3).toInt = (g3 2 ((g3 42 2).toInt.toNat)).toInt := by rw [hg5, dU_eq]
    exact sf_some (⟨I_g5, (ex13.trans ex3), (ex15.trans ex5), (ex17.trans ex7), (ex21.trans ex9), trivial⟩)
  · skip
    exact sf_some (⟨I_h, rfl, rfl, rfl, rfl, trivial⟩)
theorem s_X1_expect (h : dH) (I_h : InvC h) (v1 : Int32)  : Sf (f_X1_expect v1 h) (fun o => InvC o ∧ o 0 3 = h 0 3 ∧ o 1 0 = h 1 0 ∧ o 1 5 = h 1 5 ∧ o 43 2 = h 43 2 ∧ True) := by
  unfold f_X1_expect
  have u_v1 := Int32.toInt_lt v1
  have w_v1 := Int32.le_toInt v1
  refine sf_ite (fun c1 => ?_) (fun c2 => ?_)
  · skip
    refine sf_oV (s_X1_next h I_h ) (fun g3 pg3 => ?_)
    obtain ⟨I_g3, ex1, ex2, ex3, ex4, qg3⟩ := pg3
    try simp only at I_g3 ex1 ex2 ex3 ex4 qg3
    have yx5 := congrArg Int32.toInt ex1
    have yx6 := congrArg Int32.toInt ex2
    have yx7 := congrArg Int32.toInt ex3
    have yx8 := congrArg Int32.toInt ex4
    exact sf_some (⟨I_g3, ex1, ex2, ex3, ex4, trivial⟩)
  · skip
    refine sf_oV (s_X1_fail h I_h ) (fun g4 pg4 => ?_)
    obtain ⟨I_g4, ex9, ex10, ex11, ex12, ex13, qg4⟩ := pg4
    try simp only at I_g4 ex9 ex10 ex11 ex12 ex13 qg4
    have yx14 := congrArg Int32.toInt ex9
    have yx15 := congrArg Int32.toInt ex10
    have yx16 := congrArg Int32.toInt ex11
    have yx17 := congrArg Int32.toInt ex12
    have yx18 := congrArg Int32.toInt ex13
    exact sf_some (⟨I_g4, ex9, ex10, ex11, ex13, trivial⟩)
theorem s_X1_levelOf (h : dH) (I_h : InvC h) (v0 : Int32)  : Sf (f_X1_levelOf v0) (fun r => True) := by
  unfold f_X1_levelOf
  have u_v0 := Int32.toInt_lt v0
  have w_v0 := Int32.le_toInt v0
  refine sf_ite (fun c1 => ?_) (fun c2 => ?_)
  · skip
    exact sf_some (trivial)
  · skip
    refine sf_ite (fun c3 => ?_) (fun c4 => ?_)
    · skip
      exact sf_some (trivial)
    · skip
      refine sf_ite (fun c5 => ?_) (fun c6 => ?_)
      · skip
        exact sf_some (trivial)
      · skip
        refine sf_ite (fun c7 => ?_) (fun c8 => ?_)
        · skip
          exact sf_some (trivial)
        · skip
          refine sf_ite (fun c9 => ?_) (fun c10 => ?_)
          · skip
            exact sf_some (trivial)
          · skip
            refine sf_ite (fun c11 => ?_) (fun c12 => ?_)
            · skip
              exact sf_some (trivial)
            · skip
              refine sf_ite (fun c13 => ?_) (fun c14 => ?_)
              · skip
                exact sf_some (trivial)
              · skip
                exact sf_some (trivial)
theorem s_X1_opens (h : dH) (I_h : InvC h) (v1 : Int32)  : Sf (f_X1_opens v1 h) (fun o => InvC o.2 ∧ o.2 0 3 = h 0 3 ∧ o.2 1 0 = h 1 0 ∧ o.2 1 5 = h 1 5 ∧ o.2 43 2 = h 43 2 ∧ (o.1.toInt = 0 ∨ v1.toInt < 5)) := by
  unfold f_X1_opens
  have u_v1 := Int32.toInt_lt v1
  have w_v1 := Int32.le_toInt v1
  refine sf_ite (fun c1 => ?_) (fun c2 => ?_)
  · skip
    refine sf_oV (s_X1_next h I_h ) (fun g3 pg3 => ?_)
    obtain ⟨I_g3, ex1, ex2, ex3, ex4, qg3⟩ := pg3
    try simp only at I_g3 ex1 ex2 ex3 ex4 qg3
    have yx5 := congrArg Int32.toInt ex1
    have yx6 := congrArg Int32.toInt ex2
    have yx7 := congrArg Int32.toInt ex3
    have yx8 := congrArg Int32.toInt ex4
    have tx9 : (1 : Int32).toInt = 1 := by decide
    exact sf_some (⟨I_g3, ex1, ex2, ex3, ex4, (show (1 : Int32).toInt = 0 ∨ v1.toInt < 5 by omega)⟩)
  · skip
    refine sf_oV (s_X1_fail h I_h ) (fun g4 pg4 => ?_)
    obtain ⟨I_g4, ex10, ex11, ex12, ex13, ex14, qg4⟩ := pg4
    try simp only at I_g4 ex10 ex11 ex12 ex13 ex14 qg4
    have yx15 := congrArg Int32.toInt ex10
    have yx16 := congrArg Int32.toInt ex11
    have yx17 := congrArg Int32.toInt ex12
    have yx18 := congrArg Int32.toInt ex13
    have yx19 := congrArg Int32.toInt ex14
    have tx20 : (0 : Int32).toInt = 0 := by decide
    exact sf_some (⟨I_g4, ex10, ex11, ex12, ex14, (show (0 : Int32).toInt = 0 ∨ v1.toInt < 5 by omega)⟩)
theorem s_X1_operationOf (h : dH) (I_h : InvC h) (v0 : Int32)  : Sf (f_X1_operationOf v0) (fun r => True) := by
  unfold f_X1_operationOf
  have u_v0 := Int32.toInt_lt v0
  have w_v0 := Int32.le_toInt v0
  refine sf_ite (fun c1 => ?_) (fun c2 => ?_)
  · skip
    exact sf_some (trivial)
  · skip
    refine sf_ite (fun c3 => ?_) (fun c4 => ?_)
    · skip
      exact sf_some (trivial)
    · skip
      refine sf_ite (fun c5 => ?_) (fun c6 => ?_)
      · skip
        exact sf_some (trivial)
      · skip
        refine sf_ite (fun c7 => ?_) (fun c8 => ?_)
        · skip
          exact sf_some (trivial)
        · skip
          refine sf_ite (fun c9 => ?_) (fun c10 => ?_)
          · skip
            exact sf_some (trivial)
          · skip
            refine sf_ite (fun c11 => ?_) (fun c12 => ?_)
            · skip
              exact sf_some (trivial)
            · skip
              exact sf_some (trivial)
theorem s_X1_readOne (rec : Int32 → Int32 → dH → Option dH) {N : Int} (hrec : ∀ (g : dH) (Ig : InvC g) (l o : Int32), 0 ≤ l.toInt ∧ l.toInt ≤ 5 → 0 ≤ o.toInt ∧ o.toInt ≤ 5 → (5 - o.toInt) * 7 + (6 - l.toInt) < N → Sf (rec l o g) (fun o => InvC o ∧ o 0 3 = g 0 3 ∧ o 1 0 = g 1 0 ∧ o 1 5 = g 1 5 ∧ o 43 2 = g 43 2 ∧ True)) : ∀ (n : Nat) (h : dH) (I_h : InvC h) (v1 : Int32), 0 ≤ v1.toInt ∧ v1.toInt ≤ 5 → (5 - v1.toInt) * 7 + 1 ≤ N → 5 - v1.toInt < (n : Int) → Sf (f_X1_readOne rec n v1 h) (fun o => InvC o ∧ o 0 3 = h 0 3 ∧ o 1 0 = h 1 0 ∧ o 1 5 = h 1 5 ∧ o 43 2 = h 43 2 ∧ True)
  | 0, h, I_h, v1, q0, q1, q2 => by omega
  | n + 1, h, I_h, v1, q0, q1, q2 => by
    rw [f_X1_readOne]
    have u_v1 := Int32.toInt_lt v1
    have w_v1 := Int32.le_toInt v1
    refine sf_ite (fun c1 => ?_) (fun c2 => ?_)
    · skip
      have bx1 := I_h 42 2 (0) (160) rfl
      refine sf_guard (by omega) (fun c3 => ?_)
      refine sf_oV (s_X5_write h I_h (dtx (h 42 1)) (zT_dtx _) (h 4 ((h 42 2).toInt.toNat))) (fun g4 pg4 => ?_)
      obtain ⟨I_g4, ex2, ex3, ex4, ex5, ex6, qg4⟩ := pg4
      try simp only at I_g4 ex2 ex3 ex4 ex5 ex6 qg4
      have yx7 := congrArg Int32.toInt ex2
      have yx8 := congrArg Int32.toInt ex3
      have yx9 := congrArg Int32.toInt ex4
      have yx10 := congrArg Int32.toInt ex5
      have yx11 := congrArg Int32.toInt ex6
      refine sf_oV (s_X1_next g4 I_g4 ) (fun g5 pg5 => ?_)
      obtain ⟨I_g5, ex12, ex13, ex14, ex15, qg5⟩ := pg5
      try simp only at I_g5 ex12 ex13 ex14 ex15 qg5
      have yx16 := congrArg Int32.toInt ex12
      have yx17 := congrArg Int32.toInt ex13
      have yx18 := congrArg Int32.toInt ex14
      have yx19 := congrArg Int32.toInt ex15
      exact sf_some (⟨I_g5, (ex12.trans ex2), (ex13.trans ex3), (ex14.trans ex4), (ex15.trans ex6), trivial⟩)
    · skip
      refine sf_ite (fun c6 => ?_) (fun c7 => ?_)
      · skip
        have bx20 := I_h 42 2 (0) (160) rfl
        refine sf_guard (by omega) (fun c8 => ?_)
        refine sf_oV (s_X5_write h I_h (dtx (h 42 1)) (zT_dtx _) (h 4 ((h 42 2).toInt.toNat))) (fun g9 pg9 => ?_)
        obtain ⟨I_g9, ex21, ex22, ex23, ex24, ex25, qg9⟩ := pg9
        try simp only at I_g9 ex21 ex22 ex23 ex24 ex25 qg9
        have yx26 := congrArg Int32.toInt ex21
        have yx27 := congrArg Int32.toInt ex22
        have yx28 := congrArg Int32.toInt ex23
        have yx29 := congrArg Int32.toInt ex24
        have yx30 := congrArg Int32.toInt ex25
        refine sf_oV (s_X1_next g9 I_g9 ) (fun g10 pg10 => ?_)
        obtain ⟨I_g10, ex31, ex32, ex33, ex34, qg10⟩ := pg10
        try simp only at I_g10 ex31 ex32 ex33 ex34 qg10
        have yx35 := congrArg Int32.toInt ex31
        have yx36 := congrArg Int32.toInt ex32
        have yx37 := congrArg Int32.toInt ex33
        have yx38 := congrArg Int32.toInt ex34
        exact sf_some (⟨I_g10, (ex31.trans ex21), (ex32.trans ex22), (ex33.trans ex23), (ex34.trans ex25), trivial⟩)
      · skip
        refine sf_ite (fun c11 => ?_) (fun c12 => ?_)
        · skip
          refine sf_oI (s_X1_opens h I_h v1) (fun r13 g14 pg14 => ?_)
          obtain ⟨I_g14, ex39, ex40, ex41, ex42, qg14⟩ := pg14
          try simp only at I_g14 ex39 ex40 ex41 ex42 qg14
          have yx43 := congrArg Int32.toInt ex39
          have yx44 := congrArg Int32.toInt ex40
          have yx45 := congrArg Int32.toInt ex41
          have yx46 := congrArg Int32.toInt ex42
          refine sf_ite (fun c15 => ?_) (fun c16 => ?_)
          · skip
            exact sf_some (⟨I_g14, ex39, ex40, ex41, ex42, trivial⟩)
          · skip
            try have tx47 : (v1 + 1).toInt = v1.toInt + 1 := i_add rfl (by decide) (by omega) (by omega)
            refine sf_oV (s_X1_readOne rec hrec n g14 I_g14 (v1 + 1) (by omega) (by omega) (by omega)) (fun g17 pg17 => ?_)
            obtain ⟨I_g17, ex48, ex49, ex50, ex51, qg17⟩ := pg17
            try simp only at I_g17 ex48 ex49 ex50 ex51 qg17
            have yx52 := congrArg Int32.toInt ex48
            have yx53 := congrArg Int32.toInt ex49
            have yx54 := congrArg Int32.toInt ex50
            have yx55 := congrArg Int32.toInt ex51
            have tx56 : ((-15) : Int32).toInt = (-15) := by decide
            refine sf_oV (s_X5_write g17 I_g17 (dtx (g17 42 1)) (zT_dtx _) ((-15) : Int32)) (fun g18 pg18 => ?_)
            obtain ⟨I_g18, ex57, ex58, ex59, ex60, ex61, qg18⟩ := pg18
            try simp only at I_g18 ex57 ex58 ex59 ex60 ex61 qg18
            have yx62 := congrArg Int32.toInt ex57
            have yx63 := congrArg Int32.toInt ex58
            have yx64 := congrArg Int32.toInt ex59
            have yx65 := congrArg Int32.toInt ex60
            have yx66 := congrArg Int32.toInt ex61
            exact sf_some (⟨I_g18, (ex57.trans (ex48.trans ex39)), (ex58.trans (ex49.trans ex40)), (ex59.trans (ex50.trans ex41)), (ex61.trans (ex51.trans ex42)), trivial⟩)
        · skip
          refine sf_ite (fun c19 => ?_) (fun c20 => ?_)
          · skip
            refine sf_oI (s_X1_opens h I_h v1) (fun r21 g22 pg22 => ?_)
            obtain ⟨I_g22, ex67, ex68, ex69, ex70, qg22⟩ := pg22
            try simp only at I_g22 ex67 ex68 ex69 ex70 qg22
            have yx71 := congrArg Int32.toInt ex67
            have yx72 := congrArg Int32.toInt ex68
            have yx73 := congrArg Int32.toInt ex69
            have yx74 := congrArg Int32.toInt ex70
            refine sf_ite (fun c23 => ?_) (fun c24 => ?_)
            · skip
              exact sf_some (⟨I_g22, ex67, ex68, ex69, ex70, trivial⟩)
            · skip
              have tx75 : (0 : Int32).toInt = 0 := by decide
              try have tx76 : (v1 + 1).toInt = v1.toInt + 1 := i_add rfl (by decide) (by omega) (by omega)
              refine sf_oV (hrec g22 I_g22 (0 : Int32) (v1 + 1) (by omega) (by omega) (by omega)) (fun g25 pg25 => ?_)
              obtain ⟨I_g25, ex77, ex78, ex79, ex80, qg25⟩ := pg25
              try simp only at I_g25 ex77 ex78 ex79 ex80 qg25
              have yx81 := congrArg Int32.toInt ex77
              have yx82 := congrArg Int32.toInt ex78
              have yx83 := congrArg Int32.toInt ex79
              have yx84 := congrArg Int32.toInt ex80
              have tx85 : (41 : Int32).toInt = 41 := by decide
              refine sf_oV (s_X1_expect g25 I_g25 (41 : Int32)) (fun g26 pg26 => ?_)
              obtain ⟨I_g26, ex86, ex87, ex88, ex89, qg26⟩ := pg26
              try simp only at I_g26 ex86 ex87 ex88 ex89 qg26
              have yx90 := congrArg Int32.toInt ex86
              have yx91 := congrArg Int32.toInt ex87
              have yx92 := congrArg Int32.toInt ex88
              have yx93 := congrArg Int32.toInt ex89
              exact sf_some (⟨I_g26, (ex86.trans (ex77.trans ex67)), (ex87.trans (ex78.trans ex68)), (ex88.trans (ex79.trans ex69)), (ex89.trans (ex80.trans ex70)), trivial⟩)
          · skip
            refine sf_oV (s_X1_fail h I_h ) (fun g27 pg27 => ?_)
            obtain ⟨I_g27, ex94, ex95, ex96, ex97, ex98, qg27⟩ := pg27
            try simp only at I_g27 ex94 ex95 ex96 ex97 ex98 qg27
            have yx99 := congrArg Int32.toInt ex94
            have yx100 := congrArg Int32.toInt ex95
            have yx101 := congrArg Int32.toInt ex96
            have yx102 := congrArg Int32.toInt ex97
            have yx103 := congrArg Int32.toInt ex98
            exact sf_some (⟨I_g27, ex94, ex95, ex96, ex98, trivial⟩)
theorem sl_X1_read_76 (rec : Int32 → Int32 → dH → Option dH) {N : Int} (hrec : ∀ (g : dH) (Ig : InvC g) (l o : Int32), 0 ≤ l.toInt ∧ l.toInt ≤ 5 → 0 ≤ o.toInt ∧ o.toInt ≤ 5 → (5 - o.toInt) * 7 + (6 - l.toInt) < N → Sf (rec l o g) (fun o => InvC o ∧ o 0 3 = g 0 3 ∧ o 1 0 = g 1 0 ∧ o 1 5 = g 1 5 ∧ o 43 2 = g 43 2 ∧ True)) (v1 : Int32) (v2 : Int32) (v3 : Int32)  (h0 : dH) (I_h0 : InvC h0) (r_v1 : 0 ≤ v1.toInt ∧ v1.toInt ≤ 5) (r_v2 : 0 ≤ v2.toInt ∧ v2.toInt ≤ 5) (rn0 : v3.toInt ≤ 160 ∧ v1.toInt ≤ 4) (rn1 : (5 - v2.toInt) * 7 + (6 - v1.toInt) ≤ N) (k : dH → Option (dH)) (Q : dH → Prop) (hk : ∀  (g : dH) (Ig : InvC g) (e0 : g 0 3 = h0 0 3) (e1 : g 1 0 = h0 1 0) (e2 : g 1 5 = h0 1 5) (e3 : g 43 2 = h0 43 2), True → Sf (k  g) Q)  : ∀ (n : Nat) (v4 : Int32) (h : dH) (I_h : InvC h) (e0 : h 0 3 = h0 0 3) (e1 : h 1 0 = h0 1 0) (e2 : h 1 5 = h0 1 5) (e3 : h 43 2 = h0 43 2), 0 ≤ v4.toInt ∧ v4.toInt ≤ 160 → 160 - v4.toInt < (n : Int) → Sf (l_X1_read_76 rec v1 v2 v3 k n v4 h) Q
  | 0, v4, h, I_h, e0, e1, e2, e3, hi, hm => by omega
  | n + 1, v4, h, I_h, e0, e1, e2, e3, hi, hm => by
    rw [l_X1_read_76]
    have yx47 := congrArg Int32.toInt e0
    have yx48 := congrArg Int32.toInt e1
    have yx49 := congrArg Int32.toInt e2
    have yx50 := congrArg Int32.toInt e3
    refine sf_ite (fun c17 => ?_) (fun c18 => ?_)
    · skip
      refine sf_oP (s_X1_levelOf h I_h (h 42 3)) (fun r19 pr19 => ?_)
      refine sf_ite (fun c20 => ?_) (fun c21 => ?_)
      · skip
        refine sf_oP (s_X1_operationOf h I_h (h 42 3)) (fun r22 pr22 => ?_)
        refine sf_oV (s_X1_next h I_h ) (fun g23 pg23 => ?_)
        obtain ⟨I_g23, ex51, ex52, ex53, ex54, qg23⟩ := pg23
        try simp only at I_g23 ex51 ex52 ex53 ex54 qg23
        have yx55 := congrArg Int32.toInt ex51
        have yx56 := congrArg Int32.toInt ex52
        have yx57 := congrArg Int32.toInt ex53
        have yx58 := congrArg Int32.toInt ex54
        try have tx59 : (v1 + 1).toInt = v1.toInt + 1 := i_add rfl (by decide) (by omega) (by omega)
        refine sf_oV (hrec g23 I_g23 (v1 + 1) v2 (by omega) (by omega) (by omega)) (fun g24 pg24 => ?_)
        obtain ⟨I_g24, ex60, ex61, ex62, ex63, qg24⟩ := pg24
        try simp only at I_g24 ex60 ex61 ex62 ex63 qg24
        have yx64 := congrArg Int32.toInt ex60
        have yx65 := congrArg Int32.toInt ex61
        have yx66 := congrArg Int32.toInt ex62
        have yx67 := congrArg Int32.toInt ex63
        refine sf_oV (s_X5_write g24 I_g24 (dtx (g24 42 1)) (zT_dtx _) r22) (fun g25 pg25 => ?_)
        obtain ⟨I_g25, ex68, ex69, ex70, ex71, ex72, qg25⟩ := pg25
        try simp only at I_g25 ex68 ex69 ex70 ex71 ex72 qg25
        have yx73 := congrArg Int32.toInt ex68
        have yx74 := congrArg Int32.toInt ex69
        have yx75 := congrArg Int32.toInt ex70
        have yx76 := congrArg Int32.toInt ex71
        have yx77 := congrArg Int32.toInt ex72
        try have tx78 : (v4 + 1).toInt = v4.toInt + 1 := i_add rfl (by decide) (by omega) (by omega)
        exact sl_X1_read_76 rec hrec  v1 v2 v3  h0 I_h0 r_v1 r_v2 rn0 rn1 k Q hk n (v4 + 1) g25 I_g25 (ex68.trans (ex60.trans (ex51.trans e0))) (ex69.trans (ex61.trans (ex52.trans e1))) (ex70.trans (ex62.trans (ex53.trans e2))) (ex72.trans (ex63.trans (ex54.trans e3))) (by first | trivial | omega) (by omega)
      · skip
        exact hk  h I_h e0 e1 e2 e3 (by first | trivial | omega)
    · skip
      exact hk  h I_h e0 e1 e2 e3 (by first | trivial | omega)
theorem s_X1_readB (rec : Int32 → Int32 → dH → Option dH) {N : Int} (hrec : ∀ (g : dH) (Ig : InvC g) (l o : Int32), 0 ≤ l.toInt ∧ l.toInt ≤ 5 → 0 ≤ o.toInt ∧ o.toInt ≤ 5 → (5 - o.toInt) * 7 + (6 - l.toInt) < N → Sf (rec l o g) (fun o => InvC o ∧ o 0 3 = g 0 3 ∧ o 1 0 = g 1 0 ∧ o 1 5 = g 1 5 ∧ o 43 2 = g 43 2 ∧ True)) (h : dH) (I_h : InvC h) (v1 v2 : Int32) (q0 : 0 ≤ v1.toInt ∧ v1.toInt ≤ 5) (q1 : 0 ≤ v2.toInt ∧ v2.toInt ≤ 5) (q2 : (5 - v2.toInt) * 7 + (6 - v1.toInt) ≤ N) : Sf (f_X1_readB rec v1 v2 h) (fun o => InvC o ∧ o 0 3 = h 0 3 ∧ o 1 0 = h 1 0 ∧ o 1 5 = h 1 5 ∧ o 43 2 = h 43 2 ∧ True) := by
  unfold f_X1_readB
  have u_v1 := Int32.toInt_lt v1
  have w_v1 := Int32.le_toInt v1
  have u_v2 := Int32.toInt_lt v2
  have w_v2 := Int32.le_toInt v2
  refine sf_ite (fun c1 => ?_) (fun c2 => ?_)
  · skip
    refine sf_oV (s_X1_readOne rec hrec 10 h I_h v2 (by omega) (by omega) (by omega)) (fun g3 pg3 => ?_)
    obtain ⟨I_g3, ex1, ex2, ex3, ex4, qg3⟩ := pg3
    try simp only at I_g3 ex1 ex2 ex3 ex4 qg3
    have yx5 := congrArg Int32.toInt ex1
    have yx6 := congrArg Int32.toInt ex2
    have yx7 := congrArg Int32.toInt ex3
    have yx8 := congrArg Int32.toInt ex4
    exact sf_some (⟨I_g3, ex1, ex2, ex3, ex4, trivial⟩)
  · skip
    refine sf_ite (fun c4 => ?_) (fun c5 => ?_)
    · skip
      refine sf_ite (fun c6 => ?_) (fun c7 => ?_)
      · skip
        refine sf_oI (s_X1_opens h I_h v2) (fun r8 g9 pg9 => ?_)
        obtain ⟨I_g9, ex9, ex10, ex11, ex12, qg9⟩ := pg9
        try simp only at I_g9 ex9 ex10 ex11 ex12 qg9
        have yx13 := congrArg Int32.toInt ex9
        have yx14 := congrArg Int32.toInt ex10
        have yx15 := congrArg Int32.toInt ex11
        have yx16 := congrArg Int32.toInt ex12
        refine sf_ite (fun c10 => ?_) (fun c11 => ?_)
        · skip
          exact sf_some (⟨I_g9, ex9, ex10, ex11, ex12, trivial⟩)
        · skip
          have tx17 : (2 : Int32).toInt = 2 := by decide
          try have tx18 : (v2 + 1).toInt = v2.toInt + 1 := i_add rfl (by decide) (by omega) (by omega)
          refine sf_oV (hrec g9 I_g9 (2 : Int32) (v2 + 1) (by omega) (by omega) (by omega)) (fun g12 pg12 => ?_)
          obtain ⟨I_g12, ex19, ex20, ex21, ex22, qg12⟩ := pg12
          try simp only at I_g12 ex19 ex20 ex21 ex22 qg12
          have yx23 := congrArg Int32.toInt ex19
          have yx24 := congrArg Int32.toInt ex20
          have yx25 := congrArg Int32.toInt ex21
          have yx26 := congrArg Int32.toInt ex22
          have tx27 : ((-14) : Int32).toInt = (-14) := by decide
          refine sf_oV (s_X5_write g12 I_g12 (dtx (g12 42 1)) (zT_dtx _) ((-14) : Int32)) (fun g13 pg13 => ?_)
          obtain ⟨I_g13, ex28, ex29, ex30, ex31, ex32, qg13⟩ := pg13
          try simp only at I_g13 ex28 ex29 ex30 ex31 ex32 qg13
          have yx33 := congrArg Int32.toInt ex28
          have yx34 := congrArg Int32.toInt ex29
          have yx35 := congrArg Int32.toInt ex30
          have yx36 := congrArg Int32.toInt ex31
          have yx37 := congrArg Int32.toInt ex32
          exact sf_some (⟨I_g13, (ex28.trans (ex19.trans ex9)), (ex29.trans (ex20.trans ex10)), (ex30.trans (ex21.trans ex11)), (ex32.trans (ex22.trans ex12)), trivial⟩)
      · skip
        try have tx38 : (v1 + 1).toInt = v1.toInt + 1 := i_add rfl (by decide) (by omega) (by omega)
        refine sf_oV (hrec h I_h (v1 + 1) v2 (by omega) (by omega) (by omega)) (fun g14 pg14 => ?_)
        obtain ⟨I_g14, ex39, ex40, ex41, ex42, qg14⟩ := pg14
        try simp only at I_g14 ex39 ex40 ex41 ex42 qg14
        have yx43 := congrArg Int32.toInt ex39
        have yx44 := congrArg Int32.toInt ex40
        have yx45 := congrArg Int32.toInt ex41
        have yx46 := congrArg Int32.toInt ex42
        refine sf_ite (fun c15 => ?_) (fun c16 => ?_)
        · skip
          have tx79 : (1 : Int32).toInt = 1 := by decide
          have tx80 : (0 : Int32).toInt = 0 := by decide
          refine sl_X1_read_76 rec hrec v1 v2 (1 : Int32)  g14 I_g14 (by omega) (by omega) (by omega) (by omega) _ _ (fun g28 I_g28 eg28_0 eg28_1 eg28_2 eg28_3 px81 => ?_)  fuel0 (0 : Int32) g14 I_g14 rfl rfl rfl rfl (by first | trivial | omega) (by have := fuel0_eq; omega)
          have yx82 := congrArg Int32.toInt eg28_0
          have yx83 := congrArg Int32.toInt eg28_1
          have yx84 := congrArg Int32.toInt eg28_2
          have yx85 := congrArg Int32.toInt eg28_3
          exact sf_some (⟨I_g28, (eg28_0.trans ex39), (eg28_1.trans ex40), (eg28_2.trans ex41), (eg28_3.trans ex42), trivial⟩)
        · skip
          have tx86 : (160 : Int32).toInt = 160 := by decide
          have tx87 : (0 : Int32).toInt = 0 := by decide
          refine sl_X1_read_76 rec hrec v1 v2 (160 : Int32)  g14 I_g14 (by omega) (by omega) (by omega) (by omega) _ _ (fun g31 I_g31 eg31_0 eg31_1 eg31_2 eg31_3 px88 => ?_)  fuel0 (0 : Int32) g14 I_g14 rfl rfl rfl rfl (by first | trivial | omega) (by have := fuel0_eq; omega)
          have yx89 := congrArg Int32.toInt eg31_0
          have yx90 := congrArg Int32.toInt eg31_1
          have yx91 := congrArg Int32.toInt eg31_2
          have yx92 := congrArg Int32.toInt eg31_3
          exact sf_some (⟨I_g31, (eg31_0.trans ex39), (eg31_1.trans ex40), (eg31_2.trans ex41), (eg31_3.trans ex42), trivial⟩)
    · skip
      try have tx93 : (v1 + 1).toInt = v1.toInt + 1 := i_add rfl (by decide) (by omega) (by omega)
      refine sf_oV (hrec h I_h (v1 + 1) v2 (by omega) (by omega) (by omega)) (fun g32 pg32 => ?_)
      obtain ⟨I_g32, ex94, ex95, ex96, ex97, qg32⟩ := pg32
      try simp only at I_g32 ex94 ex95 ex96 ex97 qg32
      have yx98 := congrArg Int32.toInt ex94
      have yx99 := congrArg Int32.toInt ex95
      have yx100 := congrArg Int32.toInt ex96
      have yx101 := congrArg Int32.toInt ex97
      refine sf_ite (fun c33 => ?_) (fun c34 => ?_)
      · skip
        have tx102 : (1 : Int32).toInt = 1 := by decide
        have tx103 : (0 : Int32).toInt = 0 := by decide
        refine sl_X1_read_76 rec hrec v1 v2 (1 : Int32)  g32 I_g32 (by omega) (by omega) (by omega) (by omega) _ _ (fun g37 I_g37 eg37_0 eg37_1 eg37_2 eg37_3 px104 => ?_)  fuel0 (0 : Int32) g32 I_g32 rfl rfl rfl rfl (by first | trivial | omega) (by have := fuel0_eq; omega)
        have yx105 := congrArg Int32.toInt eg37_0
        have yx106 := congrArg Int32.toInt eg37_1
        have yx107 := congrArg Int32.toInt eg37_2
        have yx108 := congrArg Int32.toInt eg37_3
        exact sf_some (⟨I_g37, (eg37_0.trans ex94), (eg37_1.trans ex95), (eg37_2.trans ex96), (eg37_3.trans ex97), trivial⟩)
      · skip
        have tx109 : (160 : Int32).toInt = 160 := by decide
        have tx110 : (0 : Int32).toInt = 0 := by decide
        refine sl_X1_read_76 rec hrec v1 v2 (160 : Int32)  g32 I_g32 (by omega) (by omega) (by omega) (by omega) _ _ (fun g40 I_g40 eg40_0 eg40_1 eg40_2 eg40_3 px111 => ?_)  fuel0 (0 : Int32) g32 I_g32 rfl rfl rfl rfl (by first | trivial | omega) (by have := fuel0_eq; omega)
        have yx112 := congrArg Int32.toInt eg40_0
        have yx113 := congrArg Int32.toInt eg40_1
        have yx114 := congrArg Int32.toInt eg40_2
        have yx115 := congrArg Int32.toInt eg40_3
        exact sf_some (⟨I_g40, (eg40_0.trans ex94), (eg40_1.trans ex95), (eg40_2.trans ex96), (eg40_3.trans ex97), trivial⟩)
theorem s_X1_read : ∀ (n : Nat) (h : dH) (I_h : InvC h) (v1 v2 : Int32), 0 ≤ v1.toInt ∧ v1.toInt ≤ 5 → 0 ≤ v2.toInt ∧ v2.toInt ≤ 5 → (5 - v2.toInt) * 7 + (6 - v1.toInt) < (n : Int) → Sf (f_X1_read n v1 v2 h) (fun o => InvC o ∧ o 0 3 = h 0 3 ∧ o 1 0 = h 1 0 ∧ o 1 5 = h 1 5 ∧ o 43 2 = h 43 2 ∧ True)
  | 0, h, I_h, v1, v2, q0, q1, q2 => by omega
  | n + 1, h, I_h, v1, v2, q0, q1, q2 => s_X1_readB (f_X1_read n) (N := n) (fun g Ig l o a b c => s_X1_read n g Ig l o a b c) h I_h v1 v2 q0 q1 (by omega)
theorem s_X1_readPart (h : dH) (I_h : InvC h) (v1 : Int32) (v2 : Int32) (q0 : 0 ≤ v2.toInt ∧ v2.toInt ≤ 2) : Sf (f_X1_readPart v1 v2 h) (fun o => InvC o ∧ o 0 3 = h 0 3 ∧ o 1 0 = h 1 0 ∧ o 1 5 = h 1 5 ∧ o 43 2 = h 43 2 ∧ True) := by
  unfold f_X1_readPart
  have u_v1 := Int32.toInt_lt v1
  have w_v1 := Int32.le_toInt v1
  have u_v2 := Int32.toInt_lt v2
  have w_v2 := Int32.le_toInt v2
  refine sf_oV (s_X1_expect h I_h v1) (fun g1 pg1 => ?_)
  obtain ⟨I_g1, ex1, ex2, ex3, ex4, qg1⟩ := pg1
  try simp only at I_g1 ex1 ex2 ex3 ex4 qg1
  have yx5 := congrArg Int32.toInt ex1
  have yx6 := congrArg Int32.toInt ex2
  have yx7 := congrArg Int32.toInt ex3
  have yx8 := congrArg Int32.toInt ex4
  have tx9 : (0 : Int32).toInt = 0 := by decide
  refine sf_oV (s_X1_read recF g1 I_g1 (0 : Int32) (0 : Int32) (by omega) (by omega) (by have : ((recF : Nat) : Int) = 45 := rfl; omega)) (fun g2 pg2 => ?_)
  obtain ⟨I_g2, ex10, ex11, ex12, ex13, qg2⟩ := pg2
  try simp only at I_g2 ex10 ex11 ex12 ex13 qg2
  have yx14 := congrArg Int32.toInt ex10
  have yx15 := congrArg Int32.toInt ex11
  have yx16 := congrArg Int32.toInt ex12
  have yx17 := congrArg Int32.toInt ex13
  have tx18 : (59 : Int32).toInt = 59 := by decide
  refine sf_oV (s_X1_expect g2 I_g2 (59 : Int32)) (fun g3 pg3 => ?_)
  obtain ⟨I_g3, ex19, ex20, ex21, ex22, qg3⟩ := pg3
  try simp only at I_g3 ex19 ex20 ex21 ex22 qg3
  have yx23 := congrArg Int32.toInt ex19
  have yx24 := congrArg Int32.toInt ex20
  have yx25 := congrArg Int32.toInt ex21
  have yx26 := congrArg Int32.toInt ex22
  refine sf_oV (s_X5_endPart g3 I_g3 (dtx (g3 42 1)) (zT_dtx _) v2 (by omega)) (fun g4 pg4 => ?_)
  obtain ⟨I_g4, ex27, ex28, ex29, ex30, ex31, qg4⟩ := pg4
  try simp only at I_g4 ex27 ex28 ex29 ex30 ex31 qg4
  have yx32 := congrArg Int32.toInt ex27
  have yx33 := congrArg Int32.toInt ex28
  have yx34 := congrArg Int32.toInt ex29
  have yx35 := congrArg Int32.toInt ex30
  have yx36 := congrArg Int32.toInt ex31
  exact sf_some (⟨I_g4, (ex27.trans (ex19.trans (ex10.trans ex1))), (ex28.trans (ex20.trans (ex11.trans ex2))), (ex29.trans (ex21.trans (ex12.trans ex3))), (ex31.trans (ex22.trans (ex13.trans ex4))), trivial⟩)
theorem s_X1_readInto (h : dH) (I_h : InvC h) (a1 : Nat) (ha1 : zT a1)  : Sf (f_X1_readInto a1 h) (fun o => InvC o.2 ∧ o.2 0 3 = h 0 3 ∧ o.2 1 0 = h 1 0 ∧ o.2 43 2 = h 43 2 ∧ True) := by
  unfold f_X1_readInto
  have z_a1 : a1 = 10 ∨ a1 = 14 ∨ a1 = 18 ∨ a1 = 22 ∨ a1 = 26 ∨ a1 = 30 := ha1
  refine sf_oH (fun g1 hg1 => ?_)
  have I_g1 : InvC g1 := by rw [hg1]; exact inv_free I_h rfl
  have ex1 : g1 0 3 = h 0 3 := by rw [hg1]; exact dU_ne (by omega)
  have yx2 := congrArg Int32.toInt ex1
  have ex3 : g1 1 0 = h 1 0 := by rw [hg1]; exact dU_ne (by omega)
  have yx4 := congrArg Int32.toInt ex3
  have ex5 : g1 1 5 = h 1 5 := by rw [hg1]; exact dU_ne (by omega)
  have yx6 := congrArg Int32.toInt ex5
  have ex7 : g1 42 2 = h 42 2 := by rw [hg1]; exact dU_ne (by omega)
  have yx8 := congrArg Int32.toInt ex7
  have ex9 : g1 43 2 = h 43 2 := by rw [hg1]; exact dU_ne (by omega)
  have yx10 := congrArg Int32.toInt ex9
  have ex11 : g1 a1 1 = h a1 1 := by rw [hg1]; exact dU_ne (by omega)
  have yx12 := congrArg Int32.toInt ex11
  refine sf_oV (s_X5_clear g1 I_g1 (dtx (g1 42 1)) (zT_dtx _)) (fun g2 pg2 => ?_)
  obtain ⟨I_g2, ex13, ex14, ex15, ex16, ex17, qg2⟩ := pg2
  try simp only at I_g2 ex13 ex14 ex15 ex16 ex17 qg2
  have yx18 := congrArg Int32.toInt ex13
  have yx19 := congrArg Int32.toInt ex14
  have yx20 := congrArg Int32.toInt ex15
  have yx21 := congrArg Int32.toInt ex16
  have yx22 := congrArg Int32.toInt ex17
  refine sf_oV (s_X4_cut g2 I_g2 ) (fun g3 pg3 => ?_)
  obtain ⟨I_g3, ex23, ex24, ex25, ex26, qg3⟩ := pg3
  try simp only at I_g3 ex23 ex24 ex25 ex26 qg3
  have yx27 := congrArg Int32.toInt ex23
  have yx28 := congrArg Int32.toInt ex24
  have yx29 := congrArg Int32.toInt ex25
  have yx30 := congrArg Int32.toInt ex26
  refine sf_oH (fun g4 hg4 => ?_)
  have I_g4 : InvC g4 := by rw [hg4]; exact inv_set (l := 0) (u := 160) I_g3 rfl (by decide)
  have ex31 : g4 0 3 = g3 0 3 := by rw [hg4]; exact dU_ne (by omega)
  have yx32 := congrArg Int32.toInt ex31
  have ex33 : g4 1 0 = g3 1 0 := by rw [hg4]; exact dU_ne (by omega)
  have yx34 := congrArg Int32.toInt ex33
  have ex35 : g4 1 5 = g3 1 5 := by rw [hg4]; exact dU_ne (by omega)
  have yx36 := congrArg Int32.toInt ex35
  have ex37 : g4 43 2 = g3 43 2 := by rw [hg4]; exact dU_ne (by omega)
  have yx38 := congrArg Int32.toInt ex37
  have ex39 : g4 a1 1 = g3 a1 1 := by rw [hg4]; exact dU_ne (by omega)
  have yx40 := congrArg Int32.toInt ex39
  have yx41 : (g4 42 2).toInt = 0 := by rw [hg4, dU_eq]; decide
  refine sf_oH (fun g5 hg5 => ?_)
  have I_g5 : InvC g5 := by rw [hg5]; exact inv_free I_g4 rfl
  have ex42 : g5 0 3 = g4 0 3 := by rw [hg5]; exact dU_ne (by omega)
  have yx43 := congrArg Int32.toInt ex42
  have ex44 : g5 1 0 = g4 1 0 := by rw [hg5]; exact dU_ne (by omega)
  have yx45 := congrArg Int32.toInt ex44
  have ex46 : g5 1 5 = g4 1 5 := by rw [hg5]; exact dU_ne (by omega)
  have yx47 := congrArg Int32.toInt ex46
  have ex48 : g5 42 2 = g4 42 2 := by rw [hg5]; exact dU_ne (by omega)
  have yx49 := congrArg Int32.toInt ex48
  have ex50 : g5 43 2 = g4 43 2 := by rw [hg5]; exact dU_ne (by omega)
  have yx51 := congrArg Int32.toInt ex50
  have ex52 : g5 a1 1 = g4 a1 1 := by rw [hg5]; exact dU_ne (by omega)
  have yx53 := congrArg Int32.toInt ex52
  have yx54 : (g5 42 3).toInt = (g4 2 0).toInt := by rw [hg5, dU_eq]
  refine sf_oH (fun g6 hg6 => ?_)
  have I_g6 : InvC g6 := by rw [hg6]; exact inv_free I_g5 rfl
  have ex55 : g6 0 3 = g5 0 3 := by rw [hg6]; exact dU_ne (by omega)
  have yx56 := congrArg Int32.toInt ex55
  have ex57 : g6 1 0 = g5 1 0 := by rw [hg6]; exact dU_ne (by omega)
  have yx58 := congrArg Int32.toInt ex57
  have ex59 : g6 1 5 = g5 1 5 := by rw [hg6]; exact dU_ne (by omega)
  have yx60 := congrArg Int32.toInt ex59
  have ex61 : g6 42 2 = g5 42 2 := by rw [hg6]; exact dU_ne (by omega)
  have yx62 := congrArg Int32.toInt ex61
  have ex63 : g6 43 2 = g5 43 2 := by rw [hg6]; exact dU_ne (by omega)
  have yx64 := congrArg Int32.toInt ex63
  have ex65 : g6 a1 1 = g5 a1 1 := by rw [hg6]; exact dU_ne (by omega)
  have yx66 := congrArg Int32.toInt ex65
  have yx67 : (g6 42 4).toInt = (-1) := by rw [hg6, dU_eq]; decide
  have tx68 : (304 : Int32).toInt = 304 := by decide
  have tx69 : (0 : Int32).toInt = 0 := by decide
  refine sf_oV (s_X1_readPart g6 I_g6 (304 : Int32) (0 : Int32) (by omega)) (fun g7 pg7 => ?_)
  obtain ⟨I_g7, ex70, ex71, ex72, ex73, qg7⟩ := pg7
  try simp only at I_g7 ex70 ex71 ex72 ex73 qg7
  have yx74 := congrArg Int32.toInt ex70
  have yx75 := congrArg Int32.toInt ex71
  have yx76 := congrArg Int32.toInt ex72
  have yx77 := congrArg Int32.toInt ex73
  have tx78 : (305 : Int32).toInt = 305 := by decide
  have tx79 : (1 : Int32).toInt = 1 := by decide
  refine sf_oV (s_X1_readPart g7 I_g7 (305 : Int32) (1 : Int32) (by omega)) (fun g8 pg8 => ?_)
  obtain ⟨I_g8, ex80, ex81, ex82, ex83, qg8⟩ := pg8
  try simp only at I_g8 ex80 ex81 ex82 ex83 qg8
  have yx84 := congrArg Int32.toInt ex80
  have yx85 := congrArg Int32.toInt ex81
  have yx86 := congrArg Int32.toInt ex82
  have yx87 := congrArg Int32.toInt ex83
  have tx88 : (306 : Int32).toInt = 306 := by decide
  have tx89 : (2 : Int32).toInt = 2 := by decide
  refine sf_oV (s_X1_readPart g8 I_g8 (306 : Int32) (2 : Int32) (by omega)) (fun g9 pg9 => ?_)
  obtain ⟨I_g9, ex90, ex91, ex92, ex93, qg9⟩ := pg9
  try simp only at I_g9 ex90 ex91 ex92 ex93 qg9
  have yx94 := congrArg Int32.toInt ex90
  have yx95 := congrArg Int32.toInt ex91
  have yx96 := congrArg Int32.toInt ex92
  have yx97 := congrArg Int32.toInt ex93
  refine sf_ite (fun c10 => ?_) (fun c11 => ?_)
  · skip
    exact sf_some (⟨I_g9, (ex90.trans (ex80.trans (ex70.trans (ex55.trans (ex42.trans (ex31.trans (ex23.trans (ex13.trans ex1)))))))), (ex91.trans (ex81.trans (ex71.trans (ex57.trans (ex44.trans (ex33.trans (ex24.trans (ex14.trans ex3)))))))), (ex93.trans (ex83.trans (ex73.trans (ex63.trans (ex50.trans (ex37.trans (ex26.trans (ex17.trans ex9)))))))), trivial⟩)
  · skip
    refine sf_oV (s_X1_fail g9 I_g9 ) (fun g12 pg12 => ?_)
    obtain ⟨I_g12, ex98, ex99, ex100, ex101, ex102, qg12⟩ := pg12
    try simp only at I_g12 ex98 ex99 ex100 ex101 ex102 qg12
    have yx103 := congrArg Int32.toInt ex98
    have yx104 := congrArg Int32.toInt ex99
    have yx105 := congrArg Int32.toInt ex100
    have yx106 := congrArg Int32.toInt ex101
    have yx107 := congrArg Int32.toInt ex102
    exact sf_some (⟨I_g12, (ex98.trans (ex90.trans (ex80.trans (ex70.trans (ex55.trans (ex42.trans (ex31.trans (ex23.trans (ex13.trans ex1))))))))), (ex99.trans (ex91.trans (ex81.trans (ex71.trans (ex57.trans (ex44.trans (ex33.trans (ex24.trans (ex14.trans ex3))))))))), (ex102.trans (ex93.trans (ex83.trans (ex73.trans (ex63.trans (ex50.trans (ex37.trans (ex26.trans (ex17.trans ex9))))))))), trivial⟩)
end
