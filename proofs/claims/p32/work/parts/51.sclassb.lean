/-! that they answer: X3_seatsAt, X3_seated, X3_look, X5_joined, X5_turned, X5_value, X3_meets, X3_forgets, X3_sounds, X3_holdFeast, X3_endYear, X3_pass, X3_dinAt, X3_quietTable, X4_put, X4_empty (by program) -/
noncomputable section
theorem sl_X3_seatsAt_11 (a0 : Nat) (v1 : Int32) (ha0 : zS a0) (h : dH) (I_h : InvC h)  (k : Int32 → Option (Int32)) (Q : Int32 → Prop) (hk : ∀ (v2 : Int32), True → Sf (k v2) Q)  : ∀ (n : Nat) (v2 : Int32) (v3 : Int32), 0 ≤ v3.toInt ∧ v3.toInt ≤ 8 → 8 - v3.toInt < (n : Int) → Sf (l_X3_seatsAt_11 a0 v1 h k n v2 v3) Q
  | 0, v2, v3, hi, hm => by omega
  | n + 1, v2, v3, hi, hm => by
    rw [l_X3_seatsAt_11]
    have z_a0 : a0 = 43 ∨ a0 = 57 ∨ a0 = 71 := ha0
    have bx1 := I_h a0 2 (0) (8) (bS2 ha0)
    refine sf_ite (fun c3 => ?_) (fun c4 => ?_)
    · skip
      refine sf_guard (by omega) (fun c5 => ?_)
      refine sf_ite (fun c6 => ?_) (fun c7 => ?_)
      · skip
        try have tx2 : (v2 + 1).toInt = v2.toInt + 1 := i_add rfl (by decide) (by omega) (by omega)
        try have tx3 : (v3 + 1).toInt = v3.toInt + 1 := i_add rfl (by decide) (by omega) (by omega)
        exact sl_X3_seatsAt_11  a0 v1 ha0 h I_h  k Q hk n (v2 + 1) (v3 + 1) (by first | trivial | omega) (by omega)
      · skip
        try have tx4 : (v3 + 1).toInt = v3.toInt + 1 := i_add rfl (by decide) (by omega) (by omega)
        exact sl_X3_seatsAt_11  a0 v1 ha0 h I_h  k Q hk n v2 (v3 + 1) (by first | trivial | omega) (by omega)
    · skip
      exact hk v2 (by first | trivial | omega)
theorem s_X3_seatsAt (h : dH) (I_h : InvC h) (a0 : Nat) (ha0 : zS a0) (v1 : Int32)  : Sf (f_X3_seatsAt a0 v1 h) (fun r => True) := by
  unfold f_X3_seatsAt
  have z_a0 : a0 = 43 ∨ a0 = 57 ∨ a0 = 71 := ha0
  have u_v1 := Int32.toInt_lt v1
  have w_v1 := Int32.le_toInt v1
  refine sf_ite (fun c1 => ?_) (fun c2 => ?_)
  · skip
    exact sf_some (trivial)
  · skip
    have tx5 : (0 : Int32).toInt = 0 := by decide
    refine sl_X3_seatsAt_11 a0 v1 ha0 h I_h  _ _ (fun v2_8 px6 => ?_)  fuel0 (0 : Int32) (0 : Int32)  (by first | trivial | omega) (by have := fuel0_eq; omega)
    exact sf_some (trivial)
theorem sl_X3_seated_4 (a0 : Nat) (ha0 : zS a0) (h : dH) (I_h : InvC h)  (k : Int32 → Option (Int32)) (Q : Int32 → Prop) (hk : ∀ (v1 : Int32), True → Sf (k v1) Q)  : ∀ (n : Nat) (v1 : Int32) (v2 : Int32), 0 ≤ v2.toInt ∧ v2.toInt ≤ 4 → 4 - v2.toInt < (n : Int) → Sf (l_X3_seated_4 a0 h k n v1 v2) Q
  | 0, v1, v2, hi, hm => by omega
  | n + 1, v1, v2, hi, hm => by
    rw [l_X3_seated_4]
    have z_a0 : a0 = 43 ∨ a0 = 57 ∨ a0 = 71 := ha0
    refine sf_ite (fun c1 => ?_) (fun c2 => ?_)
    · skip
      refine sf_oP (s_X3_seatsAt h I_h a0 ha0 v2) (fun r3 pr3 => ?_)
      try have tx1 : (v1 + r3).toInt = v1.toInt + r3.toInt := i_add rfl rfl (by omega) (by omega)
      try have tx2 : (v2 + 1).toInt = v2.toInt + 1 := i_add rfl (by decide) (by omega) (by omega)
      exact sl_X3_seated_4  a0 ha0 h I_h  k Q hk n (v1 + r3) (v2 + 1) (by first | trivial | omega) (by omega)
    · skip
      exact hk v1 (by first | trivial | omega)
theorem s_X3_seated (h : dH) (I_h : InvC h) (a0 : Nat) (ha0 : zS a0)  : Sf (f_X3_seated a0 h) (fun r => True) := by
  unfold f_X3_seated
  have z_a0 : a0 = 43 ∨ a0 = 57 ∨ a0 = 71 := ha0
  have tx3 : (0 : Int32).toInt = 0 := by decide
  refine sl_X3_seated_4 a0 ha0 h I_h  _ _ (fun v1_4 px4 => ?_)  fuel0 (0 : Int32) (0 : Int32)  (by first | trivial | omega) (by have := fuel0_eq; omega)
  exact sf_some (trivial)
theorem s_X3_look (h : dH) (I_h : InvC h) (a0 : Nat) (ha0 : zS a0) (v1 : Int32) (v2 : Int32) (q0 : 0 ≤ v1.toInt ∧ v1.toInt ≤ 7) (q1 : 0 ≤ v2.toInt ∧ v2.toInt ≤ 7) : Sf (f_X3_look a0 v1 v2 h) (fun o => InvC o ∧ o 0 3 = h 0 3 ∧ o 1 0 = h 1 0 ∧ o 1 5 = h 1 5 ∧ o 42 2 = h 42 2 ∧ o 43 2 = h 43 2 ∧ True) := by
  unfold f_X3_look
  have z_a0 : a0 = 43 ∨ a0 = 57 ∨ a0 = 71 := ha0
  have u_v1 := Int32.toInt_lt v1
  have w_v1 := Int32.le_toInt v1
  have u_v2 := Int32.toInt_lt v2
  have w_v2 := Int32.le_toInt v2
  refine sf_guard (by omega) (fun c1 => ?_)
  refine sf_guard (by omega) (fun c2 => ?_)
  refine sf_oH (fun g3 hg3 => ?_)
  have I_g3 : InvC g3 := by rw [hg3]; exact inv_free I_h (fS13 ha0)
  have ex1 : g3 0 3 = h 0 3 := by rw [hg3]; exact dU_ne (by omega)
  have yx2 := congrArg Int32.toInt ex1
  have ex3 : g3 1 0 = h 1 0 := by rw [hg3]; exact dU_ne (by omega)
  have yx4 := congrArg Int32.toInt ex3
  have ex5 : g3 1 5 = h 1 5 := by rw [hg3]; exact dU_ne (by omega)
  have yx6 := congrArg Int32.toInt ex5
  have ex7 : g3 42 2 = h 42 2 := by rw [hg3]; exact dU_ne (by omega)
  have yx8 := congrArg Int32.toInt ex7
  have ex9 : g3 43 2 = h 43 2 := by rw [hg3]; exact dU_ne (by omega)
  have yx10 := congrArg Int32.toInt ex9
  have ex11 : g3 a0 2 = h a0 2 := by rw [hg3]; exact dU_ne (by omega)
  have yx12 := congrArg Int32.toInt ex11
  refine sf_guard (by omega) (fun c4 => ?_)
  refine sf_oH (fun g5 hg5 => ?_)
  have I_g5 : InvC g5 := by rw [hg5]; exact inv_free I_g3 (fS13 ha0)
  have ex13 : g5 0 3 = g3 0 3 := by rw [hg5]; exact dU_ne (by omega)
  have yx14 := congrArg Int32.toInt ex13
  have ex15 : g5 1 0 = g3 1 0 := by rw [hg5]; exact dU_ne (by omega)
  have yx16 := congrArg Int32.toInt ex15
  have ex17 : g5 1 5 = g3 1 5 := by rw [hg5]; exact dU_ne (by omega)
  have yx18 := congrArg Int32.toInt ex17
  have ex19 : g5 42 2 = g3 42 2 := by rw [hg5]; exact dU_ne (by omega)
  have yx20 := congrArg Int32.toInt ex19
  have ex21 : g5 43 2 = g3 43 2 := by rw [hg5]; exact dU_ne (by omega)
  have yx22 := congrArg Int32.toInt ex21
  have ex23 : g5 a0 2 = g3 a0 2 := by rw [hg5]; exact dU_ne (by omega)
  have yx24 := congrArg Int32.toInt ex23
  refine sf_guard (by omega) (fun c6 => ?_)
  refine sf_oH (fun g7 hg7 => ?_)
  have I_g7 : InvC g7 := by rw [hg7]; exact inv_free I_g5 (fS13 ha0)
  have ex25 : g7 0 3 = g5 0 3 := by rw [hg7]; exact dU_ne (by omega)
  have yx26 := congrArg Int32.toInt ex25
  have ex27 : g7 1 0 = g5 1 0 := by rw [hg7]; exact dU_ne (by omega)
  have yx28 := congrArg Int32.toInt ex27
  have ex29 : g7 1 5 = g5 1 5 := by rw [hg7]; exact dU_ne (by omega)
  have yx30 := congrArg Int32.toInt ex29
  have ex31 : g7 42 2 = g5 42 2 := by rw [hg7]; exact dU_ne (by omega)
  have yx32 := congrArg Int32.toInt ex31
  have ex33 : g7 43 2 = g5 43 2 := by rw [hg7]; exact dU_ne (by omega)
  have yx34 := congrArg Int32.toInt ex33
  have ex35 : g7 a0 2 = g5 a0 2 := by rw [hg7]; exact dU_ne (by omega)
  have yx36 := congrArg Int32.toInt ex35
  refine sf_guard (by omega) (fun c8 => ?_)
  refine sf_oP (s_X3_seatsAt g7 I_g7 a0 ha0 (g7 (a0 + 3) (v1.toInt.toNat))) (fun r9 pr9 => ?_)
  refine sf_oH (fun g10 hg10 => ?_)
  have I_g10 : InvC g10 := by rw [hg10]; exact inv_free I_g7 (fS13 ha0)
  have ex37 : g10 0 3 = g7 0 3 := by rw [hg10]; exact dU_ne (by omega)
  have yx38 := congrArg Int32.toInt ex37
  have ex39 : g10 1 0 = g7 1 0 := by rw [hg10]; exact dU_ne (by omega)
  have yx40 := congrArg Int32.toInt ex39
  have ex41 : g10 1 5 = g7 1 5 := by rw [hg10]; exact dU_ne (by omega)
  have yx42 := congrArg Int32.toInt ex41
  have ex43 : g10 42 2 = g7 42 2 := by rw [hg10]; exact dU_ne (by omega)
  have yx44 := congrArg Int32.toInt ex43
  have ex45 : g10 43 2 = g7 43 2 := by rw [hg10]; exact dU_ne (by omega)
  have yx46 := congrArg Int32.toInt ex45
  have ex47 : g10 a0 2 = g7 a0 2 := by rw [hg10]; exact dU_ne (by omega)
  have yx48 := congrArg Int32.toInt ex47
  refine sf_oH (fun g11 hg11 => ?_)
  have I_g11 : InvC g11 := by rw [hg11]; exact inv_free I_g10 (fS13 ha0)
  have ex49 : g11 0 3 = g10 0 3 := by rw [hg11]; exact dU_ne (by omega)
  have yx50 := congrArg Int32.toInt ex49
  have ex51 : g11 1 0 = g10 1 0 := by rw [hg11]; exact dU_ne (by omega)
  have yx52 := congrArg Int32.toInt ex51
  have ex53 : g11 1 5 = g10 1 5 := by rw [hg11]; exact dU_ne (by omega)
  have yx54 := congrArg Int32.toInt ex53
  have ex55 : g11 42 2 = g10 42 2 := by rw [hg11]; exact dU_ne (by omega)
  have yx56 := congrArg Int32.toInt ex55
  have ex57 : g11 43 2 = g10 43 2 := by rw [hg11]; exact dU_ne (by omega)
  have yx58 := congrArg Int32.toInt ex57
  have ex59 : g11 a0 2 = g10 a0 2 := by rw [hg11]; exact dU_ne (by omega)
  have yx60 := congrArg Int32.toInt ex59
  try have tx61 : (v1 - v2).toInt = v1.toInt - v2.toInt := i_sub rfl rfl (by omega) (by omega)
  refine sf_oH (fun g12 hg12 => ?_)
  have I_g12 : InvC g12 := by rw [hg12]; exact inv_free I_g11 (fS13 ha0)
  have ex62 : g12 0 3 = g11 0 3 := by rw [hg12]; exact dU_ne (by omega)
  have yx63 := congrArg Int32.toInt ex62
  have ex64 : g12 1 0 = g11 1 0 := by rw [hg12]; exact dU_ne (by omega)
  have yx65 := congrArg Int32.toInt ex64
  have ex66 : g12 1 5 = g11 1 5 := by rw [hg12]; exact dU_ne (by omega)
  have yx67 := congrArg Int32.toInt ex66
  have ex68 : g12 42 2 = g11 42 2 := by rw [hg12]; exact dU_ne (by omega)
  have yx69 := congrArg Int32.toInt ex68
  have ex70 : g12 43 2 = g11 43 2 := by rw [hg12]; exact dU_ne (by omega)
  have yx71 := congrArg Int32.toInt ex70
  have ex72 : g12 a0 2 = g11 a0 2 := by rw [hg12]; exact dU_ne (by omega)
  have yx73 := congrArg Int32.toInt ex72
  exact sf_some (⟨I_g12, (ex62.trans (ex49.trans (ex37.trans (ex25.trans (ex13.trans ex1))))), (ex64.trans (ex51.trans (ex39.trans (ex27.trans (ex15.trans ex3))))), (ex66.trans (ex53.trans (ex41.trans (ex29.trans (ex17.trans ex5))))), (ex68.trans (ex55.trans (ex43.trans (ex31.trans (ex19.trans ex7))))), (ex70.trans (ex57.trans (ex45.trans (ex33.trans (ex21.trans ex9))))), trivial⟩)
theorem s_X5_joined (h : dH) (I_h : InvC h) (v0 : Int32) (v1 : Int32) (v2 : Int32)  : Sf (f_X5_joined v0 v1 v2) (fun r => True) := by
  unfold f_X5_joined
  have u_v0 := Int32.toInt_lt v0
  have w_v0 := Int32.le_toInt v0
  have u_v1 := Int32.toInt_lt v1
  have w_v1 := Int32.le_toInt v1
  have u_v2 := Int32.toInt_lt v2
  have w_v2 := Int32.le_toInt v2
  refine sf_ite (fun c1 => ?_) (fun c2 => ?_)
  · skip
    exact sf_some (trivial)
  · skip
    refine sf_ite (fun c3 => ?_) (fun c4 => ?_)
    · skip
      exact sf_some (trivial)
    · skip
      refine sf_ite (fun c5 => ?_) (fun c6 => ?_)
      · skip
        refine sf_ite (fun c7 => ?_) (fun c8 => ?_)
        · skip
          exact sf_some (trivial)
        · skip
          exact sf_some (trivial)
      · skip
        refine sf_ite (fun c9 => ?_) (fun c10 => ?_)
        · skip
          refine sf_ite (fun c11 => ?_) (fun c12 => ?_)
          · skip
            exact sf_some (trivial)
          · skip
            exact sf_some (trivial)
        · skip
          refine sf_ite (fun c13 => ?_) (fun c14 => ?_)
          · skip
            refine sf_ite (fun c15 => ?_) (fun c16 => ?_)
            · skip
              exact sf_some (trivial)
            · skip
              refine sf_ite (fun c17 => ?_) (fun c18 => ?_)
              · skip
                exact sf_some (trivial)
              · skip
                exact sf_some (trivial)
          · skip
            refine sf_ite (fun c19 => ?_) (fun c20 => ?_)
            · skip
              refine sf_ite (fun c21 => ?_) (fun c22 => ?_)
              · skip
                refine sf_ite (fun c23 => ?_) (fun c24 => ?_)
                · skip
                  exact sf_some (trivial)
                · skip
                  exact sf_some (trivial)
              · skip
                exact sf_some (trivial)
            · skip
              exact sf_some (trivial)
theorem s_X5_turned (h : dH) (I_h : InvC h) (v0 : Int32) (v1 : Int32)  : Sf (f_X5_turned v0 v1) (fun r => True) := by
  unfold f_X5_turned
  have u_v0 := Int32.toInt_lt v0
  have w_v0 := Int32.le_toInt v0
  have u_v1 := Int32.toInt_lt v1
  have w_v1 := Int32.le_toInt v1
  refine sf_ite (fun c1 => ?_) (fun c2 => ?_)
  · skip
    exact sf_some (trivial)
  · skip
    refine sf_ite (fun c3 => ?_) (fun c4 => ?_)
    · skip
      exact sf_some (trivial)
    · skip
      exact sf_some (trivial)
theorem sl_X5_value_23 (a0 : Nat) (v1 : Int32) (a2 : Nat) (ha0 : zT a0) (ha2 : zA shC a2 6) (h0 : dH) (I_h0 : InvC h0) (r_v1 : 0 ≤ v1.toInt ∧ v1.toInt ≤ 2) (k : Int32 → dH → Option (Int32 × dH)) (Q : Int32 × dH → Prop) (hk : ∀ (v4 : Int32) (g : dH) (Ig : InvC g) (e0 : g 0 3 = h0 0 3) (e1 : g 1 0 = h0 1 0) (e2 : g 1 5 = h0 1 5) (e3 : g 42 2 = h0 42 2) (e4 : g 43 2 = h0 43 2), True → Sf (k v4 g) Q)  : ∀ (n : Nat) (v4 : Int32) (v5 : Int32) (h : dH) (I_h : InvC h) (e0 : h 0 3 = h0 0 3) (e1 : h 1 0 = h0 1 0) (e2 : h 1 5 = h0 1 5) (e3 : h 42 2 = h0 42 2) (e4 : h 43 2 = h0 43 2), 0 ≤ v4.toInt ∧ v4.toInt ≤ 40 ∧ 0 ≤ v5.toInt ∧ v5.toInt ≤ 160 → 160 - v5.toInt < (n : Int) → Sf (l_X5_value_23 a0 v1 a2 k n v4 v5 h) Q
  | 0, v4, v5, h, I_h, e0, e1, e2, e3, e4, hi, hm => by omega
  | n + 1, v4, v5, h, I_h, e0, e1, e2, e3, e4, hi, hm => by
    rw [l_X5_value_23]
    have yx1 := congrArg Int32.toInt e0
    have yx2 := congrArg Int32.toInt e1
    have yx3 := congrArg Int32.toInt e2
    have yx4 := congrArg Int32.toInt e3
    have yx5 := congrArg Int32.toInt e4
    have z_a0 : a0 = 10 ∨ a0 = 14 ∨ a0 = 18 ∨ a0 = 22 ∨ a0 = 26 ∨ a0 = 30 := ha0
    refine sf_guard (by omega) (fun c3 => ?_)
    have bx6 := I_h (a0 + 2) (v1.toInt.toNat) (0) (160) (bT2 ha0)
    refine sf_ite (fun c4 => ?_) (fun c5 => ?_)
    · skip
      refine sf_guard (by omega) (fun c6 => ?_)
      refine sf_ite (fun c7 => ?_) (fun c8 => ?_)
      · skip
        refine sf_ite (fun c9 => ?_) (fun c10 => ?_)
        · skip
          refine sf_ite (fun c11 => ?_) (fun c12 => ?_)
          · skip
            obtain ⟨yx7, hyx7⟩ : ∃ y : Int32, y = (v4 + (-1)) := ⟨_, rfl⟩
            rw [← hyx7]
            try have tx8 : yx7.toInt = v4.toInt + (-1) := by rw [hyx7]; exact i_add rfl (by decide) (by omega) (by omega)
            clear hyx7
            try have tx9 : (yx7 - 1).toInt = yx7.toInt - 1 := i_sub rfl (by decide) (by omega) (by omega)
            refine sf_guard (by omega) (fun c13 => ?_)
            refine sf_guard (by omega) (fun c14 => ?_)
            refine sf_oP (s_X5_joined h I_h (h (a0 + 1) (v5.toInt.toNat)) (h (a0 + 3) ((yx7 - 1).toInt.toNat)) (h (a0 + 3) (yx7.toInt.toNat))) (fun r15 pr15 => ?_)
            refine sf_guard (by omega) (fun c17 => ?_)
            refine sf_oH (fun g16 hg16 => ?_)
            have I_g16 : InvC g16 := by rw [hg16]; exact inv_free I_h (fT3 ha0)
            have ex10 : g16 0 3 = h 0 3 := by rw [hg16]; exact dU_ne (by omega)
            have yx11 := congrArg Int32.toInt ex10
            have ex12 : g16 1 0 = h 1 0 := by rw [hg16]; exact dU_ne (by omega)
            have yx13 := congrArg Int32.toInt ex12
            have ex14 : g16 1 5 = h 1 5 := by rw [hg16]; exact dU_ne (by omega)
            have yx15 := congrArg Int32.toInt ex14
            have ex16 : g16 42 2 = h 42 2 := by rw [hg16]; exact dU_ne (by omega)
            have yx17 := congrArg Int32.toInt ex16
            have ex18 : g16 43 2 = h 43 2 := by rw [hg16]; exact dU_ne (by omega)
            have yx19 := congrArg Int32.toInt ex18
            have ex20 : g16 a0 1 = h a0 1 := by rw [hg16]; exact dU_ne (by omega)
            have yx21 := congrArg Int32.toInt ex20
            try have tx22 : (v5 + 1).toInt = v5.toInt + 1 := i_add rfl (by decide) (by omega) (by omega)
            exact sl_X5_value_23  a0 v1 a2 ha0 ha2 h0 I_h0 r_v1 k Q hk n yx7 (v5 + 1) g16 I_g16 (ex10.trans e0) (ex12.trans e1) (ex14.trans e2) (ex16.trans e3) (ex18.trans e4) (by first | trivial | omega) (by omega)
          · skip
            try have tx23 : (v5 + 1).toInt = v5.toInt + 1 := i_add rfl (by decide) (by omega) (by omega)
            exact sl_X5_value_23  a0 v1 a2 ha0 ha2 h0 I_h0 r_v1 k Q hk n v4 (v5 + 1) h I_h e0 e1 e2 e3 e4 (by first | trivial | omega) (by omega)
        · skip
          refine sf_ite (fun c18 => ?_) (fun c19 => ?_)
          · skip
            try have tx24 : (v4 - 1).toInt = v4.toInt - 1 := i_sub rfl (by decide) (by omega) (by omega)
            refine sf_guard (by omega) (fun c20 => ?_)
            refine sf_oP (s_X5_turned h I_h (h (a0 + 1) (v5.toInt.toNat)) (h (a0 + 3) ((v4 - 1).toInt.toNat))) (fun r21 pr21 => ?_)
            refine sf_guard (by omega) (fun c23 => ?_)
            refine sf_oH (fun g22 hg22 => ?_)
            have I_g22 : InvC g22 := by rw [hg22]; exact inv_free I_h (fT3 ha0)
            have ex25 : g22 0 3 = h 0 3 := by rw [hg22]; exact dU_ne (by omega)
            have yx26 := congrArg Int32.toInt ex25
            have ex27 : g22 1 0 = h 1 0 := by rw [hg22]; exact dU_ne (by omega)
            have yx28 := congrArg Int32.toInt ex27
            have ex29 : g22 1 5 = h 1 5 := by rw [hg22]; exact dU_ne (by omega)
            have yx30 := congrArg Int32.toInt ex29
            have ex31 : g22 42 2 = h 42 2 := by rw [hg22]; exact dU_ne (by omega)
            have yx32 := congrArg Int32.toInt ex31
            have ex33 : g22 43 2 = h 43 2 := by rw [hg22]; exact dU_ne (by omega)
            have yx34 := congrArg Int32.toInt ex33
            have ex35 : g22 a0 1 = h a0 1 := by rw [hg22]; exact dU_ne (by omega)
            have yx36 := congrArg Int32.toInt ex35
            try have tx37 : (v5 + 1).toInt = v5.toInt + 1 := i_add rfl (by decide) (by omega) (by omega)
            exact sl_X5_value_23  a0 v1 a2 ha0 ha2 h0 I_h0 r_v1 k Q hk n v4 (v5 + 1) g22 I_g22 (ex25.trans e0) (ex27.trans e1) (ex29.trans e2) (ex31.trans e3) (ex33.trans e4) (by first | trivial | omega) (by omega)
          · skip
            try have tx38 : (v5 + 1).toInt = v5.toInt + 1 := i_add rfl (by decide) (by omega) (by omega)
            exact sl_X5_value_23  a0 v1 a2 ha0 ha2 h0 I_h0 r_v1 k Q hk n v4 (v5 + 1) h I_h e0 e1 e2 e3 e4 (by first | trivial | omega) (by omega)
      · skip
        refine sf_ite (fun c24 => ?_) (fun c25 => ?_)
        · skip
          refine sf_ite (fun c26 => ?_) (fun c27 => ?_)
          · skip
            obtain ⟨yx39, hyx39⟩ : ∃ y : Int32, y = ((-1) - (h (a0 + 1) (v5.toInt.toNat))) := ⟨_, rfl⟩
            rw [← hyx39]
            try have tx40 : yx39.toInt = (-1) - (h (a0 + 1) (v5.toInt.toNat)).toInt := by rw [hyx39]; exact i_sub (by decide) rfl (by omega) (by omega)
            clear hyx39
            refine sf_guard (by omega) (fun c28 => ?_)
            refine sf_guard (by omega) (fun c30 => ?_)
            refine sf_oH (fun g29 hg29 => ?_)
            have I_g29 : InvC g29 := by rw [hg29]; exact inv_free I_h (fT3 ha0)
            have ex41 : g29 0 3 = h 0 3 := by rw [hg29]; exact dU_ne (by omega)
            have yx42 := congrArg Int32.toInt ex41
            have ex43 : g29 1 0 = h 1 0 := by rw [hg29]; exact dU_ne (by omega)
            have yx44 := congrArg Int32.toInt ex43
            have ex45 : g29 1 5 = h 1 5 := by rw [hg29]; exact dU_ne (by omega)
            have yx46 := congrArg Int32.toInt ex45
            have ex47 : g29 42 2 = h 42 2 := by rw [hg29]; exact dU_ne (by omega)
            have yx48 := congrArg Int32.toInt ex47
            have ex49 : g29 43 2 = h 43 2 := by rw [hg29]; exact dU_ne (by omega)
            have yx50 := congrArg Int32.toInt ex49
            have ex51 : g29 a0 1 = h a0 1 := by rw [hg29]; exact dU_ne (by omega)
            have yx52 := congrArg Int32.toInt ex51
            try have tx53 : (v4 + 1).toInt = v4.toInt + 1 := i_add rfl (by decide) (by omega) (by omega)
            try have tx54 : (v5 + 1).toInt = v5.toInt + 1 := i_add rfl (by decide) (by omega) (by omega)
            exact sl_X5_value_23  a0 v1 a2 ha0 ha2 h0 I_h0 r_v1 k Q hk n (v4 + 1) (v5 + 1) g29 I_g29 (ex41.trans e0) (ex43.trans e1) (ex45.trans e2) (ex47.trans e3) (ex49.trans e4) (by first | trivial | omega) (by omega)
          · skip
            refine sf_guard (by omega) (fun c32 => ?_)
            refine sf_oH (fun g31 hg31 => ?_)
            have I_g31 : InvC g31 := by rw [hg31]; exact inv_free I_h (fT3 ha0)
            have ex55 : g31 0 3 = h 0 3 := by rw [hg31]; exact dU_ne (by omega)
            have yx56 := congrArg Int32.toInt ex55
            have ex57 : g31 1 0 = h 1 0 := by rw [hg31]; exact dU_ne (by omega)
            have yx58 := congrArg Int32.toInt ex57
            have ex59 : g31 1 5 = h 1 5 := by rw [hg31]; exact dU_ne (by omega)
            have yx60 := congrArg Int32.toInt ex59
            have ex61 : g31 42 2 = h 42 2 := by rw [hg31]; exact dU_ne (by omega)
            have yx62 := congrArg Int32.toInt ex61
            have ex63 : g31 43 2 = h 43 2 := by rw [hg31]; exact dU_ne (by omega)
            have yx64 := congrArg Int32.toInt ex63
            have ex65 : g31 a0 1 = h a0 1 := by rw [hg31]; exact dU_ne (by omega)
            have yx66 := congrArg Int32.toInt ex65
            try have tx67 : (v4 + 1).toInt = v4.toInt + 1 := i_add rfl (by decide) (by omega) (by omega)
            try have tx68 : (v5 + 1).toInt = v5.toInt + 1 := i_add rfl (by decide) (by omega) (by omega)
            exact sl_X5_value_23  a0 v1 a2 ha0 ha2 h0 I_h0 r_v1 k Q hk n (v4 + 1) (v5 + 1) g31 I_g31 (ex55.trans e0) (ex57.trans e1) (ex59.trans e2) (ex61.trans e3) (ex63.trans e4) (by first | trivial | omega) (by omega)
        · skip
          try have tx69 : (v5 + 1).toInt = v5.toInt + 1 := i_add rfl (by decide) (by omega) (by omega)
          exact sl_X5_value_23  a0 v1 a2 ha0 ha2 h0 I_h0 r_v1 k Q hk n v4 (v5 + 1) h I_h e0 e1 e2 e3 e4 (by first | trivial | omega) (by omega)
    · skip
      exact hk v4 h I_h e0 e1 e2 e3 e4 (by first | trivial | omega)
theorem s_X5_value (h : dH) (I_h : InvC h) (a0 : Nat) (ha0 : zT a0) (v1 : Int32) (a2 : Nat) (ha2 : zA shC a2 6) (q0 : 0 ≤ v1.toInt ∧ v1.toInt ≤ 2) : Sf (f_X5_value a0 v1 a2 h) (fun o => InvC o.2 ∧ o.2 0 3 = h 0 3 ∧ o.2 1 0 = h 1 0 ∧ o.2 1 5 = h 1 5 ∧ o.2 42 2 = h 42 2 ∧ o.2 43 2 = h 43 2 ∧ True) := by
  unfold f_X5_value
  have z_a0 : a0 = 10 ∨ a0 = 14 ∨ a0 = 18 ∨ a0 = 22 ∨ a0 = 26 ∨ a0 = 30 := ha0
  have u_v1 := Int32.toInt_lt v1
  have w_v1 := Int32.le_toInt v1
  refine sf_ite (fun c1 => ?_) (fun c2 => ?_)
  · skip
    have tx70 : (0 : Int32).toInt = 0 := by decide
    refine sl_X5_value_23 a0 v1 a2 ha0 ha2 h I_h (by omega) _ _ (fun v4_33 g36 I_g36 eg36_0 eg36_1 eg36_2 eg36_3 eg36_4 px71 => ?_)  fuel0 (0 : Int32) (0 : Int32) h I_h rfl rfl rfl rfl rfl (by first | trivial | omega) (by have := fuel0_eq; omega)
    have yx72 := congrArg Int32.toInt eg36_0
    have yx73 := congrArg Int32.toInt eg36_1
    have yx74 := congrArg Int32.toInt eg36_2
    have yx75 := congrArg Int32.toInt eg36_3
    have yx76 := congrArg Int32.toInt eg36_4
    refine sf_ite (fun c37 => ?_) (fun c38 => ?_)
    · skip
      exact sf_some (⟨I_g36, eg36_0, eg36_1, eg36_2, eg36_3, eg36_4, trivial⟩)
    · skip
      exact sf_some (⟨I_g36, eg36_0, eg36_1, eg36_2, eg36_3, eg36_4, trivial⟩)
  · skip
    try have tx77 : (v1 - 1).toInt = v1.toInt - 1 := i_sub rfl (by decide) (by omega) (by omega)
    refine sf_guard (by omega) (fun c39 => ?_)
    have tx78 : (0 : Int32).toInt = 0 := by decide
    have bx79 := I_h (a0 + 2) ((v1 - 1).toInt.toNat) (0) (160) (bT2 ha0)
    refine sl_X5_value_23 a0 v1 a2 ha0 ha2 h I_h (by omega) _ _ (fun v4_40 g43 I_g43 eg43_0 eg43_1 eg43_2 eg43_3 eg43_4 px80 => ?_)  fuel0 (0 : Int32) (h (a0 + 2) ((v1 - 1).toInt.toNat)) h I_h rfl rfl rfl rfl rfl (by first | trivial | omega) (by have := fuel0_eq; omega)
    have yx81 := congrArg Int32.toInt eg43_0
    have yx82 := congrArg Int32.toInt eg43_1
    have yx83 := congrArg Int32.toInt eg43_2
    have yx84 := congrArg Int32.toInt eg43_3
    have yx85 := congrArg Int32.toInt eg43_4
    refine sf_ite (fun c44 => ?_) (fun c45 => ?_)
    · skip
      exact sf_some (⟨I_g43, eg43_0, eg43_1, eg43_2, eg43_3, eg43_4, trivial⟩)
    · skip
      exact sf_some (⟨I_g43, eg43_0, eg43_1, eg43_2, eg43_3, eg43_4, trivial⟩)
theorem s_X3_meets (h : dH) (I_h : InvC h) (a0 : Nat) (ha0 : zS a0) (v1 : Int32) (v2 : Int32) (q0 : 0 ≤ v1.toInt ∧ v1.toInt ≤ 7) (q1 : 0 ≤ v2.toInt ∧ v2.toInt ≤ 7) : Sf (f_X3_meets a0 v1 v2 h) (fun o => InvC o.2 ∧ o.2 0 3 = h 0 3 ∧ o.2 1 0 = h 1 0 ∧ o.2 1 5 = h 1 5 ∧ o.2 42 2 = h 42 2 ∧ o.2 43 2 = h 43 2 ∧ True) := by
  unfold f_X3_meets
  have z_a0 : a0 = 43 ∨ a0 = 57 ∨ a0 = 71 := ha0
  have u_v1 := Int32.toInt_lt v1
  have w_v1 := Int32.le_toInt v1
  have u_v2 := Int32.toInt_lt v2
  have w_v2 := Int32.le_toInt v2
  refine sf_oV (s_X3_look h I_h a0 ha0 v1 v2 (by omega) (by omega)) (fun g1 pg1 => ?_)
  obtain ⟨I_g1, ex1, ex2, ex3, ex4, ex5, qg1⟩ := pg1
  try simp only at I_g1 ex1 ex2 ex3 ex4 ex5 qg1
  have yx6 := congrArg Int32.toInt ex1
  have yx7 := congrArg Int32.toInt ex2
  have yx8 := congrArg Int32.toInt ex3
  have yx9 := congrArg Int32.toInt ex4
  have yx10 := congrArg Int32.toInt ex5
  have tx11 : (0 : Int32).toInt = 0 := by decide
  refine sf_oI (s_X5_value g1 I_g1 (dtx (g1 a0 3)) (zT_dtx _) (0 : Int32) (a0 + 13) (shS13 ha0) (by omega)) (fun r2 g3 pg3 => ?_)
  obtain ⟨I_g3, ex12, ex13, ex14, ex15, ex16, qg3⟩ := pg3
  try simp only at I_g3 ex12 ex13 ex14 ex15 ex16 qg3
  have yx17 := congrArg Int32.toInt ex12
  have yx18 := congrArg Int32.toInt ex13
  have yx19 := congrArg Int32.toInt ex14
  have yx20 := congrArg Int32.toInt ex15
  have yx21 := congrArg Int32.toInt ex16
  refine sf_guard (by omega) (fun c4 => ?_)
  refine sf_ite (fun c5 => ?_) (fun c6 => ?_)
  · skip
    exact sf_some (⟨I_g3, (ex12.trans ex1), (ex13.trans ex2), (ex14.trans ex3), (ex15.trans ex4), (ex16.trans ex5), trivial⟩)
  · skip
    refine sf_ite (fun c7 => ?_) (fun c8 => ?_)
    · skip
      exact sf_some (⟨I_g3, (ex12.trans ex1), (ex13.trans ex2), (ex14.trans ex3), (ex15.trans ex4), (ex16.trans ex5), trivial⟩)
    · skip
      refine sf_ite (fun c9 => ?_) (fun c10 => ?_)
      · skip
        refine sf_guard (by omega) (fun c11 => ?_)
        exact sf_some (⟨I_g3, (ex12.trans ex1), (ex13.trans ex2), (ex14.trans ex3), (ex15.trans ex4), (ex16.trans ex5), trivial⟩)
      · skip
        refine sf_ite (fun c12 => ?_) (fun c13 => ?_)
        · skip
          refine sf_ite (fun c14 => ?_) (fun c15 => ?_)
          · skip
            exact sf_some (⟨I_g3, (ex12.trans ex1), (ex13.trans ex2), (ex14.trans ex3), (ex15.trans ex4), (ex16.trans ex5), trivial⟩)
          · skip
            exact sf_some (⟨I_g3, (ex12.trans ex1), (ex13.trans ex2), (ex14.trans ex3), (ex15.trans ex4), (ex16.trans ex5), trivial⟩)
        · skip
          refine sf_ite (fun c16 => ?_) (fun c17 => ?_)
          · skip
            exact sf_some (⟨I_g3, (ex12.trans ex1), (ex13.trans ex2), (ex14.trans ex3), (ex15.trans ex4), (ex16.trans ex5), trivial⟩)
          · skip
            exact sf_some (⟨I_g3, (ex12.trans ex1), (ex13.trans ex2), (ex14.trans ex3), (ex15.trans ex4), (ex16.trans ex5), trivial⟩)
theorem s_X3_forgets (h : dH) (I_h : InvC h) (a0 : Nat) (ha0 : zS a0) (v1 : Int32) (v2 : Int32) (q0 : 0 ≤ v1.toInt ∧ v1.toInt ≤ 7) (q1 : 0 ≤ v2.toInt ∧ v2.toInt ≤ 7) : Sf (f_X3_forgets a0 v1 v2 h) (fun o => InvC o.2 ∧ o.2 0 3 = h 0 3 ∧ o.2 1 0 = h 1 0 ∧ o.2 1 5 = h 1 5 ∧ o.2 42 2 = h 42 2 ∧ o.2 43 2 = h 43 2 ∧ True) := by
  unfold f_X3_forgets
  have z_a0 : a0 = 43 ∨ a0 = 57 ∨ a0 = 71 := ha0
  have u_v1 := Int32.toInt_lt v1
  have w_v1 := Int32.le_toInt v1
  have u_v2 := Int32.toInt_lt v2
  have w_v2 := Int32.le_toInt v2
  refine sf_oV (s_X3_look h I_h a0 ha0 v1 v2 (by omega) (by omega)) (fun g1 pg1 => ?_)
  obtain ⟨I_g1, ex1, ex2, ex3, ex4, ex5, qg1⟩ := pg1
  try simp only at I_g1 ex1 ex2 ex3 ex4 ex5 qg1
  have yx6 := congrArg Int32.toInt ex1
  have yx7 := congrArg Int32.toInt ex2
  have yx8 := congrArg Int32.toInt ex3
  have yx9 := congrArg Int32.toInt ex4
  have yx10 := congrArg Int32.toInt ex5
  have tx11 : (1 : Int32).toInt = 1 := by decide
  refine sf_oI (s_X5_value g1 I_g1 (dtx (g1 a0 3)) (zT_dtx _) (1 : Int32) (a0 + 13) (shS13 ha0) (by omega)) (fun r2 g3 pg3 => ?_)
  obtain ⟨I_g3, ex12, ex13, ex14, ex15, ex16, qg3⟩ := pg3
  try simp only at I_g3 ex12 ex13 ex14 ex15 ex16 qg3
  have yx17 := congrArg Int32.toInt ex12
  have yx18 := congrArg Int32.toInt ex13
  have yx19 := congrArg Int32.toInt ex14
  have yx20 := congrArg Int32.toInt ex15
  have yx21 := congrArg Int32.toInt ex16
  refine sf_guard (by omega) (fun c4 => ?_)
  refine sf_ite (fun c5 => ?_) (fun c6 => ?_)
  · skip
    exact sf_some (⟨I_g3, (ex12.trans ex1), (ex13.trans ex2), (ex14.trans ex3), (ex15.trans ex4), (ex16.trans ex5), trivial⟩)
  · skip
    refine sf_ite (fun c7 => ?_) (fun c8 => ?_)
    · skip
      exact sf_some (⟨I_g3, (ex12.trans ex1), (ex13.trans ex2), (ex14.trans ex3), (ex15.trans ex4), (ex16.trans ex5), trivial⟩)
    · skip
      refine sf_ite (fun c9 => ?_) (fun c10 => ?_)
      · skip
        exact sf_some (⟨I_g3, (ex12.trans ex1), (ex13.trans ex2), (ex14.trans ex3), (ex15.trans ex4), (ex16.trans ex5), trivial⟩)
      · skip
        refine sf_ite (fun c11 => ?_) (fun c12 => ?_)
        · skip
          try have tx22 := drem_ok (x := (g3 a0 0)) (y := (2 : Int32)) (by omega) (by omega)
          refine sf_ite (fun c13 => ?_) (fun c14 => ?_)
          · skip
            exact sf_some (⟨I_g3, (ex12.trans ex1), (ex13.trans ex2), (ex14.trans ex3), (ex15.trans ex4), (ex16.trans ex5), trivial⟩)
          · skip
            exact sf_some (⟨I_g3, (ex12.trans ex1), (ex13.trans ex2), (ex14.trans ex3), (ex15.trans ex4), (ex16.trans ex5), trivial⟩)
        · skip
          exact sf_some (⟨I_g3, (ex12.trans ex1), (ex13.trans ex2), (ex14.trans ex3), (ex15.trans ex4), (ex16.trans ex5), trivial⟩)
theorem s_X3_sounds (h : dH) (I_h : InvC h) (a0 : Nat) (ha0 : zS a0) (v1 : Int32) (q0 : 0 ≤ v1.toInt ∧ v1.toInt ≤ 7) : Sf (f_X3_sounds a0 v1 h) (fun o => InvC o.2 ∧ o.2 0 3 = h 0 3 ∧ o.2 1 0 = h 1 0 ∧ o.2 1 5 = h 1 5 ∧ o.2 42 2 = h 42 2 ∧ o.2 43 2 = h 43 2 ∧ True) := by
  unfold f_X3_sounds
  have z_a0 : a0 = 43 ∨ a0 = 57 ∨ a0 = 71 := ha0
  have u_v1 := Int32.toInt_lt v1
  have w_v1 := Int32.le_toInt v1
  refine sf_oV (s_X3_look h I_h a0 ha0 v1 v1 (by omega) (by omega)) (fun g1 pg1 => ?_)
  obtain ⟨I_g1, ex1, ex2, ex3, ex4, ex5, qg1⟩ := pg1
  try simp only at I_g1 ex1 ex2 ex3 ex4 ex5 qg1
  have yx6 := congrArg Int32.toInt ex1
  have yx7 := congrArg Int32.toInt ex2
  have yx8 := congrArg Int32.toInt ex3
  have yx9 := congrArg Int32.toInt ex4
  have yx10 := congrArg Int32.toInt ex5
  refine sf_oH (fun g2 hg2 => ?_)
  have I_g2 : InvC g2 := by rw [hg2]; exact inv_free I_g1 (fS13 ha0)
  have ex11 : g2 0 3 = g1 0 3 := by rw [hg2]; exact dU_ne (by omega)
  have yx12 := congrArg Int32.toInt ex11
  have ex13 : g2 1 0 = g1 1 0 := by rw [hg2]; exact dU_ne (by omega)
  have yx14 := congrArg Int32.toInt ex13
  have ex15 : g2 1 5 = g1 1 5 := by rw [hg2]; exact dU_ne (by omega)
  have yx16 := congrArg Int32.toInt ex15
  have ex17 : g2 42 2 = g1 42 2 := by rw [hg2]; exact dU_ne (by omega)
  have yx18 := congrArg Int32.toInt ex17
  have ex19 : g2 43 2 = g1 43 2 := by rw [hg2]; exact dU_ne (by omega)
  have yx20 := congrArg Int32.toInt ex19
  have ex21 : g2 a0 2 = g1 a0 2 := by rw [hg2]; exact dU_ne (by omega)
  have yx22 := congrArg Int32.toInt ex21
  have tx23 : (2 : Int32).toInt = 2 := by decide
  refine sf_oI (s_X5_value g2 I_g2 (dtx (g2 a0 3)) (zT_dtx _) (2 : Int32) (a0 + 13) (shS13 ha0) (by omega)) (fun r3 g4 pg4 => ?_)
  obtain ⟨I_g4, ex24, ex25, ex26, ex27, ex28, qg4⟩ := pg4
  try simp only at I_g4 ex24 ex25 ex26 ex27 ex28 qg4
  have yx29 := congrArg Int32.toInt ex24
  have yx30 := congrArg Int32.toInt ex25
  have yx31 := congrArg Int32.toInt ex26
  have yx32 := congrArg Int32.toInt ex27
  have yx33 := congrArg Int32.toInt ex28
  refine sf_guard (by omega) (fun c5 => ?_)
  refine sf_ite (fun c6 => ?_) (fun c7 => ?_)
  · skip
    exact sf_some (⟨I_g4, (ex24.trans (ex11.trans ex1)), (ex25.trans (ex13.trans ex2)), (ex26.trans (ex15.trans ex3)), (ex27.trans (ex17.trans ex4)), (ex28.trans (ex19.trans ex5)), trivial⟩)
  · skip
    refine sf_ite (fun c8 => ?_) (fun c9 => ?_)
    · skip
      exact sf_some (⟨I_g4, (ex24.trans (ex11.trans ex1)), (ex25.trans (ex13.trans ex2)), (ex26.trans (ex15.trans ex3)), (ex27.trans (ex17.trans ex4)), (ex28.trans (ex19.trans ex5)), trivial⟩)
    · skip
      refine sf_ite (fun c10 => ?_) (fun c11 => ?_)
      · skip
        exact sf_some (⟨I_g4, (ex24.trans (ex11.trans ex1)), (ex25.trans (ex13.trans ex2)), (ex26.trans (ex15.trans ex3)), (ex27.trans (ex17.trans ex4)), (ex28.trans (ex19.trans ex5)), trivial⟩)
      · skip
        refine sf_ite (fun c12 => ?_) (fun c13 => ?_)
        · skip
          exact sf_some (⟨I_g4, (ex24.trans (ex11.trans ex1)), (ex25.trans (ex13.trans ex2)), (ex26.trans (ex15.trans ex3)), (ex27.trans (ex17.trans ex4)), (ex28.trans (ex19.trans ex5)), trivial⟩)
        · skip
          refine sf_ite (fun c14 => ?_) (fun c15 => ?_)
          · skip
            refine sf_guard (by omega) (fun c16 => ?_)
            exact sf_some (⟨I_g4, (ex24.trans (ex11.trans ex1)), (ex25.trans (ex13.trans ex2)), (ex26.trans (ex15.trans ex3)), (ex27.trans (ex17.trans ex4)), (ex28.trans (ex19.trans ex5)), trivial⟩)
          · skip
            exact sf_some (⟨I_g4, (ex24.trans (ex11.trans ex1)), (ex25.trans (ex13.trans ex2)), (ex26.trans (ex15.trans ex3)), (ex27.trans (ex17.trans ex4)), (ex28.trans (ex19.trans ex5)), trivial⟩)
theorem sl_X3_holdFeast_14 (a0 : Nat) (v1 : Int32) (ha0 : zS a0) (h0 : dH) (I_h0 : InvC h0) (r_v1 : 0 ≤ v1.toInt ∧ v1.toInt ≤ 7) (k : dH → Option (dH)) (Q : dH → Prop) (hk : ∀  (g : dH) (Ig : InvC g) (e0 : g 0 3 = h0 0 3) (e1 : g 1 0 = h0 1 0) (e2 : g 1 5 = h0 1 5) (e3 : g 42 2 = h0 42 2) (e4 : g 43 2 = h0 43 2), True → Sf (k  g) Q)  : ∀ (n : Nat) (v2 : Int32) (h : dH) (I_h : InvC h) (e0 : h 0 3 = h0 0 3) (e1 : h 1 0 = h0 1 0) (e2 : h 1 5 = h0 1 5) (e3 : h 42 2 = h0 42 2) (e4 : h 43 2 = h0 43 2), 0 ≤ v2.toInt ∧ v2.toInt ≤ 8 → 8 - v2.toInt < (n : Int) → Sf (l_X3_holdFeast_14 a0 v1 k n v2 h) Q
  | 0, v2, h, I_h, e0, e1, e2, e3, e4, hi, hm => by omega
  | n + 1, v2, h, I_h, e0, e1, e2, e3, e4, hi, hm => by
    rw [l_X3_holdFeast_14]
    have yx7 := congrArg Int32.toInt e0
    have yx8 := congrArg Int32.toInt e1
    have yx9 := congrArg Int32.toInt e2
    have yx10 := congrArg Int32.toInt e3
    have yx11 := congrArg Int32.toInt e4
    have z_a0 : a0 = 43 ∨ a0 = 57 ∨ a0 = 71 := ha0
    have bx12 := I_h a0 2 (0) (8) (bS2 ha0)
    refine sf_ite (fun c3 => ?_) (fun c4 => ?_)
    · skip
      refine sf_guard (by omega) (fun c5 => ?_)
      refine sf_ite (fun c6 => ?_) (fun c7 => ?_)
      · skip
        try have tx13 : (v2 + 1).toInt = v2.toInt + 1 := i_add rfl (by decide) (by omega) (by omega)
        exact sl_X3_holdFeast_14  a0 v1 ha0 h0 I_h0 r_v1 k Q hk n (v2 + 1) h I_h e0 e1 e2 e3 e4 (by first | trivial | omega) (by omega)
      · skip
        refine sf_guard (by omega) (fun c8 => ?_)
        refine sf_guard (by omega) (fun c9 => ?_)
        refine sf_ite (fun c10 => ?_) (fun c11 => ?_)
        · skip
          refine sf_oI (s_X3_meets h I_h a0 ha0 v1 v2 (by omega) (by omega)) (fun r12 g13 pg13 => ?_)
          obtain ⟨I_g13, ex14, ex15, ex16, ex17, ex18, qg13⟩ := pg13
          try simp only at I_g13 ex14 ex15 ex16 ex17 ex18 qg13
          have yx19 := congrArg Int32.toInt ex14
          have yx20 := congrArg Int32.toInt ex15
          have yx21 := congrArg Int32.toInt ex16
          have yx22 := congrArg Int32.toInt ex17
          have yx23 := congrArg Int32.toInt ex18
          refine sf_oI (s_X3_meets g13 I_g13 a0 ha0 v2 v1 (by omega) (by omega)) (fun r14 g15 pg15 => ?_)
          obtain ⟨I_g15, ex24, ex25, ex26, ex27, ex28, qg15⟩ := pg15
          try simp only at I_g15 ex24 ex25 ex26 ex27 ex28 qg15
          have yx29 := congrArg Int32.toInt ex24
          have yx30 := congrArg Int32.toInt ex25
          have yx31 := congrArg Int32.toInt ex26
          have yx32 := congrArg Int32.toInt ex27
          have yx33 := congrArg Int32.toInt ex28
          refine sf_guard (by omega) (fun c16 => ?_)
          refine sf_guard (by omega) (fun c17 => ?_)
          have tx34 : (99 : Int32).toInt = 99 := by decide
          try have tx35 : (r12 + r14).toInt = r12.toInt + r14.toInt := i_add rfl rfl (by omega) (by omega)
          try have tx36 : ((g15 (a0 + 5 + v1.toInt.toNat) (v2.toInt.toNat)) + (r12 + r14)).toInt = (g15 (a0 + 5 + v1.toInt.toNat) (v2.toInt.toNat)).toInt + (r12 + r14).toInt := i_add rfl rfl (by omega) (by omega)
          have tx37 := dmin_ok (99 : Int32) ((g15 (a0 + 5 + v1.toInt.toNat) (v2.toInt.toNat)) + (r12 + r14))
          refine sf_oV (s_X3_tie g15 I_g15 a0 ha0 v1 v2 (dmin 99 ((g15 (a0 + 5 + v1.toInt.toNat) (v2.toInt.toNat)) + (r12 + r14))) (by omega) (by omega)) (fun g18 pg18 => ?_)
          obtain ⟨I_g18, ex38, ex39, ex40, ex41, ex42, qg18⟩ := pg18
          try simp only at I_g18 ex38 ex39 ex40 ex41 ex42 qg18
          have yx43 := congrArg Int32.toInt ex38
          have yx44 := congrArg Int32.toInt ex39
          have yx45 := congrArg Int32.toInt ex40
          have yx46 := congrArg Int32.toInt ex41
          have yx47 := congrArg Int32.toInt ex42
          try have tx48 : (v2 + 1).toInt = v2.toInt + 1 := i_add rfl (by decide) (by omega) (by omega)
          exact sl_X3_holdFeast_14  a0 v1 ha0 h0 I_h0 r_v1 k Q hk n (v2 + 1) g18 I_g18 (ex38.trans (ex24.trans (ex14.trans e0))) (ex39.trans (ex25.trans (ex15.trans e1))) (ex40.trans (ex26.trans (ex16.trans e2))) (ex41.trans (ex27.trans (ex17.trans e3))) (ex42.trans (ex28.trans (ex18.trans e4))) (by first | trivial | omega) (by omega)
        · skip
          try have tx49 : (v2 + 1).toInt = v2.toInt + 1 := i_add rfl (by decide) (by omega) (by omega)
          exact sl_X3_holdFeast_14  a0 v1 ha0 h0 I_h0 r_v1 k Q hk n (v2 + 1) h I_h e0 e1 e2 e3 e4 (by first | trivial | omega) (by omega)
    · skip
      exact hk  h I_h e0 e1 e2 e3 e4 (by first | trivial | omega)
theorem sl_X3_holdFeast_2 (a0 : Nat) (ha0 : zS a0) (h0 : dH) (I_h0 : InvC h0)  (k : dH → Option (dH)) (Q : dH → Prop) (hk : ∀  (g : dH) (Ig : InvC g) (e0 : g 0 3 = h0 0 3) (e1 : g 1 0 = h0 1 0) (e2 : g 1 5 = h0 1 5) (e3 : g 42 2 = h0 42 2) (e4 : g 43 2 = h0 43 2), True → Sf (k  g) Q)  : ∀ (n : Nat) (v1 : Int32) (h : dH) (I_h : InvC h) (e0 : h 0 3 = h0 0 3) (e1 : h 1 0 = h0 1 0) (e2 : h 1 5 = h0 1 5) (e3 : h 42 2 = h0 42 2) (e4 : h 43 2 = h0 43 2), 0 ≤ v1.toInt ∧ v1.toInt ≤ 8 → 8 - v1.toInt < (n : Int) → Sf (l_X3_holdFeast_2 a0 k n v1 h) Q
  | 0, v1, h, I_h, e0, e1, e2, e3, e4, hi, hm => by omega
  | n + 1, v1, h, I_h, e0, e1, e2, e3, e4, hi, hm => by
    rw [l_X3_holdFeast_2]
    have yx1 := congrArg Int32.toInt e0
    have yx2 := congrArg Int32.toInt e1
    have yx3 := congrArg Int32.toInt e2
    have yx4 := congrArg Int32.toInt e3
    have yx5 := congrArg Int32.toInt e4
    have z_a0 : a0 = 43 ∨ a0 = 57 ∨ a0 = 71 := ha0
    have bx6 := I_h a0 2 (0) (8) (bS2 ha0)
    refine sf_ite (fun c1 => ?_) (fun c2 => ?_)
    · skip
      try have tx50 : (v1 + 1).toInt = v1.toInt + 1 := i_add rfl (by decide) (by omega) (by omega)
      refine sl_X3_holdFeast_14 a0 v1 ha0 h I_h (by omega) _ _ (fun g21 I_g21 eg21_0 eg21_1 eg21_2 eg21_3 eg21_4 px51 => ?_)  fuel0 (v1 + 1) h I_h rfl rfl rfl rfl rfl (by first | trivial | omega) (by have := fuel0_eq; omega)
      have yx52 := congrArg Int32.toInt eg21_0
      have yx53 := congrArg Int32.toInt eg21_1
      have yx54 := congrArg Int32.toInt eg21_2
      have yx55 := congrArg Int32.toInt eg21_3
      have yx56 := congrArg Int32.toInt eg21_4
      exact sl_X3_holdFeast_2  a0 ha0 h0 I_h0  k Q hk n (v1 + 1) g21 I_g21 (eg21_0.trans e0) (eg21_1.trans e1) (eg21_2.trans e2) (eg21_3.trans e3) (eg21_4.trans e4) (by first | trivial | omega) (by omega)
    · skip
      exact hk  h I_h e0 e1 e2 e3 e4 (by first | trivial | omega)
theorem s_X3_holdFeast (h : dH) (I_h : InvC h) (a0 : Nat) (ha0 : zS a0)  : Sf (f_X3_holdFeast a0 h) (fun o => InvC o ∧ o 0 3 = h 0 3 ∧ o 1 0 = h 1 0 ∧ o 1 5 = h 1 5 ∧ o 42 2 = h 42 2 ∧ o 43 2 = h 43 2 ∧ True) := by
  unfold f_X3_holdFeast
  have z_a0 : a0 = 43 ∨ a0 = 57 ∨ a0 = 71 := ha0
  have tx57 : (0 : Int32).toInt = 0 := by decide
  refine sl_X3_holdFeast_2 a0 ha0 h I_h  _ _ (fun g25 I_g25 eg25_0 eg25_1 eg25_2 eg25_3 eg25_4 px58 => ?_)  fuel0 (0 : Int32) h I_h rfl rfl rfl rfl rfl (by first | trivial | omega) (by have := fuel0_eq; omega)
  have yx59 := congrArg Int32.toInt eg25_0
  have yx60 := congrArg Int32.toInt eg25_1
  have yx61 := congrArg Int32.toInt eg25_2
  have yx62 := congrArg Int32.toInt eg25_3
  have yx63 := congrArg Int32.toInt eg25_4
  exact sf_some (⟨I_g25, eg25_0, eg25_1, eg25_2, eg25_3, eg25_4, trivial⟩)
theorem sl_X3_endYear_14 (a0 : Nat) (v1 : Int32) (ha0 : zS a0) (h0 : dH) (I_h0 : InvC h0) (r_v1 : 0 ≤ v1.toInt ∧ v1.toInt ≤ 7) (k : dH → Option (dH)) (Q : dH → Prop) (hk : ∀  (g : dH) (Ig : InvC g) (e0 : g 0 3 = h0 0 3) (e1 : g 1 0 = h0 1 0) (e2 : g 1 5 = h0 1 5) (e3 : g 42 2 = h0 42 2) (e4 : g 43 2 = h0 43 2), True → Sf (k  g) Q)  : ∀ (n : Nat) (v2 : Int32) (h : dH) (I_h : InvC h) (e0 : h 0 3 = h0 0 3) (e1 : h 1 0 = h0 1 0) (e2 : h 1 5 = h0 1 5) (e3 : h 42 2 = h0 42 2) (e4 : h 43 2 = h0 43 2), 0 ≤ v2.toInt ∧ v2.toInt ≤ 8 → 8 - v2.toInt < (n : Int) → Sf (l_X3_endYear_14 a0 v1 k n v2 h) Q
  | 0, v2, h, I_h, e0, e1, e2, e3, e4, hi, hm => by omega
  | n + 1, v2, h, I_h, e0, e1, e2, e3, e4, hi, hm => by
    rw [l_X3_endYear_14]
    have yx7 := congrArg Int32.toInt e0
    have yx8 := congrArg Int32.toInt e1
    have yx9 := congrArg Int32.toInt e2
    have yx10 := congrArg Int32.toInt e3
    have yx11 := congrArg Int32.toInt e4
    have z_a0 : a0 = 43 ∨ a0 = 57 ∨ a0 = 71 := ha0
    have bx12 := I_h a0 2 (0) (8) (bS2 ha0)
    refine sf_ite (fun c3 => ?_) (fun c4 => ?_)
    · skip
      refine sf_oI (s_X3_forgets h I_h a0 ha0 v1 v2 (by omega) (by omega)) (fun r5 g6 pg6 => ?_)
      obtain ⟨I_g6, ex13, ex14, ex15, ex16, ex17, qg6⟩ := pg6
      try simp only at I_g6 ex13 ex14 ex15 ex16 ex17 qg6
      have yx18 := congrArg Int32.toInt ex13
      have yx19 := congrArg Int32.toInt ex14
      have yx20 := congrArg Int32.toInt ex15
      have yx21 := congrArg Int32.toInt ex16
      have yx22 := congrArg Int32.toInt ex17
      refine sf_oI (s_X3_forgets g6 I_g6 a0 ha0 v2 v1 (by omega) (by omega)) (fun r7 g8 pg8 => ?_)
      obtain ⟨I_g8, ex23, ex24, ex25, ex26, ex27, qg8⟩ := pg8
      try simp only at I_g8 ex23 ex24 ex25 ex26 ex27 qg8
      have yx28 := congrArg Int32.toInt ex23
      have yx29 := congrArg Int32.toInt ex24
      have yx30 := congrArg Int32.toInt ex25
      have yx31 := congrArg Int32.toInt ex26
      have yx32 := congrArg Int32.toInt ex27
      refine sf_guard (by omega) (fun c9 => ?_)
      refine sf_guard (by omega) (fun c10 => ?_)
      have tx33 : (0 : Int32).toInt = 0 := by decide
      try have tx34 : (r5 + r7).toInt = r5.toInt + r7.toInt := i_add rfl rfl (by omega) (by omega)
      try have tx35 : ((g8 (a0 + 5 + v1.toInt.toNat) (v2.toInt.toNat)) - (r5 + r7)).toInt = (g8 (a0 + 5 + v1.toInt.toNat) (v2.toInt.toNat)).toInt - (r5 + r7).toInt := i_sub rfl rfl (by omega) (by omega)
      have tx36 := dmax_ok (0 : Int32) ((g8 (a0 + 5 + v1.toInt.toNat) (v2.toInt.toNat)) - (r5 + r7))
      refine sf_oV (s_X3_tie g8 I_g8 a0 ha0 v1 v2 (dmax 0 ((g8 (a0 + 5 + v1.toInt.toNat) (v2.toInt.toNat)) - (r5 + r7))) (by omega) (by omega)) (fun g11 pg11 => ?_)
      obtain ⟨I_g11, ex37, ex38, ex39, ex40, ex41, qg11⟩ := pg11
      try simp only at I_g11 ex37 ex38 ex39 ex40 ex41 qg11
      have yx42 := congrArg Int32.toInt ex37
      have yx43 := congrArg Int32.toInt ex38
      have yx44 := congrArg Int32.toInt ex39
      have yx45 := congrArg Int32.toInt ex40
      have yx46 := congrArg Int32.toInt ex41
      try have tx47 : (v2 + 1).toInt = v2.toInt + 1 := i_add rfl (by decide) (by omega) (by omega)
      exact sl_X3_endYear_14  a0 v1 ha0 h0 I_h0 r_v1 k Q hk n (v2 + 1) g11 I_g11 (ex37.trans (ex23.trans (ex13.trans e0))) (ex38.trans (ex24.trans (ex14.trans e1))) (ex39.trans (ex25.trans (ex15.trans e2))) (ex40.trans (ex26.trans (ex16.trans e3))) (ex41.trans (ex27.trans (ex17.trans e4))) (by first | trivial | omega) (by omega)
    · skip
      exact hk  h I_h e0 e1 e2 e3 e4 (by first | trivial | omega)
theorem sl_X3_endYear_2 (a0 : Nat) (ha0 : zS a0) (h0 : dH) (I_h0 : InvC h0)  (k : dH → Option (dH)) (Q : dH → Prop) (hk : ∀  (g : dH) (Ig : InvC g) (e0 : g 0 3 = h0 0 3) (e1 : g 1 0 = h0 1 0) (e2 : g 1 5 = h0 1 5) (e3 : g 42 2 = h0 42 2) (e4 : g 43 2 = h0 43 2), True → Sf (k  g) Q)  : ∀ (n : Nat) (v1 : Int32) (h : dH) (I_h : InvC h) (e0 : h 0 3 = h0 0 3) (e1 : h 1 0 = h0 1 0) (e2 : h 1 5 = h0 1 5) (e3 : h 42 2 = h0 42 2) (e4 : h 43 2 = h0 43 2), 0 ≤ v1.toInt ∧ v1.toInt ≤ 8 → 8 - v1.toInt < (n : Int) → Sf (l_X3_endYear_2 a0 k n v1 h) Q
  | 0, v1, h, I_h, e0, e1, e2, e3, e4, hi, hm => by omega
  | n + 1, v1, h, I_h, e0, e1, e2, e3, e4, hi, hm => by
    rw [l_X3_endYear_2]
    have yx1 := congrArg Int32.toInt e0
    have yx2 := congrArg Int32.toInt e1
    have yx3 := congrArg Int32.toInt e2
    have yx4 := congrArg Int32.toInt e3
    have yx5 := congrArg Int32.toInt e4
    have z_a0 : a0 = 43 ∨ a0 = 57 ∨ a0 = 71 := ha0
    have bx6 := I_h a0 2 (0) (8) (bS2 ha0)
    refine sf_ite (fun c1 => ?_) (fun c2 => ?_)
    · skip
      try have tx48 : (v1 + 1).toInt = v1.toInt + 1 := i_add rfl (by decide) (by omega) (by omega)
      refine sl_X3_endYear_14 a0 v1 ha0 h I_h (by omega) _ _ (fun g14 I_g14 eg14_0 eg14_1 eg14_2 eg14_3 eg14_4 px49 => ?_)  fuel0 (v1 + 1) h I_h rfl rfl rfl rfl rfl (by first | trivial | omega) (by have := fuel0_eq; omega)
      have yx50 := congrArg Int32.toInt eg14_0
      have yx51 := congrArg Int32.toInt eg14_1
      have yx52 := congrArg Int32.toInt eg14_2
      have yx53 := congrArg Int32.toInt eg14_3
      have yx54 := congrArg Int32.toInt eg14_4
      exact sl_X3_endYear_2  a0 ha0 h0 I_h0  k Q hk n (v1 + 1) g14 I_g14 (eg14_0.trans e0) (eg14_1.trans e1) (eg14_2.trans e2) (eg14_3.trans e3) (eg14_4.trans e4) (by first | trivial | omega) (by omega)
    · skip
      exact hk  h I_h e0 e1 e2 e3 e4 (by first | trivial | omega)
theorem s_X3_endYear (h : dH) (I_h : InvC h) (a0 : Nat) (ha0 : zS a0)  : Sf (f_X3_endYear a0 h) (fun o => InvC o ∧ o 0 3 = h 0 3 ∧ o 1 0 = h 1 0 ∧ o 1 5 = h 1 5 ∧ o 42 2 = h 42 2 ∧ o 43 2 = h 43 2 ∧ True) := by
  unfold f_X3_endYear
  have z_a0 : a0 = 43 ∨ a0 = 57 ∨ a0 = 71 := ha0
  have tx55 : (0 : Int32).toInt = 0 := by decide
  refine sl_X3_endYear_2 a0 ha0 h I_h  _ _ (fun g18 I_g18 eg18_0 eg18_1 eg18_2 eg18_3 eg18_4 px56 => ?_)  fuel0 (0 : Int32) h I_h rfl rfl rfl rfl rfl (by first | trivial | omega) (by have := fuel0_eq; omega)
  have yx57 := congrArg Int32.toInt eg18_0
  have yx58 := congrArg Int32.toInt eg18_1
  have yx59 := congrArg Int32.toInt eg18_2
  have yx60 := congrArg Int32.toInt eg18_3
  have yx61 := congrArg Int32.toInt eg18_4
  try have tx62 : ((g18 a0 0) + 1).toInt = (g18 a0 0).toInt + 1 := i_add rfl (by decide) (by omega) (by omega)
  refine sf_oH (fun g19 hg19 => ?_)
  have I_g19 : InvC g19 := by rw [hg19]; exact inv_free I_g18 (fS ha0 (by decide))
  have ex63 : g19 0 3 = g18 0 3 := by rw [hg19]; exact dU_ne (by omega)
  have yx64 := congrArg Int32.toInt ex63
  have ex65 : g19 1 0 = g18 1 0 := by rw [hg19]; exact dU_ne (by omega)
  have yx66 := congrArg Int32.toInt ex65
  have ex67 : g19 1 5 = g18 1 5 := by rw [hg19]; exact dU_ne (by omega)
  have yx68 := congrArg Int32.toInt ex67
  have ex69 : g19 42 2 = g18 42 2 := by rw [hg19]; exact dU_ne (by omega)
  have yx70 := congrArg Int32.toInt ex69
  have ex71 : g19 43 2 = g18 43 2 := by rw [hg19]; exact dU_ne (by omega)
  have yx72 := congrArg Int32.toInt ex71
  have ex73 : g19 a0 2 = g18 a0 2 := by rw [hg19]; exact dU_ne (by omega)
  have yx74 := congrArg Int32.toInt ex73
  have yx75 : (g19 a0 0).toInt = ((g18 a0 0) + 1).toInt := by rw [hg19, dU_eq]
  exact sf_some (⟨I_g19, (ex63.trans eg18_0), (ex65.trans eg18_1), (ex67.trans eg18_2), (ex69.trans eg18_3), (ex71.trans eg18_4), trivial⟩)
theorem sl_X3_pass_2 (a0 : Nat) (v1 : Int32) (ha0 : zS a0) (h0 : dH) (I_h0 : InvC h0) (r_v1 : 0 ≤ v1.toInt ∧ v1.toInt ≤ 20) (k : dH → Option (Int32 × dH)) (Q : Int32 × dH → Prop) (hk : ∀  (g : dH) (Ig : InvC g) (e0 : g 0 3 = h0 0 3) (e1 : g 1 0 = h0 1 0) (e2 : g 1 5 = h0 1 5) (e3 : g 42 2 = h0 42 2) (e4 : g 43 2 = h0 43 2), True → Sf (k  g) Q)  : ∀ (n : Nat) (v2 : Int32) (h : dH) (I_h : InvC h) (e0 : h 0 3 = h0 0 3) (e1 : h 1 0 = h0 1 0) (e2 : h 1 5 = h0 1 5) (e3 : h 42 2 = h0 42 2) (e4 : h 43 2 = h0 43 2), 0 ≤ v2.toInt ∧ v2.toInt ≤ 20 → 20 - v2.toInt < (n : Int) → Sf (l_X3_pass_2 a0 v1 k n v2 h) Q
  | 0, v2, h, I_h, e0, e1, e2, e3, e4, hi, hm => by omega
  | n + 1, v2, h, I_h, e0, e1, e2, e3, e4, hi, hm => by
    rw [l_X3_pass_2]
    have yx1 := congrArg Int32.toInt e0
    have yx2 := congrArg Int32.toInt e1
    have yx3 := congrArg Int32.toInt e2
    have yx4 := congrArg Int32.toInt e3
    have yx5 := congrArg Int32.toInt e4
    have z_a0 : a0 = 43 ∨ a0 = 57 ∨ a0 = 71 := ha0
    refine sf_ite (fun c1 => ?_) (fun c2 => ?_)
    · skip
      refine sf_oV (s_X3_holdFeast h I_h a0 ha0) (fun g3 pg3 => ?_)
      obtain ⟨I_g3, ex6, ex7, ex8, ex9, ex10, qg3⟩ := pg3
      try simp only at I_g3 ex6 ex7 ex8 ex9 ex10 qg3
      have yx11 := congrArg Int32.toInt ex6
      have yx12 := congrArg Int32.toInt ex7
      have yx13 := congrArg Int32.toInt ex8
      have yx14 := congrArg Int32.toInt ex9
      have yx15 := congrArg Int32.toInt ex10
      refine sf_oV (s_X3_endYear g3 I_g3 a0 ha0) (fun g4 pg4 => ?_)
      obtain ⟨I_g4, ex16, ex17, ex18, ex19, ex20, qg4⟩ := pg4
      try simp only at I_g4 ex16 ex17 ex18 ex19 ex20 qg4
      have yx21 := congrArg Int32.toInt ex16
      have yx22 := congrArg Int32.toInt ex17
      have yx23 := congrArg Int32.toInt ex18
      have yx24 := congrArg Int32.toInt ex19
      have yx25 := congrArg Int32.toInt ex20
      try have tx26 : (v2 + 1).toInt = v2.toInt + 1 := i_add rfl (by decide) (by omega) (by omega)
      exact sl_X3_pass_2  a0 v1 ha0 h0 I_h0 r_v1 k Q hk n (v2 + 1) g4 I_g4 (ex16.trans (ex6.trans e0)) (ex17.trans (ex7.trans e1)) (ex18.trans (ex8.trans e2)) (ex19.trans (ex9.trans e3)) (ex20.trans (ex10.trans e4)) (by first | trivial | omega) (by omega)
    · skip
      exact hk  h I_h e0 e1 e2 e3 e4 (by first | trivial | omega)
theorem s_X3_pass (h : dH) (I_h : InvC h) (a0 : Nat) (ha0 : zS a0) (v1 : Int32) (q0 : 0 ≤ v1.toInt ∧ v1.toInt ≤ 20) : Sf (f_X3_pass a0 v1 h) (fun o => InvC o.2 ∧ o.2 0 3 = h 0 3 ∧ o.2 1 0 = h 1 0 ∧ o.2 1 5 = h 1 5 ∧ o.2 42 2 = h 42 2 ∧ o.2 43 2 = h 43 2 ∧ True) := by
  unfold f_X3_pass
  have z_a0 : a0 = 43 ∨ a0 = 57 ∨ a0 = 71 := ha0
  have u_v1 := Int32.toInt_lt v1
  have w_v1 := Int32.le_toInt v1
  have tx27 : (0 : Int32).toInt = 0 := by decide
  refine sl_X3_pass_2 a0 v1 ha0 h I_h (by omega) _ _ (fun g6 I_g6 eg6_0 eg6_1 eg6_2 eg6_3 eg6_4 px28 => ?_)  fuel0 (0 : Int32) h I_h rfl rfl rfl rfl rfl (by first | trivial | omega) (by have := fuel0_eq; omega)
  have yx29 := congrArg Int32.toInt eg6_0
  have yx30 := congrArg Int32.toInt eg6_1
  have yx31 := congrArg Int32.toInt eg6_2
  have yx32 := congrArg Int32.toInt eg6_3
  have yx33 := congrArg Int32.toInt eg6_4
  refine sf_oP (s_X3_friends g6 I_g6 a0 ha0) (fun r7 pr7 => ?_)
  exact sf_some (⟨I_g6, eg6_0, eg6_1, eg6_2, eg6_3, eg6_4, trivial⟩)
theorem sl_X3_dinAt_4 (a0 : Nat) (v1 : Int32) (ha0 : zS a0) (h0 : dH) (I_h0 : InvC h0)  (k : Int32 → dH → Option (Int32 × dH)) (Q : Int32 × dH → Prop) (hk : ∀ (v2 : Int32) (g : dH) (Ig : InvC g) (e0 : g 0 3 = h0 0 3) (e1 : g 1 0 = h0 1 0) (e2 : g 1 5 = h0 1 5) (e3 : g 42 2 = h0 42 2) (e4 : g 43 2 = h0 43 2), True → Sf (k v2 g) Q)  : ∀ (n : Nat) (v2 : Int32) (v3 : Int32) (h : dH) (I_h : InvC h) (e0 : h 0 3 = h0 0 3) (e1 : h 1 0 = h0 1 0) (e2 : h 1 5 = h0 1 5) (e3 : h 42 2 = h0 42 2) (e4 : h 43 2 = h0 43 2), 0 ≤ v3.toInt ∧ v3.toInt ≤ 8 → 8 - v3.toInt < (n : Int) → Sf (l_X3_dinAt_4 a0 v1 k n v2 v3 h) Q
  | 0, v2, v3, h, I_h, e0, e1, e2, e3, e4, hi, hm => by omega
  | n + 1, v2, v3, h, I_h, e0, e1, e2, e3, e4, hi, hm => by
    rw [l_X3_dinAt_4]
    have yx1 := congrArg Int32.toInt e0
    have yx2 := congrArg Int32.toInt e1
    have yx3 := congrArg Int32.toInt e2
    have yx4 := congrArg Int32.toInt e3
    have yx5 := congrArg Int32.toInt e4
    have z_a0 : a0 = 43 ∨ a0 = 57 ∨ a0 = 71 := ha0
    have bx6 := I_h a0 2 (0) (8) (bS2 ha0)
    refine sf_ite (fun c1 => ?_) (fun c2 => ?_)
    · skip
      refine sf_guard (by omega) (fun c3 => ?_)
      refine sf_ite (fun c4 => ?_) (fun c5 => ?_)
      · skip
        refine sf_oI (s_X3_sounds h I_h a0 ha0 v3 (by omega)) (fun r6 g7 pg7 => ?_)
        obtain ⟨I_g7, ex7, ex8, ex9, ex10, ex11, qg7⟩ := pg7
        try simp only at I_g7 ex7 ex8 ex9 ex10 ex11 qg7
        have yx12 := congrArg Int32.toInt ex7
        have yx13 := congrArg Int32.toInt ex8
        have yx14 := congrArg Int32.toInt ex9
        have yx15 := congrArg Int32.toInt ex10
        have yx16 := congrArg Int32.toInt ex11
        try have tx17 : (v2 + r6).toInt = v2.toInt + r6.toInt := i_add rfl rfl (by omega) (by omega)
        try have tx18 : (v3 + 1).toInt = v3.toInt + 1 := i_add rfl (by decide) (by omega) (by omega)
        exact sl_X3_dinAt_4  a0 v1 ha0 h0 I_h0  k Q hk n (v2 + r6) (v3 + 1) g7 I_g7 (ex7.trans e0) (ex8.trans e1) (ex9.trans e2) (ex10.trans e3) (ex11.trans e4) (by first | trivial | omega) (by omega)
      · skip
        try have tx19 : (v3 + 1).toInt = v3.toInt + 1 := i_add rfl (by decide) (by omega) (by omega)
        exact sl_X3_dinAt_4  a0 v1 ha0 h0 I_h0  k Q hk n v2 (v3 + 1) h I_h e0 e1 e2 e3 e4 (by first | trivial | omega) (by omega)
    · skip
      exact hk v2 h I_h e0 e1 e2 e3 e4 (by first | trivial | omega)
theorem s_X3_dinAt (h : dH) (I_h : InvC h) (a0 : Nat) (ha0 : zS a0) (v1 : Int32)  : Sf (f_X3_dinAt a0 v1 h) (fun o => InvC o.2 ∧ o.2 0 3 = h 0 3 ∧ o.2 1 0 = h 1 0 ∧ o.2 1 5 = h 1 5 ∧ o.2 42 2 = h 42 2 ∧ o.2 43 2 = h 43 2 ∧ True) := by
  unfold f_X3_dinAt
  have z_a0 : a0 = 43 ∨ a0 = 57 ∨ a0 = 71 := ha0
  have u_v1 := Int32.toInt_lt v1
  have w_v1 := Int32.le_toInt v1
  have tx20 : (0 : Int32).toInt = 0 := by decide
  refine sl_X3_dinAt_4 a0 v1 ha0 h I_h  _ _ (fun v2_8 g10 I_g10 eg10_0 eg10_1 eg10_2 eg10_3 eg10_4 px21 => ?_)  fuel0 (0 : Int32) (0 : Int32) h I_h rfl rfl rfl rfl rfl (by first | trivial | omega) (by have := fuel0_eq; omega)
  have yx22 := congrArg Int32.toInt eg10_0
  have yx23 := congrArg Int32.toInt eg10_1
  have yx24 := congrArg Int32.toInt eg10_2
  have yx25 := congrArg Int32.toInt eg10_3
  have yx26 := congrArg Int32.toInt eg10_4
  exact sf_some (⟨I_g10, eg10_0, eg10_1, eg10_2, eg10_3, eg10_4, trivial⟩)
theorem sl_X3_quietTable_6 (a0 : Nat) (ha0 : zS a0) (h0 : dH) (I_h0 : InvC h0)  (k : Int32 → dH → Option (Int32 × dH)) (Q : Int32 × dH → Prop) (hk : ∀ (v1 : Int32) (g : dH) (Ig : InvC g) (e0 : g 0 3 = h0 0 3) (e1 : g 1 0 = h0 1 0) (e2 : g 1 5 = h0 1 5) (e3 : g 42 2 = h0 42 2) (e4 : g 43 2 = h0 43 2), True → Sf (k v1 g) Q)  : ∀ (n : Nat) (v1 : Int32) (v2 : Int32) (v3 : Int32) (h : dH) (I_h : InvC h) (e0 : h 0 3 = h0 0 3) (e1 : h 1 0 = h0 1 0) (e2 : h 1 5 = h0 1 5) (e3 : h 42 2 = h0 42 2) (e4 : h 43 2 = h0 43 2), 0 ≤ v3.toInt ∧ v3.toInt ≤ 4 → 4 - v3.toInt < (n : Int) → Sf (l_X3_quietTable_6 a0 k n v1 v2 v3 h) Q
  | 0, v1, v2, v3, h, I_h, e0, e1, e2, e3, e4, hi, hm => by omega
  | n + 1, v1, v2, v3, h, I_h, e0, e1, e2, e3, e4, hi, hm => by
    rw [l_X3_quietTable_6]
    have yx1 := congrArg Int32.toInt e0
    have yx2 := congrArg Int32.toInt e1
    have yx3 := congrArg Int32.toInt e2
    have yx4 := congrArg Int32.toInt e3
    have yx5 := congrArg Int32.toInt e4
    have z_a0 : a0 = 43 ∨ a0 = 57 ∨ a0 = 71 := ha0
    refine sf_ite (fun c1 => ?_) (fun c2 => ?_)
    · skip
      refine sf_oP (s_X3_seatsAt h I_h a0 ha0 v3) (fun r3 pr3 => ?_)
      refine sf_ite (fun c4 => ?_) (fun c5 => ?_)
      · skip
        try have tx6 : (v3 + 1).toInt = v3.toInt + 1 := i_add rfl (by decide) (by omega) (by omega)
        exact sl_X3_quietTable_6  a0 ha0 h0 I_h0  k Q hk n v1 v2 (v3 + 1) h I_h e0 e1 e2 e3 e4 (by first | trivial | omega) (by omega)
      · skip
        refine sf_oI (s_X3_dinAt h I_h a0 ha0 v3) (fun r6 g7 pg7 => ?_)
        obtain ⟨I_g7, ex7, ex8, ex9, ex10, ex11, qg7⟩ := pg7
        try simp only at I_g7 ex7 ex8 ex9 ex10 ex11 qg7
        have yx12 := congrArg Int32.toInt ex7
        have yx13 := congrArg Int32.toInt ex8
        have yx14 := congrArg Int32.toInt ex9
        have yx15 := congrArg Int32.toInt ex10
        have yx16 := congrArg Int32.toInt ex11
        refine sf_ite (fun c8 => ?_) (fun c9 => ?_)
        · skip
          try have tx17 : (v3 + 1).toInt = v3.toInt + 1 := i_add rfl (by decide) (by omega) (by omega)
          exact sl_X3_quietTable_6  a0 ha0 h0 I_h0  k Q hk n v3 r6 (v3 + 1) g7 I_g7 (ex7.trans e0) (ex8.trans e1) (ex9.trans e2) (ex10.trans e3) (ex11.trans e4) (by first | trivial | omega) (by omega)
        · skip
          refine sf_ite (fun c10 => ?_) (fun c11 => ?_)
          · skip
            try have tx18 : (v3 + 1).toInt = v3.toInt + 1 := i_add rfl (by decide) (by omega) (by omega)
            exact sl_X3_quietTable_6  a0 ha0 h0 I_h0  k Q hk n v3 r6 (v3 + 1) g7 I_g7 (ex7.trans e0) (ex8.trans e1) (ex9.trans e2) (ex10.trans e3) (ex11.trans e4) (by first | trivial | omega) (by omega)
          · skip
            try have tx19 : (v3 + 1).toInt = v3.toInt + 1 := i_add rfl (by decide) (by omega) (by omega)
            exact sl_X3_quietTable_6  a0 ha0 h0 I_h0  k Q hk n v1 v2 (v3 + 1) g7 I_g7 (ex7.trans e0) (ex8.trans e1) (ex9.trans e2) (ex10.trans e3) (ex11.trans e4) (by first | trivial | omega) (by omega)
    · skip
      exact hk v1 h I_h e0 e1 e2 e3 e4 (by first | trivial | omega)
theorem s_X3_quietTable (h : dH) (I_h : InvC h) (a0 : Nat) (ha0 : zS a0)  : Sf (f_X3_quietTable a0 h) (fun o => InvC o.2 ∧ o.2 0 3 = h 0 3 ∧ o.2 1 0 = h 1 0 ∧ o.2 1 5 = h 1 5 ∧ o.2 42 2 = h 42 2 ∧ o.2 43 2 = h 43 2 ∧ True) := by
  unfold f_X3_quietTable
  have z_a0 : a0 = 43 ∨ a0 = 57 ∨ a0 = 71 := ha0
  have tx20 : ((-1) : Int32).toInt = (-1) := by decide
  have tx21 : (0 : Int32).toInt = 0 := by decide
  refine sl_X3_quietTable_6 a0 ha0 h I_h  _ _ (fun v1_12 g16 I_g16 eg16_0 eg16_1 eg16_2 eg16_3 eg16_4 px22 => ?_)  fuel0 ((-1) : Int32) (0 : Int32) (0 : Int32) h I_h rfl rfl rfl rfl rfl (by first | trivial | omega) (by have := fuel0_eq; omega)
  have yx23 := congrArg Int32.toInt eg16_0
  have yx24 := congrArg Int32.toInt eg16_1
  have yx25 := congrArg Int32.toInt eg16_2
  have yx26 := congrArg Int32.toInt eg16_3
  have yx27 := congrArg Int32.toInt eg16_4
  exact sf_some (⟨I_g16, eg16_0, eg16_1, eg16_2, eg16_3, eg16_4, trivial⟩)
theorem s_X4_put (h : dH) (I_h : InvC h) (v1 : Int32)  : Sf (f_X4_put v1 h) (fun o => InvC o.2 ∧ o.2 0 3 = h 0 3 ∧ o.2 1 5 = h 1 5 ∧ o.2 42 2 = h 42 2 ∧ o.2 43 2 = h 43 2 ∧ True) := by
  unfold f_X4_put
  have u_v1 := Int32.toInt_lt v1
  have w_v1 := Int32.le_toInt v1
  have bx1 := I_h 1 0 (0) (160) rfl
  refine sf_ite (fun c1 => ?_) (fun c2 => ?_)
  · skip
    refine sf_guard (by omega) (fun c4 => ?_)
    refine sf_oH (fun g3 hg3 => ?_)
    have I_g3 : InvC g3 := by rw [hg3]; exact inv_free I_h rfl
    have ex2 : g3 0 3 = h 0 3 := by rw [hg3]; exact dU_ne (by omega)
    have yx3 := congrArg Int32.toInt ex2
    have ex4 : g3 1 0 = h 1 0 := by rw [hg3]; exact dU_ne (by omega)
    have yx5 := congrArg Int32.toInt ex4
    have ex6 : g3 1 5 = h 1 5 := by rw [hg3]; exact dU_ne (by omega)
    have yx7 := congrArg Int32.toInt ex6
    have ex8 : g3 42 2 = h 42 2 := by rw [hg3]; exact dU_ne (by omega)
    have yx9 := congrArg Int32.toInt ex8
    have ex10 : g3 43 2 = h 43 2 := by rw [hg3]; exact dU_ne (by omega)
    have yx11 := congrArg Int32.toInt ex10
    have bx12 := I_g3 1 0 (0) (160) rfl
    try have tx13 : ((g3 1 0) + 1).toInt = (g3 1 0).toInt + 1 := i_add rfl (by decide) (by omega) (by omega)
    refine sf_oH (fun g5 hg5 => ?_)
    have I_g5 : InvC g5 := by rw [hg5]; exact inv_set (l := 0) (u := 160) I_g3 rfl (by omega)
    have ex14 : g5 0 3 = g3 0 3 := by rw [hg5]; exact dU_ne (by omega)
    have yx15 := congrArg Int32.toInt ex14
    have ex16 : g5 1 5 = g3 1 5 := by rw [hg5]; exact dU_ne (by omega)
    have yx17 := congrArg Int32.toInt ex16
    have ex18 : g5 42 2 = g3 42 2 := by rw [hg5]; exact dU_ne (by omega)
    have yx19 := congrArg Int32.toInt ex18
    have ex20 : g5 43 2 = g3 43 2 := by rw [hg5]; exact dU_ne (by omega)
    have yx21 := congrArg Int32.toInt ex20
    have yx22 : (g5 1 0).toInt = ((g3 1 0) + 1).toInt := by rw [hg5, dU_eq]
    exact sf_some (⟨I_g5, (ex14.trans ex2), (ex16.trans ex6), (ex18.trans ex8), (ex20.trans ex10), trivial⟩)
  · skip
    exact sf_some (⟨I_h, rfl, rfl, rfl, rfl, trivial⟩)
theorem s_X4_empty (h : dH) (I_h : InvC h)   : Sf (f_X4_empty  h) (fun o => InvC o ∧ o 0 3 = h 0 3 ∧ o 1 5 = h 1 5 ∧ o 42 2 = h 42 2 ∧ o 43 2 = h 43 2 ∧ True) := by
  unfold f_X4_empty
  refine sf_oH (fun g1 hg1 => ?_)
  have I_g1 : InvC g1 := by rw [hg1]; exact inv_set (l := 0) (u := 160) I_h rfl (by decide)
  have ex1 : g1 0 3 = h 0 3 := by rw [hg1]; exact dU_ne (by omega)
  have yx2 := congrArg Int32.toInt ex1
  have ex3 : g1 1 5 = h 1 5 := by rw [hg1]; exact dU_ne (by omega)
  have yx4 := congrArg Int32.toInt ex3
  have ex5 : g1 42 2 = h 42 2 := by rw [hg1]; exact dU_ne (by omega)
  have yx6 := congrArg Int32.toInt ex5
  have ex7 : g1 43 2 = h 43 2 := by rw [hg1]; exact dU_ne (by omega)
  have yx8 := congrArg Int32.toInt ex7
  have yx9 : (g1 1 0).toInt = 0 := by rw [hg1, dU_eq]; decide
  exact sf_some (⟨I_g1, ex1, ex3, ex5, ex7, trivial⟩)
end
