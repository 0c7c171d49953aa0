/-! that they answer: X3_knows, X0_see, X0_everyone, X0_turn, X0_further, X0_companyOf, X0_companies, J6_bitCount_0f7a4, X0_largestCompany, X0_distance, X0_longestWay, X5_write, X5_endPart, X4_isDigit, X4_cutNumber, X4_isSmall, X4_reads, X4_keyFrom, X4_nameFrom, X4_cutWord, X4_isBlank, X4_cut, X5_clear, X2_isMissing, X2_lay, X2_holds, X2_put, X2_unlikeItems, X3_become, X3_add, X3_tie, X3_acquaintances, X3_friends, X3_allStrength (by program) -/
noncomputable section
theorem s_X3_knows (h : dH) (I_h : InvC h) (a0 : Nat) (ha0 : zS a0) (v1 : Int32) (v2 : Int32) (q0 : 0 ≤ v1.toInt ∧ v1.toInt ≤ 7) (q1 : 0 ≤ v2.toInt ∧ v2.toInt ≤ 7) : Sf (f_X3_knows a0 v1 v2 h) (fun r => True) := by
  unfold f_X3_knows
  have z_a0 : a0 = 43 ∨ a0 = 57 ∨ a0 = 71 := ha0
  have u_v1 := Int32.toInt_lt v1
  have w_v1 := Int32.le_toInt v1
  have u_v2 := Int32.toInt_lt v2
  have w_v2 := Int32.le_toInt v2
  refine sf_ite (fun c1 => ?_) (fun c2 => ?_)
  · skip
    exact sf_some (trivial)
  · skip
    refine sf_guard (by omega) (fun c3 => ?_)
    refine sf_guard (by omega) (fun c4 => ?_)
    refine sf_ite (fun c5 => ?_) (fun c6 => ?_)
    · skip
      exact sf_some (trivial)
    · skip
      exact sf_some (trivial)
theorem sl_X0_see_27 (a1 : Nat) (v2 : Int32) (ha1 : zS a1) (h0 : dH) (I_h0 : InvC h0) (r_v2 : 0 ≤ v2.toInt ∧ v2.toInt ≤ 7) (k : dH → Option (dH)) (Q : dH → Prop) (hk : ∀  (g : dH) (Ig : InvC g) (e0 : g 0 3 = h0 0 3) (e1 : g 1 0 = h0 1 0) (e2 : g 1 5 = h0 1 5) (e3 : g 42 2 = h0 42 2) (e4 : g 43 2 = h0 43 2), True → Sf (k  g) Q)  : ∀ (n : Nat) (v3 : Int32) (h : dH) (I_h : InvC h) (e0 : h 0 3 = h0 0 3) (e1 : h 1 0 = h0 1 0) (e2 : h 1 5 = h0 1 5) (e3 : h 42 2 = h0 42 2) (e4 : h 43 2 = h0 43 2), 0 ≤ v3.toInt ∧ v3.toInt ≤ 8 → 8 - v3.toInt < (n : Int) → Sf (l_X0_see_27 a1 v2 k n v3 h) Q
  | 0, v3, h, I_h, e0, e1, e2, e3, e4, hi, hm => by omega
  | n + 1, v3, h, I_h, e0, e1, e2, e3, e4, hi, hm => by
    rw [l_X0_see_27]
    have yx33 := congrArg Int32.toInt e0
    have yx34 := congrArg Int32.toInt e1
    have yx35 := congrArg Int32.toInt e2
    have yx36 := congrArg Int32.toInt e3
    have yx37 := congrArg Int32.toInt e4
    have z_a1 : a1 = 43 ∨ a1 = 57 ∨ a1 = 71 := ha1
    have bx38 := I_h 7 0 (0) (8) rfl
    refine sf_ite (fun c6 => ?_) (fun c7 => ?_)
    · skip
      refine sf_oP (s_X3_knows h I_h a1 ha1 v2 v3 (by omega) (by omega)) (fun r8 pr8 => ?_)
      refine sf_ite (fun c9 => ?_) (fun c10 => ?_)
      · skip
        try have tx39 : (v3 + 1).toInt = v3.toInt + 1 := i_add rfl (by decide) (by omega) (by omega)
        exact sl_X0_see_27  a1 v2 ha1 h0 I_h0 r_v2 k Q hk n (v3 + 1) h I_h e0 e1 e2 e3 e4 (by first | trivial | omega) (by omega)
      · skip
        refine sf_guard (by omega) (fun c11 => ?_)
        refine sf_guard (by omega) (fun c13 => ?_)
        try have tx40 := dshl1_ok (y := v3) (by omega) (by omega)
        refine sf_oH (fun g12 hg12 => ?_)
        have I_g12 : InvC g12 := by rw [hg12]; exact inv_free I_h rfl
        have ex41 : g12 0 3 = h 0 3 := by rw [hg12]; exact dU_ne (by omega)
        have yx42 := congrArg Int32.toInt ex41
        have ex43 : g12 1 0 = h 1 0 := by rw [hg12]; exact dU_ne (by omega)
        have yx44 := congrArg Int32.toInt ex43
        have ex45 : g12 1 5 = h 1 5 := by rw [hg12]; exact dU_ne (by omega)
        have yx46 := congrArg Int32.toInt ex45
        have ex47 : g12 42 2 = h 42 2 := by rw [hg12]; exact dU_ne (by omega)
        have yx48 := congrArg Int32.toInt ex47
        have ex49 : g12 43 2 = h 43 2 := by rw [hg12]; exact dU_ne (by omega)
        have yx50 := congrArg Int32.toInt ex49
        have ex51 : g12 a1 2 = h a1 2 := by rw [hg12]; exact dU_ne (by omega)
        have yx52 := congrArg Int32.toInt ex51
        try have tx53 : (v3 + 1).toInt = v3.toInt + 1 := i_add rfl (by decide) (by omega) (by omega)
        exact sl_X0_see_27  a1 v2 ha1 h0 I_h0 r_v2 k Q hk n (v3 + 1) g12 I_g12 (ex41.trans e0) (ex43.trans e1) (ex45.trans e2) (ex47.trans e3) (ex49.trans e4) (by first | trivial | omega) (by omega)
    · skip
      exact hk  h I_h e0 e1 e2 e3 e4 (by first | trivial | omega)
theorem sl_X0_see_10 (a1 : Nat) (ha1 : zS a1) (h0 : dH) (I_h0 : InvC h0)  (k : dH → Option (dH)) (Q : dH → Prop) (hk : ∀  (g : dH) (Ig : InvC g) (e0 : g 0 3 = h0 0 3) (e1 : g 1 0 = h0 1 0) (e2 : g 1 5 = h0 1 5) (e3 : g 42 2 = h0 42 2) (e4 : g 43 2 = h0 43 2), True → Sf (k  g) Q)  : ∀ (n : Nat) (v2 : Int32) (h : dH) (I_h : InvC h) (e0 : h 0 3 = h0 0 3) (e1 : h 1 0 = h0 1 0) (e2 : h 1 5 = h0 1 5) (e3 : h 42 2 = h0 42 2) (e4 : h 43 2 = h0 43 2), 0 ≤ v2.toInt ∧ v2.toInt ≤ 8 → 8 - v2.toInt < (n : Int) → Sf (l_X0_see_10 a1 k n v2 h) Q
  | 0, v2, h, I_h, e0, e1, e2, e3, e4, hi, hm => by omega
  | n + 1, v2, h, I_h, e0, e1, e2, e3, e4, hi, hm => by
    rw [l_X0_see_10]
    have yx15 := congrArg Int32.toInt e0
    have yx16 := congrArg Int32.toInt e1
    have yx17 := congrArg Int32.toInt e2
    have yx18 := congrArg Int32.toInt e3
    have yx19 := congrArg Int32.toInt e4
    have z_a1 : a1 = 43 ∨ a1 = 57 ∨ a1 = 71 := ha1
    have bx20 := I_h 7 0 (0) (8) rfl
    refine sf_ite (fun c2 => ?_) (fun c3 => ?_)
    · skip
      refine sf_guard (by omega) (fun c5 => ?_)
      refine sf_oH (fun g4 hg4 => ?_)
      have I_g4 : InvC g4 := by rw [hg4]; exact inv_free I_h rfl
      have ex21 : g4 0 3 = h 0 3 := by rw [hg4]; exact dU_ne (by omega)
      have yx22 := congrArg Int32.toInt ex21
      have ex23 : g4 1 0 = h 1 0 := by rw [hg4]; exact dU_ne (by omega)
      have yx24 := congrArg Int32.toInt ex23
      have ex25 : g4 1 5 = h 1 5 := by rw [hg4]; exact dU_ne (by omega)
      have yx26 := congrArg Int32.toInt ex25
      have ex27 : g4 42 2 = h 42 2 := by rw [hg4]; exact dU_ne (by omega)
      have yx28 := congrArg Int32.toInt ex27
      have ex29 : g4 43 2 = h 43 2 := by rw [hg4]; exact dU_ne (by omega)
      have yx30 := congrArg Int32.toInt ex29
      have ex31 : g4 a1 2 = h a1 2 := by rw [hg4]; exact dU_ne (by omega)
      have yx32 := congrArg Int32.toInt ex31
      have tx54 : (0 : Int32).toInt = 0 := by decide
      refine sl_X0_see_27 a1 v2 ha1 g4 I_g4 (by omega) _ _ (fun g15 I_g15 eg15_0 eg15_1 eg15_2 eg15_3 eg15_4 px55 => ?_)  fuel0 (0 : Int32) g4 I_g4 rfl rfl rfl rfl rfl (by first | trivial | omega) (by have := fuel0_eq; omega)
      have yx56 := congrArg Int32.toInt eg15_0
      have yx57 := congrArg Int32.toInt eg15_1
      have yx58 := congrArg Int32.toInt eg15_2
      have yx59 := congrArg Int32.toInt eg15_3
      have yx60 := congrArg Int32.toInt eg15_4
      try have tx61 : (v2 + 1).toInt = v2.toInt + 1 := i_add rfl (by decide) (by omega) (by omega)
      exact sl_X0_see_10  a1 ha1 h0 I_h0  k Q hk n (v2 + 1) g15 I_g15 (eg15_0.trans (ex21.trans e0)) (eg15_1.trans (ex23.trans e1)) (eg15_2.trans (ex25.trans e2)) (eg15_3.trans (ex27.trans e3)) (eg15_4.trans (ex29.trans e4)) (by first | trivial | omega) (by omega)
    · skip
      exact hk  h I_h e0 e1 e2 e3 e4 (by first | trivial | omega)
theorem s_X0_see (h : dH) (I_h : InvC h) (a1 : Nat) (ha1 : zS a1)  : Sf (f_X0_see a1 h) (fun o => InvC o ∧ o 0 3 = h 0 3 ∧ o 1 0 = h 1 0 ∧ o 1 5 = h 1 5 ∧ o 42 2 = h 42 2 ∧ o 43 2 = h 43 2 ∧ True) := by
  unfold f_X0_see
  have z_a1 : a1 = 43 ∨ a1 = 57 ∨ a1 = 71 := ha1
  have bx1 := I_h a1 2 (0) (8) (bS2 ha1)
  refine sf_oH (fun g1 hg1 => ?_)
  have I_g1 : InvC g1 := by rw [hg1]; exact inv_set (l := 0) (u := 8) I_h rfl (by omega)
  have ex2 : g1 0 3 = h 0 3 := by rw [hg1]; exact dU_ne (by omega)
  have yx3 := congrArg Int32.toInt ex2
  have ex4 : g1 1 0 = h 1 0 := by rw [hg1]; exact dU_ne (by omega)
  have yx5 := congrArg Int32.toInt ex4
  have ex6 : g1 1 5 = h 1 5 := by rw [hg1]; exact dU_ne (by omega)
  have yx7 := congrArg Int32.toInt ex6
  have ex8 : g1 42 2 = h 42 2 := by rw [hg1]; exact dU_ne (by omega)
  have yx9 := congrArg Int32.toInt ex8
  have ex10 : g1 43 2 = h 43 2 := by rw [hg1]; exact dU_ne (by omega)
  have yx11 := congrArg Int32.toInt ex10
  have ex12 : g1 a1 2 = h a1 2 := by rw [hg1]; exact dU_ne (by omega)
  have yx13 := congrArg Int32.toInt ex12
  have yx14 : (g1 7 0).toInt = (h a1 2).toInt := by rw [hg1, dU_eq]
  have tx62 : (0 : Int32).toInt = 0 := by decide
  refine sl_X0_see_10 a1 ha1 g1 I_g1  _ _ (fun g18 I_g18 eg18_0 eg18_1 eg18_2 eg18_3 eg18_4 px63 => ?_)  fuel0 (0 : Int32) g1 I_g1 rfl rfl rfl rfl rfl (by first | trivial | omega) (by have := fuel0_eq; omega)
  have yx64 := congrArg Int32.toInt eg18_0
  have yx65 := congrArg Int32.toInt eg18_1
  have yx66 := congrArg Int32.toInt eg18_2
  have yx67 := congrArg Int32.toInt eg18_3
  have yx68 := congrArg Int32.toInt eg18_4
  exact sf_some (⟨I_g18, (eg18_0.trans ex2), (eg18_1.trans ex4), (eg18_2.trans ex6), (eg18_3.trans ex8), (eg18_4.trans ex10), trivial⟩)
theorem s_X0_everyone (h : dH) (I_h : InvC h)   : Sf (f_X0_everyone  h) (fun r => True) := by
  unfold f_X0_everyone
  exact sf_some (trivial)
theorem s_X0_turn (h : dH) (I_h : InvC h) (v1 : Int32) (v2 : Int32) (q0 : 0 ≤ v1.toInt ∧ v1.toInt ≤ 7) (q1 : 0 ≤ v2.toInt ∧ v2.toInt ≤ 7) : Sf (f_X0_turn v1 v2 h) (fun o => InvC o ∧ o 0 3 = h 0 3 ∧ o 1 0 = h 1 0 ∧ o 1 5 = h 1 5 ∧ o 42 2 = h 42 2 ∧ o 43 2 = h 43 2 ∧ True) := by
  unfold f_X0_turn
  have u_v1 := Int32.toInt_lt v1
  have w_v1 := Int32.le_toInt v1
  have u_v2 := Int32.toInt_lt v2
  have w_v2 := Int32.le_toInt v2
  refine sf_guard (by omega) (fun c1 => ?_)
  refine sf_guard (by omega) (fun c3 => ?_)
  try have tx1 := dshl1_ok (y := v2) (by omega) (by omega)
  refine sf_oH (fun g2 hg2 => ?_)
  have I_g2 : InvC g2 := by rw [hg2]; exact inv_free I_h rfl
  have ex2 : g2 0 3 = h 0 3 := by rw [hg2]; exact dU_ne (by omega)
  have yx3 := congrArg Int32.toInt ex2
  have ex4 : g2 1 0 = h 1 0 := by rw [hg2]; exact dU_ne (by omega)
  have yx5 := congrArg Int32.toInt ex4
  have ex6 : g2 1 5 = h 1 5 := by rw [hg2]; exact dU_ne (by omega)
  have yx7 := congrArg Int32.toInt ex6
  have ex8 : g2 42 2 = h 42 2 := by rw [hg2]; exact dU_ne (by omega)
  have yx9 := congrArg Int32.toInt ex8
  have ex10 : g2 43 2 = h 43 2 := by rw [hg2]; exact dU_ne (by omega)
  have yx11 := congrArg Int32.toInt ex10
  refine sf_guard (by omega) (fun c4 => ?_)
  refine sf_guard (by omega) (fun c6 => ?_)
  try have tx12 := dshl1_ok (y := v1) (by omega) (by omega)
  refine sf_oH (fun g5 hg5 => ?_)
  have I_g5 : InvC g5 := by rw [hg5]; exact inv_free I_g2 rfl
  have ex13 : g5 0 3 = g2 0 3 := by rw [hg5]; exact dU_ne (by omega)
  have yx14 := congrArg Int32.toInt ex13
  have ex15 : g5 1 0 = g2 1 0 := by rw [hg5]; exact dU_ne (by omega)
  have yx16 := congrArg Int32.toInt ex15
  have ex17 : g5 1 5 = g2 1 5 := by rw [hg5]; exact dU_ne (by omega)
  have yx18 := congrArg Int32.toInt ex17
  have ex19 : g5 42 2 = g2 42 2 := by rw [hg5]; exact dU_ne (by omega)
  have yx20 := congrArg Int32.toInt ex19
  have ex21 : g5 43 2 = g2 43 2 := by rw [hg5]; exact dU_ne (by omega)
  have yx22 := congrArg Int32.toInt ex21
  exact sf_some (⟨I_g5, (ex13.trans ex2), (ex15.trans ex4), (ex17.trans ex6), (ex19.trans ex8), (ex21.trans ex10), trivial⟩)
theorem sl_X0_further_4 (v1 : Int32)  (h : dH) (I_h : InvC h)  (k : Int32 → Option (Int32)) (Q : Int32 → Prop) (hk : ∀ (v2 : Int32), True → Sf (k v2) Q)  : ∀ (n : Nat) (v2 : Int32) (v3 : Int32), 0 ≤ v3.toInt ∧ v3.toInt ≤ 8 → 8 - v3.toInt < (n : Int) → Sf (l_X0_further_4 v1 h k n v2 v3) Q
  | 0, v2, v3, hi, hm => by omega
  | n + 1, v2, v3, hi, hm => by
    rw [l_X0_further_4]
    have bx1 := I_h 7 0 (0) (8) rfl
    refine sf_ite (fun c1 => ?_) (fun c2 => ?_)
    · skip
      refine sf_ite (fun c3 => ?_) (fun c4 => ?_)
      · skip
        refine sf_guard (by omega) (fun c5 => ?_)
        try have tx2 : (v3 + 1).toInt = v3.toInt + 1 := i_add rfl (by decide) (by omega) (by omega)
        exact sl_X0_further_4  v1  h I_h  k Q hk n (v2 ||| (h 8 (v3.toInt.toNat))) (v3 + 1) (by first | trivial | omega) (by omega)
      · skip
        try have tx3 : (v3 + 1).toInt = v3.toInt + 1 := i_add rfl (by decide) (by omega) (by omega)
        exact sl_X0_further_4  v1  h I_h  k Q hk n v2 (v3 + 1) (by first | trivial | omega) (by omega)
    · skip
      exact hk v2 (by first | trivial | omega)
theorem s_X0_further (h : dH) (I_h : InvC h) (v1 : Int32)  : Sf (f_X0_further v1 h) (fun r => True) := by
  unfold f_X0_further
  have u_v1 := Int32.toInt_lt v1
  have w_v1 := Int32.le_toInt v1
  have tx4 : (0 : Int32).toInt = 0 := by decide
  refine sl_X0_further_4 v1  h I_h  _ _ (fun v2_6 px5 => ?_)  fuel0 v1 (0 : Int32)  (by first | trivial | omega) (by have := fuel0_eq; omega)
  exact sf_some (trivial)
theorem sl_X0_companyOf_7 (v2 : Int32)  (h : dH) (I_h : InvC h)  (k : Int32 → Option (Int32)) (Q : Int32 → Prop) (hk : ∀ (v3 : Int32), True → Sf (k v3) Q)  : ∀ (n : Nat) (v3 : Int32) (v4 : Int32), 0 ≤ v4.toInt ∧ v4.toInt ≤ 8 → 8 - v4.toInt < (n : Int) → Sf (l_X0_companyOf_7 v2 h k n v3 v4) Q
  | 0, v3, v4, hi, hm => by omega
  | n + 1, v3, v4, hi, hm => by
    rw [l_X0_companyOf_7]
    refine sf_ite (fun c1 => ?_) (fun c2 => ?_)
    · skip
      refine sf_oP (s_X0_further h I_h v3) (fun r3 pr3 => ?_)
      try have tx1 : (v4 + 1).toInt = v4.toInt + 1 := i_add rfl (by decide) (by omega) (by omega)
      exact sl_X0_companyOf_7  v2  h I_h  k Q hk n (r3 &&& v2) (v4 + 1) (by first | trivial | omega) (by omega)
    · skip
      exact hk v3 (by first | trivial | omega)
theorem s_X0_companyOf (h : dH) (I_h : InvC h) (v1 : Int32) (v2 : Int32)  : Sf (f_X0_companyOf v1 v2 h) (fun r => True) := by
  unfold f_X0_companyOf
  have u_v1 := Int32.toInt_lt v1
  have w_v1 := Int32.le_toInt v1
  have u_v2 := Int32.toInt_lt v2
  have w_v2 := Int32.le_toInt v2
  try have tx2 := dshl1_ok (y := v1) (by omega) (by omega)
  have tx3 : (0 : Int32).toInt = 0 := by decide
  refine sl_X0_companyOf_7 v2  h I_h  _ _ (fun v3_4 px4 => ?_)  fuel0 (dshl 1 v1) (0 : Int32)  (by first | trivial | omega) (by have := fuel0_eq; omega)
  exact sf_some (trivial)
theorem sl_X0_companies_7 (v1 : Int32)  (h : dH) (I_h : InvC h)  (k : Int32 → Option (Int32)) (Q : Int32 → Prop) (hk : ∀ (v2 : Int32), True → Sf (k v2) Q)  : ∀ (n : Nat) (v2 : Int32) (v3 : Int32) (v4 : Int32), 0 ≤ v4.toInt ∧ v4.toInt ≤ 8 → 8 - v4.toInt < (n : Int) → Sf (l_X0_companies_7 v1 h k n v2 v3 v4) Q
  | 0, v2, v3, v4, hi, hm => by omega
  | n + 1, v2, v3, v4, hi, hm => by
    rw [l_X0_companies_7]
    have bx1 := I_h 7 0 (0) (8) rfl
    refine sf_ite (fun c1 => ?_) (fun c2 => ?_)
    · skip
      refine sf_ite (fun c3 => ?_) (fun c4 => ?_)
      · skip
        refine sf_oP (s_X0_companyOf h I_h v4 v1) (fun r5 pr5 => ?_)
        try have tx2 : (v2 + 1).toInt = v2.toInt + 1 := i_add rfl (by decide) (by omega) (by omega)
        try have tx3 : (v4 + 1).toInt = v4.toInt + 1 := i_add rfl (by decide) (by omega) (by omega)
        exact sl_X0_companies_7  v1  h I_h  k Q hk n (v2 + 1) (v3 &&& (r5 ^^^ (-1))) (v4 + 1) (by first | trivial | omega) (by omega)
      · skip
        try have tx4 : (v4 + 1).toInt = v4.toInt + 1 := i_add rfl (by decide) (by omega) (by omega)
        exact sl_X0_companies_7  v1  h I_h  k Q hk n v2 v3 (v4 + 1) (by first | trivial | omega) (by omega)
    · skip
      exact hk v2 (by first | trivial | omega)
theorem s_X0_companies (h : dH) (I_h : InvC h) (v1 : Int32)  : Sf (f_X0_companies v1 h) (fun r => True) := by
  unfold f_X0_companies
  have u_v1 := Int32.toInt_lt v1
  have w_v1 := Int32.le_toInt v1
  have tx5 : (0 : Int32).toInt = 0 := by decide
  refine sl_X0_companies_7 v1  h I_h  _ _ (fun v2_6 px6 => ?_)  fuel0 (0 : Int32) v1 (0 : Int32)  (by first | trivial | omega) (by have := fuel0_eq; omega)
  exact sf_some (trivial)
theorem s_J6_bitCount_0f7a4 (h : dH) (I_h : InvC h) (v0 : Int32)  : Sf (f_J6_bitCount_0f7a4 v0) (fun r => True) := by
  unfold f_J6_bitCount_0f7a4
  have u_v0 := Int32.toInt_lt v0
  have w_v0 := Int32.le_toInt v0
  exact sf_some (trivial)
theorem sl_X0_largestCompany_4   (h : dH) (I_h : InvC h)  (k : Int32 → Option (Int32)) (Q : Int32 → Prop) (hk : ∀ (v1 : Int32), True → Sf (k v1) Q)  : ∀ (n : Nat) (v1 : Int32) (v2 : Int32), 0 ≤ v2.toInt ∧ v2.toInt ≤ 8 → 8 - v2.toInt < (n : Int) → Sf (l_X0_largestCompany_4  h k n v1 v2) Q
  | 0, v1, v2, hi, hm => by omega
  | n + 1, v1, v2, hi, hm => by
    rw [l_X0_largestCompany_4]
    have bx1 := I_h 7 0 (0) (8) rfl
    refine sf_ite (fun c1 => ?_) (fun c2 => ?_)
    · skip
      refine sf_oP (s_X0_everyone h I_h ) (fun r3 pr3 => ?_)
      refine sf_oP (s_X0_companyOf h I_h v2 r3) (fun r4 pr4 => ?_)
      refine sf_oP (s_J6_bitCount_0f7a4 h I_h r4) (fun r5 pr5 => ?_)
      have tx2 := dmax_ok v1 r5
      try have tx3 : (v2 + 1).toInt = v2.toInt + 1 := i_add rfl (by decide) (by omega) (by omega)
      exact sl_X0_largestCompany_4    h I_h  k Q hk n (dmax v1 r5) (v2 + 1) (by first | trivial | omega) (by omega)
    · skip
      exact hk v1 (by first | trivial | omega)
theorem s_X0_largestCompany (h : dH) (I_h : InvC h)   : Sf (f_X0_largestCompany  h) (fun r => True) := by
  unfold f_X0_largestCompany
  have tx4 : (0 : Int32).toInt = 0 := by decide
  refine sl_X0_largestCompany_4   h I_h  _ _ (fun v1_6 px5 => ?_)  fuel0 (0 : Int32) (0 : Int32)  (by first | trivial | omega) (by have := fuel0_eq; omega)
  exact sf_some (trivial)
theorem sl_X0_distance_7 (v2 : Int32)  (h : dH) (I_h : InvC h)  (k : Option (Int32)) (Q : Int32 → Prop) (hk : True → Sf (k ) Q) (hQ : ∀ o, True → Q o) : ∀ (n : Nat) (v3 : Int32) (v4 : Int32), 0 ≤ v4.toInt ∧ v4.toInt ≤ 8 → 8 - v4.toInt < (n : Int) → Sf (l_X0_distance_7 v2 h k n v3 v4) Q
  | 0, v3, v4, hi, hm => by omega
  | n + 1, v3, v4, hi, hm => by
    rw [l_X0_distance_7]
    refine sf_ite (fun c1 => ?_) (fun c2 => ?_)
    · skip
      refine sf_ite (fun c3 => ?_) (fun c4 => ?_)
      · skip
        exact sf_some (hQ _ trivial)
      · skip
        refine sf_oP (s_X0_further h I_h v3) (fun r5 pr5 => ?_)
        try have tx1 : (v4 + 1).toInt = v4.toInt + 1 := i_add rfl (by decide) (by omega) (by omega)
        exact sl_X0_distance_7  v2  h I_h  k Q hk hQ n r5 (v4 + 1) (by first | trivial | omega) (by omega)
    · skip
      exact hk  (by first | trivial | omega)
theorem s_X0_distance (h : dH) (I_h : InvC h) (v1 : Int32) (v2 : Int32)  : Sf (f_X0_distance v1 v2 h) (fun r => True) := by
  unfold f_X0_distance
  have u_v1 := Int32.toInt_lt v1
  have w_v1 := Int32.le_toInt v1
  have u_v2 := Int32.toInt_lt v2
  have w_v2 := Int32.le_toInt v2
  try have tx2 := dshl1_ok (y := v1) (by omega) (by omega)
  have tx3 : (0 : Int32).toInt = 0 := by decide
  refine sl_X0_distance_7 v2  h I_h  _ _ (fun  px4 => ?_) (fun _ h => h) fuel0 (dshl 1 v1) (0 : Int32)  (by first | trivial | omega) (by have := fuel0_eq; omega)
  exact sf_some (trivial)
theorem sl_X0_longestWay_17 (v1 : Int32) (v3 : Int32)  (h : dH) (I_h : InvC h) (r_v3 : 0 ≤ v3.toInt ∧ v3.toInt ≤ 7) (k : Int32 → Option (Int32)) (Q : Int32 → Prop) (hk : ∀ (v2 : Int32), True → Sf (k v2) Q)  : ∀ (n : Nat) (v2 : Int32) (v4 : Int32), 0 ≤ v4.toInt ∧ v4.toInt ≤ 8 → 8 - v4.toInt < (n : Int) → Sf (l_X0_longestWay_17 v1 v3 h k n v2 v4) Q
  | 0, v2, v4, hi, hm => by omega
  | n + 1, v2, v4, hi, hm => by
    rw [l_X0_longestWay_17]
    have bx2 := I_h 7 0 (0) (8) rfl
    refine sf_ite (fun c3 => ?_) (fun c4 => ?_)
    · skip
      refine sf_oP (s_X0_distance h I_h v3 v4) (fun r5 pr5 => ?_)
      refine sf_ite (fun c6 => ?_) (fun c7 => ?_)
      · skip
        have tx3 := dmax_ok v2 v1
        try have tx4 : (v4 + 1).toInt = v4.toInt + 1 := i_add rfl (by decide) (by omega) (by omega)
        exact sl_X0_longestWay_17  v1 v3  h I_h r_v3 k Q hk n (dmax v2 v1) (v4 + 1) (by first | trivial | omega) (by omega)
      · skip
        have tx5 := dmax_ok v2 r5
        try have tx6 : (v4 + 1).toInt = v4.toInt + 1 := i_add rfl (by decide) (by omega) (by omega)
        exact sl_X0_longestWay_17  v1 v3  h I_h r_v3 k Q hk n (dmax v2 r5) (v4 + 1) (by first | trivial | omega) (by omega)
    · skip
      exact hk v2 (by first | trivial | omega)
theorem sl_X0_longestWay_4 (v1 : Int32)  (h : dH) (I_h : InvC h)  (k : Int32 → Option (Int32)) (Q : Int32 → Prop) (hk : ∀ (v2 : Int32), True → Sf (k v2) Q)  : ∀ (n : Nat) (v2 : Int32) (v3 : Int32), 0 ≤ v3.toInt ∧ v3.toInt ≤ 8 → 8 - v3.toInt < (n : Int) → Sf (l_X0_longestWay_4 v1 h k n v2 v3) Q
  | 0, v2, v3, hi, hm => by omega
  | n + 1, v2, v3, hi, hm => by
    rw [l_X0_longestWay_4]
    have bx1 := I_h 7 0 (0) (8) rfl
    refine sf_ite (fun c1 => ?_) (fun c2 => ?_)
    · skip
      try have tx7 : (v3 + 1).toInt = v3.toInt + 1 := i_add rfl (by decide) (by omega) (by omega)
      refine sl_X0_longestWay_17 v1 v3  h I_h (by omega) _ _ (fun v2_8 px8 => ?_)  fuel0 v2 (v3 + 1)  (by first | trivial | omega) (by have := fuel0_eq; omega)
      exact sl_X0_longestWay_4  v1  h I_h  k Q hk n v2_8 (v3 + 1) (by first | trivial | omega) (by omega)
    · skip
      exact hk v2 (by first | trivial | omega)
theorem s_X0_longestWay (h : dH) (I_h : InvC h) (v1 : Int32)  : Sf (f_X0_longestWay v1 h) (fun r => True) := by
  unfold f_X0_longestWay
  have u_v1 := Int32.toInt_lt v1
  have w_v1 := Int32.le_toInt v1
  have tx9 : (0 : Int32).toInt = 0 := by decide
  refine sl_X0_longestWay_4 v1  h I_h  _ _ (fun v2_11 px10 => ?_)  fuel0 (0 : Int32) (0 : Int32)  (by first | trivial | omega) (by have := fuel0_eq; omega)
  exact sf_some (trivial)
theorem s_X5_write (h : dH) (I_h : InvC h) (a0 : Nat) (ha0 : zT a0) (v1 : Int32)  : Sf (f_X5_write a0 v1 h) (fun o => InvC o ∧ o 0 3 = h 0 3 ∧ o 1 0 = h 1 0 ∧ o 1 5 = h 1 5 ∧ o 42 2 = h 42 2 ∧ o 43 2 = h 43 2 ∧ True) := by
  unfold f_X5_write
  have z_a0 : a0 = 10 ∨ a0 = 14 ∨ a0 = 18 ∨ a0 = 22 ∨ a0 = 26 ∨ a0 = 30 := ha0
  have u_v1 := Int32.toInt_lt v1
  have w_v1 := Int32.le_toInt v1
  have bx1 := I_h a0 1 (0) (160) (bT1 ha0)
  refine sf_ite (fun c1 => ?_) (fun c2 => ?_)
  · skip
    refine sf_guard (by omega) (fun c4 => ?_)
    refine sf_oH (fun g3 hg3 => ?_)
    have I_g3 : InvC g3 := by rw [hg3]; exact inv_free I_h (fT1 ha0)
    have ex2 : g3 0 3 = h 0 3 := by rw [hg3]; exact dU_ne (by omega)
    have yx3 := congrArg Int32.toInt ex2
    have ex4 : g3 1 0 = h 1 0 := by rw [hg3]; exact dU_ne (by omega)
    have yx5 := congrArg Int32.toInt ex4
    have ex6 : g3 1 5 = h 1 5 := by rw [hg3]; exact dU_ne (by omega)
    have yx7 := congrArg Int32.toInt ex6
    have ex8 : g3 42 2 = h 42 2 := by rw [hg3]; exact dU_ne (by omega)
    have yx9 := congrArg Int32.toInt ex8
    have ex10 : g3 43 2 = h 43 2 := by rw [hg3]; exact dU_ne (by omega)
    have yx11 := congrArg Int32.toInt ex10
    have ex12 : g3 a0 1 = h a0 1 := by rw [hg3]; exact dU_ne (by omega)
    have yx13 := congrArg Int32.toInt ex12
    have bx14 := I_g3 a0 1 (0) (160) (bT1 ha0)
    try have tx15 : ((g3 a0 1) + 1).toInt = (g3 a0 1).toInt + 1 := i_add rfl (by decide) (by omega) (by omega)
    refine sf_oH (fun g5 hg5 => ?_)
    have I_g5 : InvC g5 := by rw [hg5]; exact inv_set (l := 0) (u := 160) I_g3 (bT1 ha0) (by omega)
    have ex16 : g5 0 3 = g3 0 3 := by rw [hg5]; exact dU_ne (by omega)
    have yx17 := congrArg Int32.toInt ex16
    have ex18 : g5 1 0 = g3 1 0 := by rw [hg5]; exact dU_ne (by omega)
    have yx19 := congrArg Int32.toInt ex18
    have ex20 : g5 1 5 = g3 1 5 := by rw [hg5]; exact dU_ne (by omega)
    have yx21 := congrArg Int32.toInt ex20
    have ex22 : g5 42 2 = g3 42 2 := by rw [hg5]; exact dU_ne (by omega)
    have yx23 := congrArg Int32.toInt ex22
    have ex24 : g5 43 2 = g3 43 2 := by rw [hg5]; exact dU_ne (by omega)
    have yx25 := congrArg Int32.toInt ex24
    have yx26 : (g5 a0 1).toInt = ((g3 a0 1) + 1).toInt := by rw [hg5, dU_eq]
    exact sf_some (⟨I_g5, (ex16.trans ex2), (ex18.trans ex4), (ex20.trans ex6), (ex22.trans ex8), (ex24.trans ex10), trivial⟩)
  · skip
    exact sf_some (⟨I_h, rfl, rfl, rfl, rfl, rfl, trivial⟩)
theorem s_X5_endPart (h : dH) (I_h : InvC h) (a0 : Nat) (ha0 : zT a0) (v1 : Int32) (q0 : 0 ≤ v1.toInt ∧ v1.toInt ≤ 2) : Sf (f_X5_endPart a0 v1 h) (fun o => InvC o ∧ o 0 3 = h 0 3 ∧ o 1 0 = h 1 0 ∧ o 1 5 = h 1 5 ∧ o 42 2 = h 42 2 ∧ o 43 2 = h 43 2 ∧ True) := by
  unfold f_X5_endPart
  have z_a0 : a0 = 10 ∨ a0 = 14 ∨ a0 = 18 ∨ a0 = 22 ∨ a0 = 26 ∨ a0 = 30 := ha0
  have u_v1 := Int32.toInt_lt v1
  have w_v1 := Int32.le_toInt v1
  refine sf_guard (by omega) (fun c2 => ?_)
  have bx1 := I_h a0 1 (0) (160) (bT1 ha0)
  refine sf_oH (fun g1 hg1 => ?_)
  have I_g1 : InvC g1 := by rw [hg1]; exact inv_set (l := 0) (u := 160) I_h (bT2 ha0) (by omega)
  have ex2 : g1 0 3 = h 0 3 := by rw [hg1]; exact dU_ne (by omega)
  have yx3 := congrArg Int32.toInt ex2
  have ex4 : g1 1 0 = h 1 0 := by rw [hg1]; exact dU_ne (by omega)
  have yx5 := congrArg Int32.toInt ex4
  have ex6 : g1 1 5 = h 1 5 := by rw [hg1]; exact dU_ne (by omega)
  have yx7 := congrArg Int32.toInt ex6
  have ex8 : g1 42 2 = h 42 2 := by rw [hg1]; exact dU_ne (by omega)
  have yx9 := congrArg Int32.toInt ex8
  have ex10 : g1 43 2 = h 43 2 := by rw [hg1]; exact dU_ne (by omega)
  have yx11 := congrArg Int32.toInt ex10
  have ex12 : g1 a0 1 = h a0 1 := by rw [hg1]; exact dU_ne (by omega)
  have yx13 := congrArg Int32.toInt ex12
  exact sf_some (⟨I_g1, ex2, ex4, ex6, ex8, ex10, trivial⟩)
theorem s_X4_isDigit (h : dH) (I_h : InvC h) (v0 : Int32)  : Sf (f_X4_isDigit v0) (fun r => True) := by
  unfold f_X4_isDigit
  have u_v0 := Int32.toInt_lt v0
  have w_v0 := Int32.le_toInt v0
  refine sf_ite (fun c1 => ?_) (fun c2 => ?_)
  · skip
    exact sf_some (trivial)
  · skip
    refine sf_ite (fun c3 => ?_) (fun c4 => ?_)
    · skip
      exact sf_some (trivial)
    · skip
      exact sf_some (trivial)
theorem sl_X4_cutNumber_2   (h0 : dH) (I_h0 : InvC h0)  (k : Int32 → dH → Option (dH)) (Q : dH → Prop) (hk : ∀ (v2 : Int32) (g : dH) (Ig : InvC g) (e0 : g 0 3 = h0 0 3) (e1 : g 1 0 = h0 1 0) (e2 : g 42 2 = h0 42 2) (e3 : g 43 2 = h0 43 2), True → Sf (k v2 g) Q)  : ∀ (n : Nat) (v2 : Int32) (h : dH) (I_h : InvC h) (e0 : h 0 3 = h0 0 3) (e1 : h 1 0 = h0 1 0) (e2 : h 42 2 = h0 42 2) (e3 : h 43 2 = h0 43 2), True → 160 - (h 1 5).toInt < (n : Int) → Sf (l_X4_cutNumber_2  k n v2 h) Q
  | 0, v2, h, I_h, e0, e1, e2, e3, hi, hm => by have := I_h 1 5 0 160 rfl; omega
  | n + 1, v2, h, I_h, e0, e1, e2, e3, hi, hm => by
    rw [l_X4_cutNumber_2]
    have yx1 := congrArg Int32.toInt e0
    have yx2 := congrArg Int32.toInt e1
    have yx3 := congrArg Int32.toInt e2
    have yx4 := congrArg Int32.toInt e3
    have bx5 := I_h 1 5 (0) (160) rfl
    have bx6 := I_h 1 0 (0) (160) rfl
    refine sf_ite (fun c1 => ?_) (fun c2 => ?_)
    · skip
      refine sf_guard (by omega) (fun c3 => ?_)
      refine sf_oP (s_X4_isDigit h I_h (h 5 ((h 1 5).toInt.toNat))) (fun r4 pr4 => ?_)
      refine sf_ite (fun c5 => ?_) (fun c6 => ?_)
      · skip
        exact hk v2 h I_h e0 e1 e2 e3 (by first | trivial | omega)
      · skip
        refine sf_guard (by omega) (fun c7 => ?_)
        try have tx7 : ((h 1 5) + 1).toInt = (h 1 5).toInt + 1 := i_add rfl (by decide) (by omega) (by omega)
        refine sf_oH (fun g8 hg8 => ?_)
        have I_g8 : InvC g8 := by rw [hg8]; exact inv_set (l := 0) (u := 160) I_h rfl (by omega)
        have ex8 : g8 0 3 = h 0 3 := by rw [hg8]; exact dU_ne (by omega)
        have yx9 := congrArg Int32.toInt ex8
        have ex10 : g8 1 0 = h 1 0 := by rw [hg8]; exact dU_ne (by omega)
        have yx11 := congrArg Int32.toInt ex10
        have ex12 : g8 42 2 = h 42 2 := by rw [hg8]; exact dU_ne (by omega)
        have yx13 := congrArg Int32.toInt ex12
        have ex14 : g8 43 2 = h 43 2 := by rw [hg8]; exact dU_ne (by omega)
        have yx15 := congrArg Int32.toInt ex14
        have yx16 : (g8 1 5).toInt = ((h 1 5) + 1).toInt := by rw [hg8, dU_eq]
        try have tx17 : (v2 * 10).toInt = v2.toInt * 10 := i_mul rfl (by decide) (by omega) (by omega)
        try have tx18 : ((v2 * 10) + (h 5 ((h 1 5).toInt.toNat))).toInt = (v2 * 10).toInt + (h 5 ((h 1 5).toInt.toNat)).toInt := i_add rfl rfl (by omega) (by omega)
        try have tx19 : (((v2 * 10) + (h 5 ((h 1 5).toInt.toNat))) - 48).toInt = ((v2 * 10) + (h 5 ((h 1 5).toInt.toNat))).toInt - 48 := i_sub rfl (by decide) (by omega) (by omega)
        exact sl_X4_cutNumber_2    h0 I_h0  k Q hk n (((v2 * 10) + (h 5 ((h 1 5).toInt.toNat))) - 48) g8 I_g8 (ex8.trans e0) (ex10.trans e1) (ex12.trans e2) (ex14.trans e3) (by first | trivial | omega) (by omega)
    · skip
      exact hk v2 h I_h e0 e1 e2 e3 (by first | trivial | omega)
theorem s_X4_cutNumber (h : dH) (I_h : InvC h) (v1 : Int32) (q0 : 0 ≤ v1.toInt ∧ v1.toInt ≤ 160) : Sf (f_X4_cutNumber v1 h) (fun o => InvC o ∧ o 0 3 = h 0 3 ∧ o 1 0 = h 1 0 ∧ o 42 2 = h 42 2 ∧ o 43 2 = h 43 2 ∧ True) := by
  unfold f_X4_cutNumber
  have u_v1 := Int32.toInt_lt v1
  have w_v1 := Int32.le_toInt v1
  have tx20 : (0 : Int32).toInt = 0 := by decide
  have := I_h 1 5 0 160 rfl
  refine sl_X4_cutNumber_2   h I_h  _ _ (fun v2_9 g10 I_g10 eg10_0 eg10_1 eg10_2 eg10_3 px21 => ?_)  fuel0 (0 : Int32) h I_h rfl rfl rfl rfl (by first | trivial | omega) (by have := fuel0_eq; omega)
  have yx22 := congrArg Int32.toInt eg10_0
  have yx23 := congrArg Int32.toInt eg10_1
  have yx24 := congrArg Int32.toInt eg10_2
  have yx25 := congrArg Int32.toInt eg10_3
  refine sf_guard (by omega) (fun c11 => ?_)
  have bx26 := I_g10 1 5 (0) (160) rfl
  have bx27 := I_g10 3 (v1.toInt.toNat) (0) (160) rfl
  try have tx28 : ((g10 1 5) - (g10 3 (v1.toInt.toNat))).toInt = (g10 1 5).toInt - (g10 3 (v1.toInt.toNat)).toInt := i_sub rfl rfl (by omega) (by omega)
  refine sf_ite (fun c12 => ?_) (fun c13 => ?_)
  · skip
    refine sf_guard (by omega) (fun c15 => ?_)
    refine sf_oH (fun g14 hg14 => ?_)
    have I_g14 : InvC g14 := by rw [hg14]; exact inv_free I_g10 rfl
    have ex29 : g14 0 3 = g10 0 3 := by rw [hg14]; exact dU_ne (by omega)
    have yx30 := congrArg Int32.toInt ex29
    have ex31 : g14 1 0 = g10 1 0 := by rw [hg14]; exact dU_ne (by omega)
    have yx32 := congrArg Int32.toInt ex31
    have ex33 : g14 1 5 = g10 1 5 := by rw [hg14]; exact dU_ne (by omega)
    have yx34 := congrArg Int32.toInt ex33
    have ex35 : g14 42 2 = g10 42 2 := by rw [hg14]; exact dU_ne (by omega)
    have yx36 := congrArg Int32.toInt ex35
    have ex37 : g14 43 2 = g10 43 2 := by rw [hg14]; exact dU_ne (by omega)
    have yx38 := congrArg Int32.toInt ex37
    refine sf_guard (by omega) (fun c17 => ?_)
    refine sf_oH (fun g16 hg16 => ?_)
    have I_g16 : InvC g16 := by rw [hg16]; exact inv_free I_g14 rfl
    have ex39 : g16 0 3 = g14 0 3 := by rw [hg16]; exact dU_ne (by omega)
    have yx40 := congrArg Int32.toInt ex39
    have ex41 : g16 1 0 = g14 1 0 := by rw [hg16]; exact dU_ne (by omega)
    have yx42 := congrArg Int32.toInt ex41
    have ex43 : g16 1 5 = g14 1 5 := by rw [hg16]; exact dU_ne (by omega)
    have yx44 := congrArg Int32.toInt ex43
    have ex45 : g16 42 2 = g14 42 2 := by rw [hg16]; exact dU_ne (by omega)
    have yx46 := congrArg Int32.toInt ex45
    have ex47 : g16 43 2 = g14 43 2 := by rw [hg16]; exact dU_ne (by omega)
    have yx48 := congrArg Int32.toInt ex47
    exact sf_some (⟨I_g16, (ex39.trans (ex29.trans eg10_0)), (ex41.trans (ex31.trans eg10_1)), (ex45.trans (ex35.trans eg10_2)), (ex47.trans (ex37.trans eg10_3)), trivial⟩)
  · skip
    refine sf_guard (by omega) (fun c19 => ?_)
    refine sf_oH (fun g18 hg18 => ?_)
    have I_g18 : InvC g18 := by rw [hg18]; exact inv_free I_g10 rfl
    have ex49 : g18 0 3 = g10 0 3 := by rw [hg18]; exact dU_ne (by omega)
    have yx50 := congrArg Int32.toInt ex49
    have ex51 : g18 1 0 = g10 1 0 := by rw [hg18]; exact dU_ne (by omega)
    have yx52 := congrArg Int32.toInt ex51
    have ex53 : g18 1 5 = g10 1 5 := by rw [hg18]; exact dU_ne (by omega)
    have yx54 := congrArg Int32.toInt ex53
    have ex55 : g18 42 2 = g10 42 2 := by rw [hg18]; exact dU_ne (by omega)
    have yx56 := congrArg Int32.toInt ex55
    have ex57 : g18 43 2 = g10 43 2 := by rw [hg18]; exact dU_ne (by omega)
    have yx58 := congrArg Int32.toInt ex57
    refine sf_guard (by omega) (fun c21 => ?_)
    refine sf_oH (fun g20 hg20 => ?_)
    have I_g20 : InvC g20 := by rw [hg20]; exact inv_free I_g18 rfl
    have ex59 : g20 0 3 = g18 0 3 := by rw [hg20]; exact dU_ne (by omega)
    have yx60 := congrArg Int32.toInt ex59
    have ex61 : g20 1 0 = g18 1 0 := by rw [hg20]; exact dU_ne (by omega)
    have yx62 := congrArg Int32.toInt ex61
    have ex63 : g20 1 5 = g18 1 5 := by rw [hg20]; exact dU_ne (by omega)
    have yx64 := congrArg Int32.toInt ex63
    have ex65 : g20 42 2 = g18 42 2 := by rw [hg20]; exact dU_ne (by omega)
    have yx66 := congrArg Int32.toInt ex65
    have ex67 : g20 43 2 = g18 43 2 := by rw [hg20]; exact dU_ne (by omega)
    have yx68 := congrArg Int32.toInt ex67
    exact sf_some (⟨I_g20, (ex59.trans (ex49.trans eg10_0)), (ex61.trans (ex51.trans eg10_1)), (ex65.trans (ex55.trans eg10_2)), (ex67.trans (ex57.trans eg10_3)), trivial⟩)
theorem s_X4_isSmall (h : dH) (I_h : InvC h) (v0 : Int32)  : Sf (f_X4_isSmall v0) (fun r => True) := by
  unfold f_X4_isSmall
  have u_v0 := Int32.toInt_lt v0
  have w_v0 := Int32.le_toInt v0
  refine sf_ite (fun c1 => ?_) (fun c2 => ?_)
  · skip
    exact sf_some (trivial)
  · skip
    refine sf_ite (fun c3 => ?_) (fun c4 => ?_)
    · skip
      exact sf_some (trivial)
    · skip
      exact sf_some (trivial)
theorem sl_X4_reads_17 (a1 : Nat) (v2 : Int32) (ha1 : zStr a1) (h : dH) (I_h : InvC h)  (rn0 : 0 ≤ v2.toInt ∧ (h 1 5).toInt ≤ 160) (rn1 : (h 1 5).toInt - v2.toInt = ((strOf a1).length : Int) ∧ ((strOf a1).length : Int) ≤ 40) (k : Option (Int32)) (Q : Int32 → Prop) (hk : True → Sf (k ) Q) (hQ : ∀ o, True → Q o) : ∀ (n : Nat) (v3 : Int32), 0 ≤ v3.toInt ∧ v3.toInt ≤ 40 → 40 - v3.toInt < (n : Int) → Sf (l_X4_reads_17 a1 v2 h k n v3) Q
  | 0, v3, hi, hm => by omega
  | n + 1, v3, hi, hm => by
    rw [l_X4_reads_17]
    refine sf_oP (s_J0_length_8abf5 a1 ha1) (fun r4 pr4 => ?_)
    refine sf_ite (fun c5 => ?_) (fun c6 => ?_)
    · skip
      try have tx3 : (v2 + v3).toInt = v2.toInt + v3.toInt := i_add rfl rfl (by omega) (by omega)
      refine sf_guard (by omega) (fun c7 => ?_)
      refine sf_oP (s_J0_charAt_5068e a1 ha1 v3 (by omega)) (fun r8 pr8 => ?_)
      refine sf_ite (fun c9 => ?_) (fun c10 => ?_)
      · skip
        try have tx4 : (v3 + 1).toInt = v3.toInt + 1 := i_add rfl (by decide) (by omega) (by omega)
        exact sl_X4_reads_17  a1 v2 ha1 h I_h rn0 rn1 k Q hk hQ n (v3 + 1) (by first | trivial | omega) (by omega)
      · skip
        exact sf_some (hQ _ trivial)
    · skip
      exact hk  (by first | trivial | omega)
theorem s_X4_reads (h : dH) (I_h : InvC h) (a1 : Nat) (ha1 : zStr a1) (v2 : Int32) (q0 : 0 ≤ v2.toInt) : Sf (f_X4_reads a1 v2 h) (fun r => True) := by
  unfold f_X4_reads
  have u_v2 := Int32.toInt_lt v2
  have w_v2 := Int32.le_toInt v2
  refine sf_oP (s_J0_length_8abf5 a1 ha1) (fun r1 pr1 => ?_)
  have bx1 := I_h 1 5 (0) (160) rfl
  try have tx2 : ((h 1 5) - v2).toInt = (h 1 5).toInt - v2.toInt := i_sub rfl rfl (by omega) (by omega)
  refine sf_ite (fun c2 => ?_) (fun c3 => ?_)
  · skip
    have tx5 : (0 : Int32).toInt = 0 := by decide
    refine sl_X4_reads_17 a1 v2 ha1 h I_h (by omega) (by omega) _ _ (fun  px6 => ?_) (fun _ h => h) fuel0 (0 : Int32)  (by first | trivial | omega) (by have := fuel0_eq; omega)
    exact sf_some (trivial)
  · skip
    exact sf_some (trivial)
theorem s_X4_keyFrom (h : dH) (I_h : InvC h) (v1 : Int32) (q0 : 0 ≤ v1.toInt) : Sf (f_X4_keyFrom v1 h) (fun r => True) := by
  unfold f_X4_keyFrom
  have u_v1 := Int32.toInt_lt v1
  have w_v1 := Int32.le_toInt v1
  refine sf_oP (s_X4_reads h I_h (xB + 10 + 7) (zStr_k (by decide)) v1 (by omega)) (fun r1 pr1 => ?_)
  refine sf_ite (fun c2 => ?_) (fun c3 => ?_)
  · skip
    refine sf_oP (s_X4_reads h I_h (xB + 10 + 8) (zStr_k (by decide)) v1 (by omega)) (fun r4 pr4 => ?_)
    refine sf_ite (fun c5 => ?_) (fun c6 => ?_)
    · skip
      refine sf_oP (s_X4_reads h I_h (xB + 10 + 9) (zStr_k (by decide)) v1 (by omega)) (fun r7 pr7 => ?_)
      refine sf_ite (fun c8 => ?_) (fun c9 => ?_)
      · skip
        refine sf_oP (s_X4_reads h I_h (xB + 10 + 10) (zStr_k (by decide)) v1 (by omega)) (fun r10 pr10 => ?_)
        refine sf_ite (fun c11 => ?_) (fun c12 => ?_)
        · skip
          refine sf_oP (s_X4_reads h I_h (xB + 10 + 11) (zStr_k (by decide)) v1 (by omega)) (fun r13 pr13 => ?_)
          refine sf_ite (fun c14 => ?_) (fun c15 => ?_)
          · skip
            refine sf_oP (s_X4_reads h I_h (xB + 10 + 12) (zStr_k (by decide)) v1 (by omega)) (fun r16 pr16 => ?_)
            refine sf_ite (fun c17 => ?_) (fun c18 => ?_)
            · skip
              exact sf_some (trivial)
            · skip
              exact sf_some (trivial)
          · skip
            exact sf_some (trivial)
        · skip
          exact sf_some (trivial)
      · skip
        exact sf_some (trivial)
    · skip
      exact sf_some (trivial)
  · skip
    exact sf_some (trivial)
theorem s_X4_nameFrom (h : dH) (I_h : InvC h) (v1 : Int32) (q0 : 0 ≤ v1.toInt) : Sf (f_X4_nameFrom v1 h) (fun r => True) := by
  unfold f_X4_nameFrom
  have u_v1 := Int32.toInt_lt v1
  have w_v1 := Int32.le_toInt v1
  refine sf_oP (s_X4_reads h I_h (xB + 10 + 1) (zStr_k (by decide)) v1 (by omega)) (fun r1 pr1 => ?_)
  refine sf_ite (fun c2 => ?_) (fun c3 => ?_)
  · skip
    refine sf_oP (s_X4_reads h I_h (xB + 10 + 2) (zStr_k (by decide)) v1 (by omega)) (fun r4 pr4 => ?_)
    refine sf_ite (fun c5 => ?_) (fun c6 => ?_)
    · skip
      refine sf_oP (s_X4_reads h I_h (xB + 10 + 3) (zStr_k (by decide)) v1 (by omega)) (fun r7 pr7 => ?_)
      refine sf_ite (fun c8 => ?_) (fun c9 => ?_)
      · skip
        refine sf_oP (s_X4_reads h I_h (xB + 10 + 4) (zStr_k (by decide)) v1 (by omega)) (fun r10 pr10 => ?_)
        refine sf_ite (fun c11 => ?_) (fun c12 => ?_)
        · skip
          refine sf_oP (s_X4_reads h I_h (xB + 10 + 5) (zStr_k (by decide)) v1 (by omega)) (fun r13 pr13 => ?_)
          refine sf_ite (fun c14 => ?_) (fun c15 => ?_)
          · skip
            refine sf_oP (s_X4_reads h I_h (xB + 10 + 6) (zStr_k (by decide)) v1 (by omega)) (fun r16 pr16 => ?_)
            refine sf_ite (fun c17 => ?_) (fun c18 => ?_)
            · skip
              exact sf_some (trivial)
            · skip
              exact sf_some (trivial)
          · skip
            exact sf_some (trivial)
        · skip
          exact sf_some (trivial)
      · skip
        exact sf_some (trivial)
    · skip
      exact sf_some (trivial)
  · skip
    exact sf_some (trivial)
theorem sl_X4_cutWord_0   (h0 : dH) (I_h0 : InvC h0)  (k : dH → Option (dH)) (Q : dH → Prop) (hk : ∀  (g : dH) (Ig : InvC g) (e0 : g 0 3 = h0 0 3) (e1 : g 1 0 = h0 1 0) (e2 : g 42 2 = h0 42 2) (e3 : g 43 2 = h0 43 2), True → Sf (k  g) Q)  : ∀ (n : Nat)  (h : dH) (I_h : InvC h) (e0 : h 0 3 = h0 0 3) (e1 : h 1 0 = h0 1 0) (e2 : h 42 2 = h0 42 2) (e3 : h 43 2 = h0 43 2), True → 160 - (h 1 5).toInt < (n : Int) → Sf (l_X4_cutWord_0  k n  h) Q
  | 0, h, I_h, e0, e1, e2, e3, hi, hm => by have := I_h 1 5 0 160 rfl; omega
  | n + 1, h, I_h, e0, e1, e2, e3, hi, hm => by
    rw [l_X4_cutWord_0]
    have yx1 := congrArg Int32.toInt e0
    have yx2 := congrArg Int32.toInt e1
    have yx3 := congrArg Int32.toInt e2
    have yx4 := congrArg Int32.toInt e3
    have bx5 := I_h 1 5 (0) (160) rfl
    have bx6 := I_h 1 0 (0) (160) rfl
    refine sf_ite (fun c1 => ?_) (fun c2 => ?_)
    · skip
      refine sf_guard (by omega) (fun c3 => ?_)
      refine sf_oP (s_X4_isSmall h I_h (h 5 ((h 1 5).toInt.toNat))) (fun r4 pr4 => ?_)
      refine sf_ite (fun c5 => ?_) (fun c6 => ?_)
      · skip
        exact hk  h I_h e0 e1 e2 e3 (by first | trivial | omega)
      · skip
        try have tx7 : ((h 1 5) + 1).toInt = (h 1 5).toInt + 1 := i_add rfl (by decide) (by omega) (by omega)
        refine sf_oH (fun g7 hg7 => ?_)
        have I_g7 : InvC g7 := by rw [hg7]; exact inv_set (l := 0) (u := 160) I_h rfl (by omega)
        have ex8 : g7 0 3 = h 0 3 := by rw [hg7]; exact dU_ne (by omega)
        have yx9 := congrArg Int32.toInt ex8
        have ex10 : g7 1 0 = h 1 0 := by rw [hg7]; exact dU_ne (by omega)
        have yx11 := congrArg Int32.toInt ex10
        have ex12 : g7 42 2 = h 42 2 := by rw [hg7]; exact dU_ne (by omega)
        have yx13 := congrArg Int32.toInt ex12
        have ex14 : g7 43 2 = h 43 2 := by rw [hg7]; exact dU_ne (by omega)
        have yx15 := congrArg Int32.toInt ex14
        have yx16 : (g7 1 5).toInt = ((h 1 5) + 1).toInt := by rw [hg7, dU_eq]
        exact sl_X4_cutWord_0    h0 I_h0  k Q hk n  g7 I_g7 (ex8.trans e0) (ex10.trans e1) (ex12.trans e2) (ex14.trans e3) (by first | trivial | omega) (by omega)
    · skip
      exact hk  h I_h e0 e1 e2 e3 (by first | trivial | omega)
theorem s_X4_cutWord (h : dH) (I_h : InvC h) (v1 : Int32) (q0 : 0 ≤ v1.toInt ∧ v1.toInt ≤ 160) : Sf (f_X4_cutWord v1 h) (fun o => InvC o ∧ o 0 3 = h 0 3 ∧ o 1 0 = h 1 0 ∧ o 42 2 = h 42 2 ∧ o 43 2 = h 43 2 ∧ True) := by
  unfold f_X4_cutWord
  have u_v1 := Int32.toInt_lt v1
  have w_v1 := Int32.le_toInt v1
  have := I_h 1 5 0 160 rfl
  refine sl_X4_cutWord_0   h I_h  _ _ (fun g8 I_g8 eg8_0 eg8_1 eg8_2 eg8_3 px17 => ?_)  fuel0  h I_h rfl rfl rfl rfl (by first | trivial | omega) (by have := fuel0_eq; omega)
  have yx18 := congrArg Int32.toInt eg8_0
  have yx19 := congrArg Int32.toInt eg8_1
  have yx20 := congrArg Int32.toInt eg8_2
  have yx21 := congrArg Int32.toInt eg8_3
  refine sf_guard (by omega) (fun c9 => ?_)
  have bx22 := I_g8 3 (v1.toInt.toNat) (0) (160) rfl
  refine sf_oP (s_X4_nameFrom g8 I_g8 (g8 3 (v1.toInt.toNat)) (by omega)) (fun r10 pr10 => ?_)
  refine sf_ite (fun c11 => ?_) (fun c12 => ?_)
  · skip
    refine sf_guard (by omega) (fun c13 => ?_)
    refine sf_oP (s_X4_keyFrom g8 I_g8 (g8 3 (v1.toInt.toNat)) (by omega)) (fun r14 pr14 => ?_)
    refine sf_guard (by omega) (fun c16 => ?_)
    refine sf_oH (fun g15 hg15 => ?_)
    have I_g15 : InvC g15 := by rw [hg15]; exact inv_free I_g8 rfl
    have ex23 : g15 0 3 = g8 0 3 := by rw [hg15]; exact dU_ne (by omega)
    have yx24 := congrArg Int32.toInt ex23
    have ex25 : g15 1 0 = g8 1 0 := by rw [hg15]; exact dU_ne (by omega)
    have yx26 := congrArg Int32.toInt ex25
    have ex27 : g15 1 5 = g8 1 5 := by rw [hg15]; exact dU_ne (by omega)
    have yx28 := congrArg Int32.toInt ex27
    have ex29 : g15 42 2 = g8 42 2 := by rw [hg15]; exact dU_ne (by omega)
    have yx30 := congrArg Int32.toInt ex29
    have ex31 : g15 43 2 = g8 43 2 := by rw [hg15]; exact dU_ne (by omega)
    have yx32 := congrArg Int32.toInt ex31
    exact sf_some (⟨I_g15, (ex23.trans eg8_0), (ex25.trans eg8_1), (ex29.trans eg8_2), (ex31.trans eg8_3), trivial⟩)
  · skip
    refine sf_guard (by omega) (fun c18 => ?_)
    refine sf_oH (fun g17 hg17 => ?_)
    have I_g17 : InvC g17 := by rw [hg17]; exact inv_free I_g8 rfl
    have ex33 : g17 0 3 = g8 0 3 := by rw [hg17]; exact dU_ne (by omega)
    have yx34 := congrArg Int32.toInt ex33
    have ex35 : g17 1 0 = g8 1 0 := by rw [hg17]; exact dU_ne (by omega)
    have yx36 := congrArg Int32.toInt ex35
    have ex37 : g17 1 5 = g8 1 5 := by rw [hg17]; exact dU_ne (by omega)
    have yx38 := congrArg Int32.toInt ex37
    have ex39 : g17 42 2 = g8 42 2 := by rw [hg17]; exact dU_ne (by omega)
    have yx40 := congrArg Int32.toInt ex39
    have ex41 : g17 43 2 = g8 43 2 := by rw [hg17]; exact dU_ne (by omega)
    have yx42 := congrArg Int32.toInt ex41
    refine sf_guard (by omega) (fun c20 => ?_)
    obtain ⟨yx43, hyx43⟩ : ∃ y : Int32, y = ((-1) - r10) := ⟨_, rfl⟩
    rw [← hyx43]
    try have tx44 : yx43.toInt = (-1) - r10.toInt := by rw [hyx43]; exact i_sub (by decide) rfl (by omega) (by omega)
    clear hyx43
    refine sf_oH (fun g19 hg19 => ?_)
    have I_g19 : InvC g19 := by rw [hg19]; exact inv_free I_g17 rfl
    have ex45 : g19 0 3 = g17 0 3 := by rw [hg19]; exact dU_ne (by omega)
    have yx46 := congrArg Int32.toInt ex45
    have ex47 : g19 1 0 = g17 1 0 := by rw [hg19]; exact dU_ne (by omega)
    have yx48 := congrArg Int32.toInt ex47
    have ex49 : g19 1 5 = g17 1 5 := by rw [hg19]; exact dU_ne (by omega)
    have yx50 := congrArg Int32.toInt ex49
    have ex51 : g19 42 2 = g17 42 2 := by rw [hg19]; exact dU_ne (by omega)
    have yx52 := congrArg Int32.toInt ex51
    have ex53 : g19 43 2 = g17 43 2 := by rw [hg19]; exact dU_ne (by omega)
    have yx54 := congrArg Int32.toInt ex53
    exact sf_some (⟨I_g19, (ex45.trans (ex33.trans eg8_0)), (ex47.trans (ex35.trans eg8_1)), (ex51.trans (ex39.trans eg8_2)), (ex53.trans (ex41.trans eg8_3)), trivial⟩)
theorem s_X4_isBlank (h : dH) (I_h : InvC h) (v0 : Int32)  : Sf (f_X4_isBlank v0) (fun r => True) := by
  unfold f_X4_isBlank
  have u_v0 := Int32.toInt_lt v0
  have w_v0 := Int32.le_toInt v0
  refine sf_ite (fun c1 => ?_) (fun c2 => ?_)
  · skip
    exact sf_some (trivial)
  · skip
    refine sf_ite (fun c3 => ?_) (fun c4 => ?_)
    · skip
      exact sf_some (trivial)
    · skip
      exact sf_some (trivial)
theorem sl_X4_cut_14   (h0 : dH) (I_h0 : InvC h0)  (k : dH → Option (dH)) (Q : dH → Prop) (hk : ∀  (g : dH) (Ig : InvC g) (e0 : g 0 3 = h0 0 3) (e1 : g 1 0 = h0 1 0) (e2 : g 42 2 = h0 42 2) (e3 : g 43 2 = h0 43 2), True → Sf (k  g) Q)  : ∀ (n : Nat)  (h : dH) (I_h : InvC h) (e0 : h 0 3 = h0 0 3) (e1 : h 1 0 = h0 1 0) (e2 : h 42 2 = h0 42 2) (e3 : h 43 2 = h0 43 2), True → 160 - (h 1 5).toInt < (n : Int) → Sf (l_X4_cut_14  k n  h) Q
  | 0, h, I_h, e0, e1, e2, e3, hi, hm => by have := I_h 1 5 0 160 rfl; omega
  | n + 1, h, I_h, e0, e1, e2, e3, hi, hm => by
    rw [l_X4_cut_14]
    have yx14 := congrArg Int32.toInt e0
    have yx15 := congrArg Int32.toInt e1
    have yx16 := congrArg Int32.toInt e2
    have yx17 := congrArg Int32.toInt e3
    have bx18 := I_h 1 5 (0) (160) rfl
    have bx19 := I_h 1 0 (0) (160) rfl
    refine sf_ite (fun c4 => ?_) (fun c5 => ?_)
    · skip
      refine sf_guard (by omega) (fun c6 => ?_)
      refine sf_oP (s_X4_isBlank h I_h (h 5 ((h 1 5).toInt.toNat))) (fun r7 pr7 => ?_)
      refine sf_ite (fun c8 => ?_) (fun c9 => ?_)
      · skip
        exact hk  h I_h e0 e1 e2 e3 (by first | trivial | omega)
      · skip
        try have tx20 : ((h 1 5) + 1).toInt = (h 1 5).toInt + 1 := i_add rfl (by decide) (by omega) (by omega)
        refine sf_oH (fun g10 hg10 => ?_)
        have I_g10 : InvC g10 := by rw [hg10]; exact inv_set (l := 0) (u := 160) I_h rfl (by omega)
        have ex21 : g10 0 3 = h 0 3 := by rw [hg10]; exact dU_ne (by omega)
        have yx22 := congrArg Int32.toInt ex21
        have ex23 : g10 1 0 = h 1 0 := by rw [hg10]; exact dU_ne (by omega)
        have yx24 := congrArg Int32.toInt ex23
        have ex25 : g10 42 2 = h 42 2 := by rw [hg10]; exact dU_ne (by omega)
        have yx26 := congrArg Int32.toInt ex25
        have ex27 : g10 43 2 = h 43 2 := by rw [hg10]; exact dU_ne (by omega)
        have yx28 := congrArg Int32.toInt ex27
        have yx29 : (g10 1 5).toInt = ((h 1 5) + 1).toInt := by rw [hg10, dU_eq]
        exact sl_X4_cut_14    h0 I_h0  k Q hk n  g10 I_g10 (ex21.trans e0) (ex23.trans e1) (ex25.trans e2) (ex27.trans e3) (by first | trivial | omega) (by omega)
    · skip
      exact hk  h I_h e0 e1 e2 e3 (by first | trivial | omega)
theorem sl_X4_cut_7   (h0 : dH) (I_h0 : InvC h0)  (k : dH → Option (dH)) (Q : dH → Prop) (hk : ∀  (g : dH) (Ig : InvC g) (e0 : g 0 3 = h0 0 3) (e1 : g 1 0 = h0 1 0) (e2 : g 42 2 = h0 42 2) (e3 : g 43 2 = h0 43 2), True → Sf (k  g) Q) (hQ : ∀ o, InvC o ∧ o 0 3 = h0 0 3 ∧ o 1 0 = h0 1 0 ∧ o 42 2 = h0 42 2 ∧ o 43 2 = h0 43 2 ∧ True → Q o) : ∀ (n : Nat) (v1 : Int32) (h : dH) (I_h : InvC h) (e0 : h 0 3 = h0 0 3) (e1 : h 1 0 = h0 1 0) (e2 : h 42 2 = h0 42 2) (e3 : h 43 2 = h0 43 2), 0 ≤ v1.toInt ∧ v1.toInt ≤ 161 → 161 - v1.toInt < (n : Int) → Sf (l_X4_cut_7  k n v1 h) Q
  | 0, v1, h, I_h, e0, e1, e2, e3, hi, hm => by omega
  | n + 1, v1, h, I_h, e0, e1, e2, e3, hi, hm => by
    rw [l_X4_cut_7]
    have yx10 := congrArg Int32.toInt e0
    have yx11 := congrArg Int32.toInt e1
    have yx12 := congrArg Int32.toInt e2
    have yx13 := congrArg Int32.toInt e3
    refine sf_ite (fun c2 => ?_) (fun c3 => ?_)
    · skip
      exact hk  h I_h e0 e1 e2 e3 (by first | trivial | omega)
    · skip
      have := I_h 1 5 0 160 rfl
      refine sl_X4_cut_14   h I_h  _ _ (fun g11 I_g11 eg11_0 eg11_1 eg11_2 eg11_3 px30 => ?_)  fuel0  h I_h rfl rfl rfl rfl (by first | trivial | omega) (by have := fuel0_eq; omega)
      have yx31 := congrArg Int32.toInt eg11_0
      have yx32 := congrArg Int32.toInt eg11_1
      have yx33 := congrArg Int32.toInt eg11_2
      have yx34 := congrArg Int32.toInt eg11_3
      refine sf_guard (by omega) (fun c13 => ?_)
      have bx35 := I_g11 1 5 (0) (160) rfl
      refine sf_oH (fun g12 hg12 => ?_)
      have I_g12 : InvC g12 := by rw [hg12]; exact inv_set (l := 0) (u := 160) I_g11 rfl (by omega)
      have ex36 : g12 0 3 = g11 0 3 := by rw [hg12]; exact dU_ne (by omega)
      have yx37 := congrArg Int32.toInt ex36
      have ex38 : g12 1 0 = g11 1 0 := by rw [hg12]; exact dU_ne (by omega)
      have yx39 := congrArg Int32.toInt ex38
      have ex40 : g12 1 5 = g11 1 5 := by rw [hg12]; exact dU_ne (by omega)
      have yx41 := congrArg Int32.toInt ex40
      have ex42 : g12 42 2 = g11 42 2 := by rw [hg12]; exact dU_ne (by omega)
      have yx43 := congrArg Int32.toInt ex42
      have ex44 : g12 43 2 = g11 43 2 := by rw [hg12]; exact dU_ne (by omega)
      have yx45 := congrArg Int32.toInt ex44
      have bx46 := I_g12 1 5 (0) (160) rfl
      have bx47 := I_g12 1 0 (0) (160) rfl
      refine sf_ite (fun c14 => ?_) (fun c15 => ?_)
      · skip
        refine sf_guard (by omega) (fun c16 => ?_)
        refine sf_oP (s_X4_isDigit g12 I_g12 (g12 5 ((g12 1 5).toInt.toNat))) (fun r17 pr17 => ?_)
        refine sf_ite (fun c18 => ?_) (fun c19 => ?_)
        · skip
          refine sf_guard (by omega) (fun c20 => ?_)
          refine sf_oP (s_X4_isSmall g12 I_g12 (g12 5 ((g12 1 5).toInt.toNat))) (fun r21 pr21 => ?_)
          refine sf_ite (fun c22 => ?_) (fun c23 => ?_)
          · skip
            refine sf_guard (by omega) (fun c24 => ?_)
            refine sf_guard (by omega) (fun c26 => ?_)
            refine sf_oH (fun g25 hg25 => ?_)
            have I_g25 : InvC g25 := by rw [hg25]; exact inv_free I_g12 rfl
            have ex48 : g25 0 3 = g12 0 3 := by rw [hg25]; exact dU_ne (by omega)
            have yx49 := congrArg Int32.toInt ex48
            have ex50 : g25 1 0 = g12 1 0 := by rw [hg25]; exact dU_ne (by omega)
            have yx51 := congrArg Int32.toInt ex50
            have ex52 : g25 1 5 = g12 1 5 := by rw [hg25]; exact dU_ne (by omega)
            have yx53 := congrArg Int32.toInt ex52
            have ex54 : g25 42 2 = g12 42 2 := by rw [hg25]; exact dU_ne (by omega)
            have yx55 := congrArg Int32.toInt ex54
            have ex56 : g25 43 2 = g12 43 2 := by rw [hg25]; exact dU_ne (by omega)
            have yx57 := congrArg Int32.toInt ex56
            have bx58 := I_g25 1 5 (0) (160) rfl
            try have tx59 : ((g25 1 5) + 1).toInt = (g25 1 5).toInt + 1 := i_add rfl (by decide) (by omega) (by omega)
            refine sf_oH (fun g27 hg27 => ?_)
            have I_g27 : InvC g27 := by rw [hg27]; exact inv_set (l := 0) (u := 160) I_g25 rfl (by omega)
            have ex60 : g27 0 3 = g25 0 3 := by rw [hg27]; exact dU_ne (by omega)
            have yx61 := congrArg Int32.toInt ex60
            have ex62 : g27 1 0 = g25 1 0 := by rw [hg27]; exact dU_ne (by omega)
            have yx63 := congrArg Int32.toInt ex62
            have ex64 : g27 42 2 = g25 42 2 := by rw [hg27]; exact dU_ne (by omega)
            have yx65 := congrArg Int32.toInt ex64
            have ex66 : g27 43 2 = g25 43 2 := by rw [hg27]; exact dU_ne (by omega)
            have yx67 := congrArg Int32.toInt ex66
            have yx68 : (g27 1 5).toInt = ((g25 1 5) + 1).toInt := by rw [hg27, dU_eq]
            try have tx69 : (v1 + 1).toInt = v1.toInt + 1 := i_add rfl (by decide) (by omega) (by omega)
            exact sl_X4_cut_7    h0 I_h0  k Q hk hQ n (v1 + 1) g27 I_g27 (ex60.trans (ex48.trans (ex36.trans (eg11_0.trans e0)))) (ex62.trans (ex50.trans (ex38.trans (eg11_1.trans e1)))) (ex64.trans (ex54.trans (ex42.trans (eg11_2.trans e2)))) (ex66.trans (ex56.trans (ex44.trans (eg11_3.trans e3)))) (by first | trivial | omega) (by omega)
          · skip
            refine sf_oV (s_X4_cutWord g12 I_g12 v1 (by omega)) (fun g28 pg28 => ?_)
            obtain ⟨I_g28, ex70, ex71, ex72, ex73, qg28⟩ := pg28
            try simp only at I_g28 ex70 ex71 ex72 ex73 qg28
            have yx74 := congrArg Int32.toInt ex70
            have yx75 := congrArg Int32.toInt ex71
            have yx76 := congrArg Int32.toInt ex72
            have yx77 := congrArg Int32.toInt ex73
            try have tx78 : (v1 + 1).toInt = v1.toInt + 1 := i_add rfl (by decide) (by omega) (by omega)
            exact sl_X4_cut_7    h0 I_h0  k Q hk hQ n (v1 + 1) g28 I_g28 (ex70.trans (ex36.trans (eg11_0.trans e0))) (ex71.trans (ex38.trans (eg11_1.trans e1))) (ex72.trans (ex42.trans (eg11_2.trans e2))) (ex73.trans (ex44.trans (eg11_3.trans e3))) (by first | trivial | omega) (by omega)
        · skip
          refine sf_oV (s_X4_cutNumber g12 I_g12 v1 (by omega)) (fun g29 pg29 => ?_)
          obtain ⟨I_g29, ex79, ex80, ex81, ex82, qg29⟩ := pg29
          try simp only at I_g29 ex79 ex80 ex81 ex82 qg29
          have yx83 := congrArg Int32.toInt ex79
          have yx84 := congrArg Int32.toInt ex80
          have yx85 := congrArg Int32.toInt ex81
          have yx86 := congrArg Int32.toInt ex82
          try have tx87 : (v1 + 1).toInt = v1.toInt + 1 := i_add rfl (by decide) (by omega) (by omega)
          exact sl_X4_cut_7    h0 I_h0  k Q hk hQ n (v1 + 1) g29 I_g29 (ex79.trans (ex36.trans (eg11_0.trans e0))) (ex80.trans (ex38.trans (eg11_1.trans e1))) (ex81.trans (ex42.trans (eg11_2.trans e2))) (ex82.trans (ex44.trans (eg11_3.trans e3))) (by first | trivial | omega) (by omega)
      · skip
        refine sf_guard (by omega) (fun c31 => ?_)
        refine sf_oH (fun g30 hg30 => ?_)
        have I_g30 : InvC g30 := by rw [hg30]; exact inv_free I_g12 rfl
        have ex88 : g30 0 3 = g12 0 3 := by rw [hg30]; exact dU_ne (by omega)
        have yx89 := congrArg Int32.toInt ex88
        have ex90 : g30 1 0 = g12 1 0 := by rw [hg30]; exact dU_ne (by omega)
        have yx91 := congrArg Int32.toInt ex90
        have ex92 : g30 1 5 = g12 1 5 := by rw [hg30]; exact dU_ne (by omega)
        have yx93 := congrArg Int32.toInt ex92
        have ex94 : g30 42 2 = g12 42 2 := by rw [hg30]; exact dU_ne (by omega)
        have yx95 := congrArg Int32.toInt ex94
        have ex96 : g30 43 2 = g12 43 2 := by rw [hg30]; exact dU_ne (by omega)
        have yx97 := congrArg Int32.toInt ex96
        exact sf_some (hQ _ ⟨I_g30, (ex88.trans (ex36.trans (eg11_0.trans e0))), (ex90.trans (ex38.trans (eg11_1.trans e1))), (ex94.trans (ex42.trans (eg11_2.trans e2))), (ex96.trans (ex44.trans (eg11_3.trans e3))), trivial⟩)
theorem s_X4_cut (h : dH) (I_h : InvC h)   : Sf (f_X4_cut  h) (fun o => InvC o ∧ o 0 3 = h 0 3 ∧ o 1 0 = h 1 0 ∧ o 42 2 = h 42 2 ∧ o 43 2 = h 43 2 ∧ True) := by
  unfold f_X4_cut
  refine sf_oH (fun g1 hg1 => ?_)
  have I_g1 : InvC g1 := by rw [hg1]; exact inv_set (l := 0) (u := 160) I_h rfl (by decide)
  have ex1 : g1 0 3 = h 0 3 := by rw [hg1]; exact dU_ne (by omega)
  have yx2 := congrArg Int32.toInt ex1
  have ex3 : g1 1 0 = h 1 0 := by rw [hg1]; exact dU_ne (by omega)
  have yx4 := congrArg Int32.toInt ex3
  have ex5 : g1 42 2 = h 42 2 := by rw [hg1]; exact dU_ne (by omega)
  have yx6 := congrArg Int32.toInt ex5
  have ex7 : g1 43 2 = h 43 2 := by rw [hg1]; exact dU_ne (by omega)
  have yx8 := congrArg Int32.toInt ex7
  have yx9 : (g1 1 5).toInt = 0 := by rw [hg1, dU_eq]; decide
  have tx98 : (0 : Int32).toInt = 0 := by decide
  refine sl_X4_cut_7   g1 I_g1  _ _ (fun g33 I_g33 eg33_0 eg33_1 eg33_2 eg33_3 px99 => ?_) (fun o ho => ⟨ho.1, (ho.2.1.trans ex1), (ho.2.2.1.trans ex3), (ho.2.2.2.1.trans ex5), (ho.2.2.2.2.1.trans ex7), trivial⟩) fuel0 (0 : Int32) g1 I_g1 rfl rfl rfl rfl (by first | trivial | omega) (by have := fuel0_eq; omega)
  have yx100 := congrArg Int32.toInt eg33_0
  have yx101 := congrArg Int32.toInt eg33_1
  have yx102 := congrArg Int32.toInt eg33_2
  have yx103 := congrArg Int32.toInt eg33_3
  exact sf_some (⟨I_g33, (eg33_0.trans ex1), (eg33_1.trans ex3), (eg33_2.trans ex5), (eg33_3.trans ex7), trivial⟩)
theorem s_X5_clear (h : dH) (I_h : InvC h) (a0 : Nat) (ha0 : zT a0)  : Sf (f_X5_clear a0 h) (fun o => InvC o ∧ o 0 3 = h 0 3 ∧ o 1 0 = h 1 0 ∧ o 1 5 = h 1 5 ∧ o 42 2 = h 42 2 ∧ o 43 2 = h 43 2 ∧ True) := by
  unfold f_X5_clear
  have z_a0 : a0 = 10 ∨ a0 = 14 ∨ a0 = 18 ∨ a0 = 22 ∨ a0 = 26 ∨ a0 = 30 := ha0
  refine sf_oH (fun g1 hg1 => ?_)
  have I_g1 : InvC g1 := by rw [hg1]; exact inv_set (l := 0) (u := 160) I_h (bT1 ha0) (by decide)
  have ex1 : g1 0 3 = h 0 3 := by rw [hg1]; exact dU_ne (by omega)
  have yx2 := congrArg Int32.toInt ex1
  have ex3 : g1 1 0 = h 1 0 := by rw [hg1]; exact dU_ne (by omega)
  have yx4 := congrArg Int32.toInt ex3
  have ex5 : g1 1 5 = h 1 5 := by rw [hg1]; exact dU_ne (by omega)
  have yx6 := congrArg Int32.toInt ex5
  have ex7 : g1 42 2 = h 42 2 := by rw [hg1]; exact dU_ne (by omega)
  have yx8 := congrArg Int32.toInt ex7
  have ex9 : g1 43 2 = h 43 2 := by rw [hg1]; exact dU_ne (by omega)
  have yx10 := congrArg Int32.toInt ex9
  have yx11 : (g1 a0 1).toInt = 0 := by rw [hg1, dU_eq]; decide
  exact sf_some (⟨I_g1, ex1, ex3, ex5, ex7, ex9, trivial⟩)
theorem s_X2_isMissing (h : dH) (I_h : InvC h) (a0 : Nat) (ha0 : zW a0)  : Sf (f_X2_isMissing a0 h) (fun r => True) := by
  unfold f_X2_isMissing
  have z_a0 : a0 = 34 ∨ a0 = 36 ∨ a0 = 38 ∨ a0 = 40 := ha0
  refine sf_ite (fun c1 => ?_) (fun c2 => ?_)
  · skip
    exact sf_some (trivial)
  · skip
    exact sf_some (trivial)
theorem sl_X2_lay_12 (a0 : Nat) (ha0 : zW a0) (h0 : dH) (I_h0 : InvC h0)  (k : dH → Option (dH)) (Q : dH → Prop) (hk : ∀  (g : dH) (Ig : InvC g) (e0 : g 0 3 = h0 0 3) (e1 : g 1 0 = h0 1 0) (e2 : g 1 5 = h0 1 5) (e3 : g 42 2 = h0 42 2) (e4 : g 43 2 = h0 43 2), True → Sf (k  g) Q)  : ∀ (n : Nat) (v3 : Int32) (h : dH) (I_h : InvC h) (e0 : h 0 3 = h0 0 3) (e1 : h 1 0 = h0 1 0) (e2 : h 1 5 = h0 1 5) (e3 : h 42 2 = h0 42 2) (e4 : h 43 2 = h0 43 2), 0 ≤ v3.toInt ∧ v3.toInt ≤ 40 → 40 - v3.toInt < (n : Int) → Sf (l_X2_lay_12 a0 k n v3 h) Q
  | 0, v3, h, I_h, e0, e1, e2, e3, e4, hi, hm => by omega
  | n + 1, v3, h, I_h, e0, e1, e2, e3, e4, hi, hm => by
    rw [l_X2_lay_12]
    have yx25 := congrArg Int32.toInt e0
    have yx26 := congrArg Int32.toInt e1
    have yx27 := congrArg Int32.toInt e2
    have yx28 := congrArg Int32.toInt e3
    have yx29 := congrArg Int32.toInt e4
    have z_a0 : a0 = 34 ∨ a0 = 36 ∨ a0 = 38 ∨ a0 = 40 := ha0
    refine sf_ite (fun c3 => ?_) (fun c4 => ?_)
    · skip
      refine sf_guard (by omega) (fun c6 => ?_)
      refine sf_oH (fun g5 hg5 => ?_)
      have I_g5 : InvC g5 := by rw [hg5]; exact inv_free I_h (fW1 ha0)
      have ex30 : g5 0 3 = h 0 3 := by rw [hg5]; exact dU_ne (by omega)
      have yx31 := congrArg Int32.toInt ex30
      have ex32 : g5 1 0 = h 1 0 := by rw [hg5]; exact dU_ne (by omega)
      have yx33 := congrArg Int32.toInt ex32
      have ex34 : g5 1 5 = h 1 5 := by rw [hg5]; exact dU_ne (by omega)
      have yx35 := congrArg Int32.toInt ex34
      have ex36 : g5 42 2 = h 42 2 := by rw [hg5]; exact dU_ne (by omega)
      have yx37 := congrArg Int32.toInt ex36
      have ex38 : g5 43 2 = h 43 2 := by rw [hg5]; exact dU_ne (by omega)
      have yx39 := congrArg Int32.toInt ex38
      have ex40 : g5 a0 1 = h a0 1 := by rw [hg5]; exact dU_ne (by omega)
      have yx41 := congrArg Int32.toInt ex40
      try have tx42 : (v3 + 1).toInt = v3.toInt + 1 := i_add rfl (by decide) (by omega) (by omega)
      exact sl_X2_lay_12  a0 ha0 h0 I_h0  k Q hk n (v3 + 1) g5 I_g5 (ex30.trans e0) (ex32.trans e1) (ex34.trans e2) (ex36.trans e3) (ex38.trans e4) (by first | trivial | omega) (by omega)
    · skip
      exact hk  h I_h e0 e1 e2 e3 e4 (by first | trivial | omega)
theorem s_X2_lay (h : dH) (I_h : InvC h) (a0 : Nat) (ha0 : zW a0) (v1 : Int32) (v2 : Int32) (q0 : 0 ≤ v2.toInt ∧ v2.toInt ≤ 40) : Sf (f_X2_lay a0 v1 v2 h) (fun o => InvC o ∧ o 0 3 = h 0 3 ∧ o 1 0 = h 1 0 ∧ o 1 5 = h 1 5 ∧ o 42 2 = h 42 2 ∧ o 43 2 = h 43 2 ∧ True) := by
  unfold f_X2_lay
  have z_a0 : a0 = 34 ∨ a0 = 36 ∨ a0 = 38 ∨ a0 = 40 := ha0
  have u_v1 := Int32.toInt_lt v1
  have w_v1 := Int32.le_toInt v1
  have u_v2 := Int32.toInt_lt v2
  have w_v2 := Int32.le_toInt v2
  refine sf_oH (fun g1 hg1 => ?_)
  have I_g1 : InvC g1 := by rw [hg1]; exact inv_free I_h (fW0 ha0)
  have ex1 : g1 0 3 = h 0 3 := by rw [hg1]; exact dU_ne (by omega)
  have yx2 := congrArg Int32.toInt ex1
  have ex3 : g1 1 0 = h 1 0 := by rw [hg1]; exact dU_ne (by omega)
  have yx4 := congrArg Int32.toInt ex3
  have ex5 : g1 1 5 = h 1 5 := by rw [hg1]; exact dU_ne (by omega)
  have yx6 := congrArg Int32.toInt ex5
  have ex7 : g1 42 2 = h 42 2 := by rw [hg1]; exact dU_ne (by omega)
  have yx8 := congrArg Int32.toInt ex7
  have ex9 : g1 43 2 = h 43 2 := by rw [hg1]; exact dU_ne (by omega)
  have yx10 := congrArg Int32.toInt ex9
  have ex11 : g1 a0 1 = h a0 1 := by rw [hg1]; exact dU_ne (by omega)
  have yx12 := congrArg Int32.toInt ex11
  have yx13 : (g1 a0 0).toInt = v1.toInt := by rw [hg1, dU_eq]
  refine sf_oH (fun g2 hg2 => ?_)
  have I_g2 : InvC g2 := by rw [hg2]; exact inv_set (l := 0) (u := 40) I_g1 (bW1 ha0) (by omega)
  have ex14 : g2 0 3 = g1 0 3 := by rw [hg2]; exact dU_ne (by omega)
  have yx15 := congrArg Int32.toInt ex14
  have ex16 : g2 1 0 = g1 1 0 := by rw [hg2]; exact dU_ne (by omega)
  have yx17 := congrArg Int32.toInt ex16
  have ex18 : g2 1 5 = g1 1 5 := by rw [hg2]; exact dU_ne (by omega)
  have yx19 := congrArg Int32.toInt ex18
  have ex20 : g2 42 2 = g1 42 2 := by rw [hg2]; exact dU_ne (by omega)
  have yx21 := congrArg Int32.toInt ex20
  have ex22 : g2 43 2 = g1 43 2 := by rw [hg2]; exact dU_ne (by omega)
  have yx23 := congrArg Int32.toInt ex22
  have yx24 : (g2 a0 1).toInt = v2.toInt := by rw [hg2, dU_eq]
  have tx43 : (0 : Int32).toInt = 0 := by decide
  refine sl_X2_lay_12 a0 ha0 g2 I_g2  _ _ (fun g8 I_g8 eg8_0 eg8_1 eg8_2 eg8_3 eg8_4 px44 => ?_)  fuel0 (0 : Int32) g2 I_g2 rfl rfl rfl rfl rfl (by first | trivial | omega) (by have := fuel0_eq; omega)
  have yx45 := congrArg Int32.toInt eg8_0
  have yx46 := congrArg Int32.toInt eg8_1
  have yx47 := congrArg Int32.toInt eg8_2
  have yx48 := congrArg Int32.toInt eg8_3
  have yx49 := congrArg Int32.toInt eg8_4
  exact sf_some (⟨I_g8, (eg8_0.trans (ex14.trans ex1)), (eg8_1.trans (ex16.trans ex3)), (eg8_2.trans (ex18.trans ex5)), (eg8_3.trans (ex20.trans ex7)), (eg8_4.trans (ex22.trans ex9)), trivial⟩)
theorem s_X2_holds (h : dH) (I_h : InvC h) (a0 : Nat) (ha0 : zW a0) (v1 : Int32) (v2 : Int32)  : Sf (f_X2_holds a0 v1 v2 h) (fun r => r.toInt = 0 ∨ (0 ≤ v2.toInt ∧ 0 ≤ v1.toInt ∧ v1.toInt + v2.toInt ≤ (h a0 1).toInt ∧ v1.toInt + v2.toInt ≤ 40)) := by
  unfold f_X2_holds
  have z_a0 : a0 = 34 ∨ a0 = 36 ∨ a0 = 38 ∨ a0 = 40 := ha0
  have u_v1 := Int32.toInt_lt v1
  have w_v1 := Int32.le_toInt v1
  have u_v2 := Int32.toInt_lt v2
  have w_v2 := Int32.le_toInt v2
  refine sf_ite (fun c1 => ?_) (fun c2 => ?_)
  · skip
    have tx1 : (0 : Int32).toInt = 0 := by decide
    exact sf_some ((show (0 : Int32).toInt = 0 ∨ (0 ≤ v2.toInt ∧ 0 ≤ v1.toInt ∧ v1.toInt + v2.toInt ≤ (h a0 1).toInt ∧ v1.toInt + v2.toInt ≤ 40) by omega))
  · skip
    refine sf_ite (fun c3 => ?_) (fun c4 => ?_)
    · skip
      have tx2 : (0 : Int32).toInt = 0 := by decide
      exact sf_some ((show (0 : Int32).toInt = 0 ∨ (0 ≤ v2.toInt ∧ 0 ≤ v1.toInt ∧ v1.toInt + v2.toInt ≤ (h a0 1).toInt ∧ v1.toInt + v2.toInt ≤ 40) by omega))
    · skip
      have bx3 := I_h a0 1 (0) (40) (bW1 ha0)
      try have tx4 : ((h a0 1) - v2).toInt = (h a0 1).toInt - v2.toInt := i_sub rfl rfl (by omega) (by omega)
      refine sf_ite (fun c5 => ?_) (fun c6 => ?_)
      · skip
        have tx5 : (0 : Int32).toInt = 0 := by decide
        exact sf_some ((show (0 : Int32).toInt = 0 ∨ (0 ≤ v2.toInt ∧ 0 ≤ v1.toInt ∧ v1.toInt + v2.toInt ≤ (h a0 1).toInt ∧ v1.toInt + v2.toInt ≤ 40) by omega))
      · skip
        have tx6 : (1 : Int32).toInt = 1 := by decide
        exact sf_some ((show (1 : Int32).toInt = 0 ∨ (0 ≤ v2.toInt ∧ 0 ≤ v1.toInt ∧ v1.toInt + v2.toInt ≤ (h a0 1).toInt ∧ v1.toInt + v2.toInt ≤ 40) by omega))
theorem s_X2_put (h : dH) (I_h : InvC h) (a0 : Nat) (ha0 : zW a0) (v1 : Int32) (v2 : Int32) (q0 : 0 ≤ v1.toInt ∧ v1.toInt ≤ 39) : Sf (f_X2_put a0 v1 v2 h) (fun o => InvC o ∧ o 0 3 = h 0 3 ∧ o 1 0 = h 1 0 ∧ o 1 5 = h 1 5 ∧ o 42 2 = h 42 2 ∧ o 43 2 = h 43 2 ∧ True) := by
  unfold f_X2_put
  have z_a0 : a0 = 34 ∨ a0 = 36 ∨ a0 = 38 ∨ a0 = 40 := ha0
  have u_v1 := Int32.toInt_lt v1
  have w_v1 := Int32.le_toInt v1
  have u_v2 := Int32.toInt_lt v2
  have w_v2 := Int32.le_toInt v2
  refine sf_ite (fun c1 => ?_) (fun c2 => ?_)
  · skip
    refine sf_guard (by omega) (fun c4 => ?_)
    refine sf_oH (fun g3 hg3 => ?_)
    have I_g3 : InvC g3 := by rw [hg3]; exact inv_free I_h (fW1 ha0)
    have ex1 : g3 0 3 = h 0 3 := by rw [hg3]; exact dU_ne (by omega)
    have yx2 := congrArg Int32.toInt ex1
    have ex3 : g3 1 0 = h 1 0 := by rw [hg3]; exact dU_ne (by omega)
    have yx4 := congrArg Int32.toInt ex3
    have ex5 : g3 1 5 = h 1 5 := by rw [hg3]; exact dU_ne (by omega)
    have yx6 := congrArg Int32.toInt ex5
    have ex7 : g3 42 2 = h 42 2 := by rw [hg3]; exact dU_ne (by omega)
    have yx8 := congrArg Int32.toInt ex7
    have ex9 : g3 43 2 = h 43 2 := by rw [hg3]; exact dU_ne (by omega)
    have yx10 := congrArg Int32.toInt ex9
    have ex11 : g3 a0 1 = h a0 1 := by rw [hg3]; exact dU_ne (by omega)
    have yx12 := congrArg Int32.toInt ex11
    exact sf_some (⟨I_g3, ex1, ex3, ex5, ex7, ex9, trivial⟩)
  · skip
    refine sf_ite (fun c5 => ?_) (fun c6 => ?_)
    · skip
      refine sf_guard (by omega) (fun c8 => ?_)
      refine sf_oH (fun g7 hg7 => ?_)
      have I_g7 : InvC g7 := by rw [hg7]; exact inv_free I_h (fW1 ha0)
      have ex13 : g7 0 3 = h 0 3 := by rw [hg7]; exact dU_ne (by omega)
      have yx14 := congrArg Int32.toInt ex13
      have ex15 : g7 1 0 = h 1 0 := by rw [hg7]; exact dU_ne (by omega)
      have yx16 := congrArg Int32.toInt ex15
      have ex17 : g7 1 5 = h 1 5 := by rw [hg7]; exact dU_ne (by omega)
      have yx18 := congrArg Int32.toInt ex17
      have ex19 : g7 42 2 = h 42 2 := by rw [hg7]; exact dU_ne (by omega)
      have yx20 := congrArg Int32.toInt ex19
      have ex21 : g7 43 2 = h 43 2 := by rw [hg7]; exact dU_ne (by omega)
      have yx22 := congrArg Int32.toInt ex21
      have ex23 : g7 a0 1 = h a0 1 := by rw [hg7]; exact dU_ne (by omega)
      have yx24 := congrArg Int32.toInt ex23
      exact sf_some (⟨I_g7, ex13, ex15, ex17, ex19, ex21, trivial⟩)
    · skip
      refine sf_guard (by omega) (fun c10 => ?_)
      refine sf_oH (fun g9 hg9 => ?_)
      have I_g9 : InvC g9 := by rw [hg9]; exact inv_free I_h (fW1 ha0)
      have ex25 : g9 0 3 = h 0 3 := by rw [hg9]; exact dU_ne (by omega)
      have yx26 := congrArg Int32.toInt ex25
      have ex27 : g9 1 0 = h 1 0 := by rw [hg9]; exact dU_ne (by omega)
      have yx28 := congrArg Int32.toInt ex27
      have ex29 : g9 1 5 = h 1 5 := by rw [hg9]; exact dU_ne (by omega)
      have yx30 := congrArg Int32.toInt ex29
      have ex31 : g9 42 2 = h 42 2 := by rw [hg9]; exact dU_ne (by omega)
      have yx32 := congrArg Int32.toInt ex31
      have ex33 : g9 43 2 = h 43 2 := by rw [hg9]; exact dU_ne (by omega)
      have yx34 := congrArg Int32.toInt ex33
      have ex35 : g9 a0 1 = h a0 1 := by rw [hg9]; exact dU_ne (by omega)
      have yx36 := congrArg Int32.toInt ex35
      exact sf_some (⟨I_g9, ex25, ex27, ex29, ex31, ex33, trivial⟩)
theorem sl_X2_unlikeItems_4 (a0 : Nat) (a1 : Nat) (ha0 : zW a0) (ha1 : zA shC a1 8) (h : dH) (I_h : InvC h)  (k : Int32 → Option (Int32)) (Q : Int32 → Prop) (hk : ∀ (v2 : Int32), True → Sf (k v2) Q)  : ∀ (n : Nat) (v2 : Int32) (v3 : Int32), 0 ≤ v3.toInt ∧ v3.toInt ≤ 40 → 40 - v3.toInt < (n : Int) → Sf (l_X2_unlikeItems_4 a0 a1 h k n v2 v3) Q
  | 0, v2, v3, hi, hm => by omega
  | n + 1, v2, v3, hi, hm => by
    rw [l_X2_unlikeItems_4]
    have z_a0 : a0 = 34 ∨ a0 = 36 ∨ a0 = 38 ∨ a0 = 40 := ha0
    have bx1 := I_h a0 1 (0) (40) (bW1 ha0)
    refine sf_ite (fun c1 => ?_) (fun c2 => ?_)
    · skip
      refine sf_ite (fun c3 => ?_) (fun c4 => ?_)
      · skip
        refine sf_guard (by omega) (fun c5 => ?_)
        refine sf_guard (by omega) (fun c6 => ?_)
        refine sf_ite (fun c7 => ?_) (fun c8 => ?_)
        · skip
          try have tx2 : (v3 + 1).toInt = v3.toInt + 1 := i_add rfl (by decide) (by omega) (by omega)
          exact sl_X2_unlikeItems_4  a0 a1 ha0 ha1 h I_h  k Q hk n v2 (v3 + 1) (by first | trivial | omega) (by omega)
        · skip
          try have tx3 := dshl1_ok (y := v3) (by omega) (by omega)
          try have tx4 : (v3 + 1).toInt = v3.toInt + 1 := i_add rfl (by decide) (by omega) (by omega)
          exact sl_X2_unlikeItems_4  a0 a1 ha0 ha1 h I_h  k Q hk n (v2 ||| (dshl 1 v3)) (v3 + 1) (by first | trivial | omega) (by omega)
      · skip
        exact hk v2 (by first | trivial | omega)
    · skip
      exact hk v2 (by first | trivial | omega)
theorem s_X2_unlikeItems (h : dH) (I_h : InvC h) (a0 : Nat) (ha0 : zW a0) (a1 : Nat) (ha1 : zA shC a1 8)  : Sf (f_X2_unlikeItems a0 a1 h) (fun r => True) := by
  unfold f_X2_unlikeItems
  have z_a0 : a0 = 34 ∨ a0 = 36 ∨ a0 = 38 ∨ a0 = 40 := ha0
  have tx5 : (0 : Int32).toInt = 0 := by decide
  refine sl_X2_unlikeItems_4 a0 a1 ha0 ha1 h I_h  _ _ (fun v2_9 px6 => ?_)  fuel0 (0 : Int32) (0 : Int32)  (by first | trivial | omega) (by have := fuel0_eq; omega)
  exact sf_some (trivial)
theorem sl_X3_become_79 (a0 : Nat) (a1 : Nat) (ha0 : zS a0) (ha1 : zS a1) (h0 : dH) (I_h0 : InvC h0)  (k : dH → Option (dH)) (Q : dH → Prop) (hk : ∀  (g : dH) (Ig : InvC g) (e0 : g 0 3 = h0 0 3) (e1 : g 1 0 = h0 1 0) (e2 : g 1 5 = h0 1 5) (e3 : g 42 2 = h0 42 2) (e4 : g 43 2 = h0 43 2), True → Sf (k  g) Q)  : ∀ (n : Nat) (v2 : Int32) (h : dH) (I_h : InvC h) (e0 : h 0 3 = h0 0 3) (e1 : h 1 0 = h0 1 0) (e2 : h 1 5 = h0 1 5) (e3 : h 42 2 = h0 42 2) (e4 : h 43 2 = h0 43 2), 0 ≤ v2.toInt ∧ v2.toInt ≤ 8 → 8 - v2.toInt < (n : Int) → Sf (l_X3_become_79 a0 a1 k n v2 h) Q
  | 0, v2, h, I_h, e0, e1, e2, e3, e4, hi, hm => by omega
  | n + 1, v2, h, I_h, e0, e1, e2, e3, e4, hi, hm => by
    rw [l_X3_become_79]
    have yx97 := congrArg Int32.toInt e0
    have yx98 := congrArg Int32.toInt e1
    have yx99 := congrArg Int32.toInt e2
    have yx100 := congrArg Int32.toInt e3
    have yx101 := congrArg Int32.toInt e4
    have z_a0 : a0 = 43 ∨ a0 = 57 ∨ a0 = 71 := ha0
    have z_a1 : a1 = 43 ∨ a1 = 57 ∨ a1 = 71 := ha1
    refine sf_ite (fun c8 => ?_) (fun c9 => ?_)
    · skip
      refine sf_guard (by omega) (fun c10 => ?_)
      refine sf_guard (by omega) (fun c11 => ?_)
      refine sf_oH (fun g12 hg12 => ?_)
      have I_g12 : InvC g12 := by rw [hg12]; exact inv_cpy I_h (fun k => (fSr ha0 (by omega : v2.toInt.toNat < 8)))
      have ex102 : g12 0 3 = h 0 3 := by rw [hg12]; exact dcopy_ne (by omega)
      have yx103 := congrArg Int32.toInt ex102
      have ex104 : g12 1 0 = h 1 0 := by rw [hg12]; exact dcopy_ne (by omega)
      have yx105 := congrArg Int32.toInt ex104
      have ex106 : g12 1 5 = h 1 5 := by rw [hg12]; exact dcopy_ne (by omega)
      have yx107 := congrArg Int32.toInt ex106
      have ex108 : g12 42 2 = h 42 2 := by rw [hg12]; exact dcopy_ne (by omega)
      have yx109 := congrArg Int32.toInt ex108
      have ex110 : g12 43 2 = h 43 2 := by rw [hg12]; exact dcopy_ne (by omega)
      have yx111 := congrArg Int32.toInt ex110
      have ex112 : g12 a0 2 = h a0 2 := by rw [hg12]; exact dcopy_ne (by omega)
      have yx113 := congrArg Int32.toInt ex112
      have ex114 : g12 a1 2 = h a1 2 := by rw [hg12]; exact dcopy_ne (by omega)
      have yx115 := congrArg Int32.toInt ex114
      try have tx116 : (v2 + 1).toInt = v2.toInt + 1 := i_add rfl (by decide) (by omega) (by omega)
      exact sl_X3_become_79  a0 a1 ha0 ha1 h0 I_h0  k Q hk n (v2 + 1) g12 I_g12 (ex102.trans e0) (ex104.trans e1) (ex106.trans e2) (ex108.trans e3) (ex110.trans e4) (by first | trivial | omega) (by omega)
    · skip
      exact hk  h I_h e0 e1 e2 e3 e4 (by first | trivial | omega)
theorem s_X3_become (h : dH) (I_h : InvC h) (a0 : Nat) (ha0 : zS a0) (a1 : Nat) (ha1 : zS a1)  : Sf (f_X3_become a0 a1 h) (fun o => InvC o ∧ o 0 3 = h 0 3 ∧ o 1 0 = h 1 0 ∧ o 1 5 = h 1 5 ∧ o 42 2 = h 42 2 ∧ True) := by
  unfold f_X3_become
  have z_a0 : a0 = 43 ∨ a0 = 57 ∨ a0 = 71 := ha0
  have z_a1 : a1 = 43 ∨ a1 = 57 ∨ a1 = 71 := ha1
  refine sf_oH (fun g1 hg1 => ?_)
  have I_g1 : InvC g1 := by rw [hg1]; exact inv_free I_h (fS ha0 (by decide))
  have ex1 : g1 0 3 = h 0 3 := by rw [hg1]; exact dU_ne (by omega)
  have yx2 := congrArg Int32.toInt ex1
  have ex3 : g1 1 0 = h 1 0 := by rw [hg1]; exact dU_ne (by omega)
  have yx4 := congrArg Int32.toInt ex3
  have ex5 : g1 1 5 = h 1 5 := by rw [hg1]; exact dU_ne (by omega)
  have yx6 := congrArg Int32.toInt ex5
  have ex7 : g1 42 2 = h 42 2 := by rw [hg1]; exact dU_ne (by omega)
  have yx8 := congrArg Int32.toInt ex7
  have ex9 : g1 43 2 = h 43 2 := by rw [hg1]; exact dU_ne (by omega)
  have yx10 := congrArg Int32.toInt ex9
  have ex11 : g1 a0 2 = h a0 2 := by rw [hg1]; exact dU_ne (by omega)
  have yx12 := congrArg Int32.toInt ex11
  have ex13 : g1 a1 2 = h a1 2 := by rw [hg1]; exact dU_ne (by omega)
  have yx14 := congrArg Int32.toInt ex13
  have yx15 : (g1 a0 0).toInt = (h a1 0).toInt := by rw [hg1, dU_eq]
  refine sf_oH (fun g2 hg2 => ?_)
  have I_g2 : InvC g2 := by rw [hg2]; exact inv_free I_g1 (fS ha0 (by decide))
  have ex16 : g2 0 3 = g1 0 3 := by rw [hg2]; exact dU_ne (by omega)
  have yx17 := congrArg Int32.toInt ex16
  have ex18 : g2 1 0 = g1 1 0 := by rw [hg2]; exact dU_ne (by omega)
  have yx19 := congrArg Int32.toInt ex18
  have ex20 : g2 1 5 = g1 1 5 := by rw [hg2]; exact dU_ne (by omega)
  have yx21 := congrArg Int32.toInt ex20
  have ex22 : g2 42 2 = g1 42 2 := by rw [hg2]; exact dU_ne (by omega)
  have yx23 := congrArg Int32.toInt ex22
  have ex24 : g2 43 2 = g1 43 2 := by rw [hg2]; exact dU_ne (by omega)
  have yx25 := congrArg Int32.toInt ex24
  have ex26 : g2 a0 2 = g1 a0 2 := by rw [hg2]; exact dU_ne (by omega)
  have yx27 := congrArg Int32.toInt ex26
  have ex28 : g2 a1 2 = g1 a1 2 := by rw [hg2]; exact dU_ne (by omega)
  have yx29 := congrArg Int32.toInt ex28
  have yx30 : (g2 a0 1).toInt = (g1 a1 1).toInt := by rw [hg2, dU_eq]
  have bx31 := I_g2 a1 2 (0) (8) (bS2 ha1)
  refine sf_oH (fun g3 hg3 => ?_)
  have I_g3 : InvC g3 := by rw [hg3]; exact inv_set (l := 0) (u := 8) I_g2 (bS2 ha0) (by omega)
  have ex32 : g3 0 3 = g2 0 3 := by rw [hg3]; exact dU_ne (by omega)
  have yx33 := congrArg Int32.toInt ex32
  have ex34 : g3 1 0 = g2 1 0 := by rw [hg3]; exact dU_ne (by omega)
  have yx35 := congrArg Int32.toInt ex34
  have ex36 : g3 1 5 = g2 1 5 := by rw [hg3]; exact dU_ne (by omega)
  have yx37 := congrArg Int32.toInt ex36
  have ex38 : g3 42 2 = g2 42 2 := by rw [hg3]; exact dU_ne (by omega)
  have yx39 := congrArg Int32.toInt ex38
  have yx40 : (g3 a0 2).toInt = (g2 a1 2).toInt := by rw [hg3, dU_eq]
  refine sf_oH (fun g4 hg4 => ?_)
  have I_g4 : InvC g4 := by rw [hg4]; exact inv_free I_g3 (fS ha0 (by decide))
  have ex41 : g4 0 3 = g3 0 3 := by rw [hg4]; exact dU_ne (by omega)
  have yx42 := congrArg Int32.toInt ex41
  have ex43 : g4 1 0 = g3 1 0 := by rw [hg4]; exact dU_ne (by omega)
  have yx44 := congrArg Int32.toInt ex43
  have ex45 : g4 1 5 = g3 1 5 := by rw [hg4]; exact dU_ne (by omega)
  have yx46 := congrArg Int32.toInt ex45
  have ex47 : g4 42 2 = g3 42 2 := by rw [hg4]; exact dU_ne (by omega)
  have yx48 := congrArg Int32.toInt ex47
  have ex49 : g4 43 2 = g3 43 2 := by rw [hg4]; exact dU_ne (by omega)
  have yx50 := congrArg Int32.toInt ex49
  have ex51 : g4 a0 2 = g3 a0 2 := by rw [hg4]; exact dU_ne (by omega)
  have yx52 := congrArg Int32.toInt ex51
  have ex53 : g4 a1 2 = g3 a1 2 := by rw [hg4]; exact dU_ne (by omega)
  have yx54 := congrArg Int32.toInt ex53
  refine sf_oH (fun g5 hg5 => ?_)
  have I_g5 : InvC g5 := by rw [hg5]; exact inv_cpy I_g4 (fun k => (fS1 ha0))
  have ex55 : g5 0 3 = g4 0 3 := by rw [hg5]; exact dcopy_ne (by omega)
  have yx56 := congrArg Int32.toInt ex55
  have ex57 : g5 1 0 = g4 1 0 := by rw [hg5]; exact dcopy_ne (by omega)
  have yx58 := congrArg Int32.toInt ex57
  have ex59 : g5 1 5 = g4 1 5 := by rw [hg5]; exact dcopy_ne (by omega)
  have yx60 := congrArg Int32.toInt ex59
  have ex61 : g5 42 2 = g4 42 2 := by rw [hg5]; exact dcopy_ne (by omega)
  have yx62 := congrArg Int32.toInt ex61
  have ex63 : g5 43 2 = g4 43 2 := by rw [hg5]; exact dcopy_ne (by omega)
  have yx64 := congrArg Int32.toInt ex63
  have ex65 : g5 a0 2 = g4 a0 2 := by rw [hg5]; exact dcopy_ne (by omega)
  have yx66 := congrArg Int32.toInt ex65
  have ex67 : g5 a1 2 = g4 a1 2 := by rw [hg5]; exact dcopy_ne (by omega)
  have yx68 := congrArg Int32.toInt ex67
  refine sf_oH (fun g6 hg6 => ?_)
  have I_g6 : InvC g6 := by rw [hg6]; exact inv_cpy I_g5 (fun k => (fS2 ha0))
  have ex69 : g6 0 3 = g5 0 3 := by rw [hg6]; exact dcopy_ne (by omega)
  have yx70 := congrArg Int32.toInt ex69
  have ex71 : g6 1 0 = g5 1 0 := by rw [hg6]; exact dcopy_ne (by omega)
  have yx72 := congrArg Int32.toInt ex71
  have ex73 : g6 1 5 = g5 1 5 := by rw [hg6]; exact dcopy_ne (by omega)
  have yx74 := congrArg Int32.toInt ex73
  have ex75 : g6 42 2 = g5 42 2 := by rw [hg6]; exact dcopy_ne (by omega)
  have yx76 := congrArg Int32.toInt ex75
  have ex77 : g6 43 2 = g5 43 2 := by rw [hg6]; exact dcopy_ne (by omega)
  have yx78 := congrArg Int32.toInt ex77
  have ex79 : g6 a0 2 = g5 a0 2 := by rw [hg6]; exact dcopy_ne (by omega)
  have yx80 := congrArg Int32.toInt ex79
  have ex81 : g6 a1 2 = g5 a1 2 := by rw [hg6]; exact dcopy_ne (by omega)
  have yx82 := congrArg Int32.toInt ex81
  refine sf_oH (fun g7 hg7 => ?_)
  have I_g7 : InvC g7 := by rw [hg7]; exact inv_cpy I_g6 (fun k => (fS3 ha0))
  have ex83 : g7 0 3 = g6 0 3 := by rw [hg7]; exact dcopy_ne (by omega)
  have yx84 := congrArg Int32.toInt ex83
  have ex85 : g7 1 0 = g6 1 0 := by rw [hg7]; exact dcopy_ne (by omega)
  have yx86 := congrArg Int32.toInt ex85
  have ex87 : g7 1 5 = g6 1 5 := by rw [hg7]; exact dcopy_ne (by omega)
  have yx88 := congrArg Int32.toInt ex87
  have ex89 : g7 42 2 = g6 42 2 := by rw [hg7]; exact dcopy_ne (by omega)
  have yx90 := congrArg Int32.toInt ex89
  have ex91 : g7 43 2 = g6 43 2 := by rw [hg7]; exact dcopy_ne (by omega)
  have yx92 := congrArg Int32.toInt ex91
  have ex93 : g7 a0 2 = g6 a0 2 := by rw [hg7]; exact dcopy_ne (by omega)
  have yx94 := congrArg Int32.toInt ex93
  have ex95 : g7 a1 2 = g6 a1 2 := by rw [hg7]; exact dcopy_ne (by omega)
  have yx96 := congrArg Int32.toInt ex95
  have tx117 : (0 : Int32).toInt = 0 := by decide
  refine sl_X3_become_79 a0 a1 ha0 ha1 g7 I_g7  _ _ (fun g14 I_g14 eg14_0 eg14_1 eg14_2 eg14_3 eg14_4 px118 => ?_)  fuel0 (0 : Int32) g7 I_g7 rfl rfl rfl rfl rfl (by first | trivial | omega) (by have := fuel0_eq; omega)
  have yx119 := congrArg Int32.toInt eg14_0
  have yx120 := congrArg Int32.toInt eg14_1
  have yx121 := congrArg Int32.toInt eg14_2
  have yx122 := congrArg Int32.toInt eg14_3
  have yx123 := congrArg Int32.toInt eg14_4
  exact sf_some (⟨I_g14, (eg14_0.trans (ex83.trans (ex69.trans (ex55.trans (ex41.trans (ex32.trans (ex16.trans ex1))))))), (eg14_1.trans (ex85.trans (ex71.trans (ex57.trans (ex43.trans (ex34.trans (ex18.trans ex3))))))), (eg14_2.trans (ex87.trans (ex73.trans (ex59.trans (ex45.trans (ex36.trans (ex20.trans ex5))))))), (eg14_3.trans (ex89.trans (ex75.trans (ex61.trans (ex47.trans (ex38.trans (ex22.trans ex7))))))), trivial⟩)
theorem s_X3_add (h : dH) (I_h : InvC h) (a0 : Nat) (ha0 : zS a0) (v1 : Int32) (v2 : Int32)  : Sf (f_X3_add a0 v1 v2 h) (fun o => InvC o ∧ o 0 3 = h 0 3 ∧ o 1 0 = h 1 0 ∧ o 1 5 = h 1 5 ∧ o 42 2 = h 42 2 ∧ True) := by
  unfold f_X3_add
  have z_a0 : a0 = 43 ∨ a0 = 57 ∨ a0 = 71 := ha0
  have u_v1 := Int32.toInt_lt v1
  have w_v1 := Int32.le_toInt v1
  have u_v2 := Int32.toInt_lt v2
  have w_v2 := Int32.le_toInt v2
  have bx1 := I_h a0 2 (0) (8) (bS2 ha0)
  refine sf_ite (fun c1 => ?_) (fun c2 => ?_)
  · skip
    refine sf_guard (by omega) (fun c4 => ?_)
    refine sf_oH (fun g3 hg3 => ?_)
    have I_g3 : InvC g3 := by rw [hg3]; exact inv_free I_h (fS1 ha0)
    have ex2 : g3 0 3 = h 0 3 := by rw [hg3]; exact dU_ne (by omega)
    have yx3 := congrArg Int32.toInt ex2
    have ex4 : g3 1 0 = h 1 0 := by rw [hg3]; exact dU_ne (by omega)
    have yx5 := congrArg Int32.toInt ex4
    have ex6 : g3 1 5 = h 1 5 := by rw [hg3]; exact dU_ne (by omega)
    have yx7 := congrArg Int32.toInt ex6
    have ex8 : g3 42 2 = h 42 2 := by rw [hg3]; exact dU_ne (by omega)
    have yx9 := congrArg Int32.toInt ex8
    have ex10 : g3 43 2 = h 43 2 := by rw [hg3]; exact dU_ne (by omega)
    have yx11 := congrArg Int32.toInt ex10
    have ex12 : g3 a0 2 = h a0 2 := by rw [hg3]; exact dU_ne (by omega)
    have yx13 := congrArg Int32.toInt ex12
    have bx14 := I_g3 a0 2 (0) (8) (bS2 ha0)
    refine sf_guard (by omega) (fun c6 => ?_)
    refine sf_oH (fun g5 hg5 => ?_)
    have I_g5 : InvC g5 := by rw [hg5]; exact inv_free I_g3 (fS2 ha0)
    have ex15 : g5 0 3 = g3 0 3 := by rw [hg5]; exact dU_ne (by omega)
    have yx16 := congrArg Int32.toInt ex15
    have ex17 : g5 1 0 = g3 1 0 := by rw [hg5]; exact dU_ne (by omega)
    have yx18 := congrArg Int32.toInt ex17
    have ex19 : g5 1 5 = g3 1 5 := by rw [hg5]; exact dU_ne (by omega)
    have yx20 := congrArg Int32.toInt ex19
    have ex21 : g5 42 2 = g3 42 2 := by rw [hg5]; exact dU_ne (by omega)
    have yx22 := congrArg Int32.toInt ex21
    have ex23 : g5 43 2 = g3 43 2 := by rw [hg5]; exact dU_ne (by omega)
    have yx24 := congrArg Int32.toInt ex23
    have ex25 : g5 a0 2 = g3 a0 2 := by rw [hg5]; exact dU_ne (by omega)
    have yx26 := congrArg Int32.toInt ex25
    have bx27 := I_g5 a0 2 (0) (8) (bS2 ha0)
    refine sf_guard (by omega) (fun c8 => ?_)
    refine sf_oH (fun g7 hg7 => ?_)
    have I_g7 : InvC g7 := by rw [hg7]; exact inv_free I_g5 (fS3 ha0)
    have ex28 : g7 0 3 = g5 0 3 := by rw [hg7]; exact dU_ne (by omega)
    have yx29 := congrArg Int32.toInt ex28
    have ex30 : g7 1 0 = g5 1 0 := by rw [hg7]; exact dU_ne (by omega)
    have yx31 := congrArg Int32.toInt ex30
    have ex32 : g7 1 5 = g5 1 5 := by rw [hg7]; exact dU_ne (by omega)
    have yx33 := congrArg Int32.toInt ex32
    have ex34 : g7 42 2 = g5 42 2 := by rw [hg7]; exact dU_ne (by omega)
    have yx35 := congrArg Int32.toInt ex34
    have ex36 : g7 43 2 = g5 43 2 := by rw [hg7]; exact dU_ne (by omega)
    have yx37 := congrArg Int32.toInt ex36
    have ex38 : g7 a0 2 = g5 a0 2 := by rw [hg7]; exact dU_ne (by omega)
    have yx39 := congrArg Int32.toInt ex38
    have bx40 := I_g7 a0 2 (0) (8) (bS2 ha0)
    try have tx41 : ((g7 a0 2) + 1).toInt = (g7 a0 2).toInt + 1 := i_add rfl (by decide) (by omega) (by omega)
    refine sf_oH (fun g9 hg9 => ?_)
    have I_g9 : InvC g9 := by rw [hg9]; exact inv_set (l := 0) (u := 8) I_g7 (bS2 ha0) (by omega)
    have ex42 : g9 0 3 = g7 0 3 := by rw [hg9]; exact dU_ne (by omega)
    have yx43 := congrArg Int32.toInt ex42
    have ex44 : g9 1 0 = g7 1 0 := by rw [hg9]; exact dU_ne (by omega)
    have yx45 := congrArg Int32.toInt ex44
    have ex46 : g9 1 5 = g7 1 5 := by rw [hg9]; exact dU_ne (by omega)
    have yx47 := congrArg Int32.toInt ex46
    have ex48 : g9 42 2 = g7 42 2 := by rw [hg9]; exact dU_ne (by omega)
    have yx49 := congrArg Int32.toInt ex48
    have yx50 : (g9 a0 2).toInt = ((g7 a0 2) + 1).toInt := by rw [hg9, dU_eq]
    exact sf_some (⟨I_g9, (ex42.trans (ex28.trans (ex15.trans ex2))), (ex44.trans (ex30.trans (ex17.trans ex4))), (ex46.trans (ex32.trans (ex19.trans ex6))), (ex48.trans (ex34.trans (ex21.trans ex8))), trivial⟩)
  · skip
    exact sf_some (⟨I_h, rfl, rfl, rfl, rfl, trivial⟩)
theorem s_X3_tie (h : dH) (I_h : InvC h) (a0 : Nat) (ha0 : zS a0) (v1 : Int32) (v2 : Int32) (v3 : Int32) (q0 : 0 ≤ v1.toInt ∧ v1.toInt ≤ 7) (q1 : 0 ≤ v2.toInt ∧ v2.toInt ≤ 7) : Sf (f_X3_tie a0 v1 v2 v3 h) (fun o => InvC o ∧ o 0 3 = h 0 3 ∧ o 1 0 = h 1 0 ∧ o 1 5 = h 1 5 ∧ o 42 2 = h 42 2 ∧ o 43 2 = h 43 2 ∧ True) := by
  unfold f_X3_tie
  have z_a0 : a0 = 43 ∨ a0 = 57 ∨ a0 = 71 := ha0
  have u_v1 := Int32.toInt_lt v1
  have w_v1 := Int32.le_toInt v1
  have u_v2 := Int32.toInt_lt v2
  have w_v2 := Int32.le_toInt v2
  have u_v3 := Int32.toInt_lt v3
  have w_v3 := Int32.le_toInt v3
  refine sf_guard (by omega) (fun c1 => ?_)
  refine sf_guard (by omega) (fun c3 => ?_)
  refine sf_oH (fun g2 hg2 => ?_)
  have I_g2 : InvC g2 := by rw [hg2]; exact inv_free I_h (fSr ha0 (by omega : v1.toInt.toNat < 8))
  have ex1 : g2 0 3 = h 0 3 := by rw [hg2]; exact dU_ne (by omega)
  have yx2 := congrArg Int32.toInt ex1
  have ex3 : g2 1 0 = h 1 0 := by rw [hg2]; exact dU_ne (by omega)
  have yx4 := congrArg Int32.toInt ex3
  have ex5 : g2 1 5 = h 1 5 := by rw [hg2]; exact dU_ne (by omega)
  have yx6 := congrArg Int32.toInt ex5
  have ex7 : g2 42 2 = h 42 2 := by rw [hg2]; exact dU_ne (by omega)
  have yx8 := congrArg Int32.toInt ex7
  have ex9 : g2 43 2 = h 43 2 := by rw [hg2]; exact dU_ne (by omega)
  have yx10 := congrArg Int32.toInt ex9
  have ex11 : g2 a0 2 = h a0 2 := by rw [hg2]; exact dU_ne (by omega)
  have yx12 := congrArg Int32.toInt ex11
  refine sf_guard (by omega) (fun c4 => ?_)
  refine sf_guard (by omega) (fun c6 => ?_)
  refine sf_oH (fun g5 hg5 => ?_)
  have I_g5 : InvC g5 := by rw [hg5]; exact inv_free I_g2 (fSr ha0 (by omega : v2.toInt.toNat < 8))
  have ex13 : g5 0 3 = g2 0 3 := by rw [hg5]; exact dU_ne (by omega)
  have yx14 := congrArg Int32.toInt ex13
  have ex15 : g5 1 0 = g2 1 0 := by rw [hg5]; exact dU_ne (by omega)
  have yx16 := congrArg Int32.toInt ex15
  have ex17 : g5 1 5 = g2 1 5 := by rw [hg5]; exact dU_ne (by omega)
  have yx18 := congrArg Int32.toInt ex17
  have ex19 : g5 42 2 = g2 42 2 := by rw [hg5]; exact dU_ne (by omega)
  have yx20 := congrArg Int32.toInt ex19
  have ex21 : g5 43 2 = g2 43 2 := by rw [hg5]; exact dU_ne (by omega)
  have yx22 := congrArg Int32.toInt ex21
  have ex23 : g5 a0 2 = g2 a0 2 := by rw [hg5]; exact dU_ne (by omega)
  have yx24 := congrArg Int32.toInt ex23
  exact sf_some (⟨I_g5, (ex13.trans ex1), (ex15.trans ex3), (ex17.trans ex5), (ex19.trans ex7), (ex21.trans ex9), trivial⟩)
theorem sl_X3_acquaintances_4 (a0 : Nat) (v1 : Int32) (ha0 : zS a0) (h : dH) (I_h : InvC h) (r_v1 : 0 ≤ v1.toInt ∧ v1.toInt ≤ 7) (k : Int32 → Option (Int32)) (Q : Int32 → Prop) (hk : ∀ (v2 : Int32), True → Sf (k v2) Q)  : ∀ (n : Nat) (v2 : Int32) (v3 : Int32), 0 ≤ v3.toInt ∧ v3.toInt ≤ 8 → 8 - v3.toInt < (n : Int) → Sf (l_X3_acquaintances_4 a0 v1 h k n v2 v3) Q
  | 0, v2, v3, hi, hm => by omega
  | n + 1, v2, v3, hi, hm => by
    rw [l_X3_acquaintances_4]
    have z_a0 : a0 = 43 ∨ a0 = 57 ∨ a0 = 71 := ha0
    have bx1 := I_h a0 2 (0) (8) (bS2 ha0)
    refine sf_ite (fun c1 => ?_) (fun c2 => ?_)
    · skip
      refine sf_oP (s_X3_knows h I_h a0 ha0 v1 v3 (by omega) (by omega)) (fun r3 pr3 => ?_)
      refine sf_ite (fun c4 => ?_) (fun c5 => ?_)
      · skip
        try have tx2 : (v3 + 1).toInt = v3.toInt + 1 := i_add rfl (by decide) (by omega) (by omega)
        exact sl_X3_acquaintances_4  a0 v1 ha0 h I_h r_v1 k Q hk n v2 (v3 + 1) (by first | trivial | omega) (by omega)
      · skip
        try have tx3 : (v2 + 1).toInt = v2.toInt + 1 := i_add rfl (by decide) (by omega) (by omega)
        try have tx4 : (v3 + 1).toInt = v3.toInt + 1 := i_add rfl (by decide) (by omega) (by omega)
        exact sl_X3_acquaintances_4  a0 v1 ha0 h I_h r_v1 k Q hk n (v2 + 1) (v3 + 1) (by first | trivial | omega) (by omega)
    · skip
      exact hk v2 (by first | trivial | omega)
theorem s_X3_acquaintances (h : dH) (I_h : InvC h) (a0 : Nat) (ha0 : zS a0) (v1 : Int32) (q0 : 0 ≤ v1.toInt ∧ v1.toInt ≤ 7) : Sf (f_X3_acquaintances a0 v1 h) (fun r => True) := by
  unfold f_X3_acquaintances
  have z_a0 : a0 = 43 ∨ a0 = 57 ∨ a0 = 71 := ha0
  have u_v1 := Int32.toInt_lt v1
  have w_v1 := Int32.le_toInt v1
  have tx5 : (0 : Int32).toInt = 0 := by decide
  refine sl_X3_acquaintances_4 a0 v1 ha0 h I_h (by omega) _ _ (fun v2_6 px6 => ?_)  fuel0 (0 : Int32) (0 : Int32)  (by first | trivial | omega) (by have := fuel0_eq; omega)
  exact sf_some (trivial)
theorem sl_X3_friends_16 (a0 : Nat) (v2 : Int32) (ha0 : zS a0) (h : dH) (I_h : InvC h) (r_v2 : 0 ≤ v2.toInt ∧ v2.toInt ≤ 7) (k : Int32 → Option (Int32)) (Q : Int32 → Prop) (hk : ∀ (v1 : Int32), True → Sf (k v1) Q)  : ∀ (n : Nat) (v1 : Int32) (v3 : Int32), 0 ≤ v3.toInt ∧ v3.toInt ≤ 8 → 8 - v3.toInt < (n : Int) → Sf (l_X3_friends_16 a0 v2 h k n v1 v3) Q
  | 0, v1, v3, hi, hm => by omega
  | n + 1, v1, v3, hi, hm => by
    rw [l_X3_friends_16]
    have z_a0 : a0 = 43 ∨ a0 = 57 ∨ a0 = 71 := ha0
    have bx2 := I_h a0 2 (0) (8) (bS2 ha0)
    refine sf_ite (fun c3 => ?_) (fun c4 => ?_)
    · skip
      refine sf_oP (s_X3_knows h I_h a0 ha0 v2 v3 (by omega) (by omega)) (fun r5 pr5 => ?_)
      refine sf_ite (fun c6 => ?_) (fun c7 => ?_)
      · skip
        try have tx3 : (v3 + 1).toInt = v3.toInt + 1 := i_add rfl (by decide) (by omega) (by omega)
        exact sl_X3_friends_16  a0 v2 ha0 h I_h r_v2 k Q hk n v1 (v3 + 1) (by first | trivial | omega) (by omega)
      · skip
        try have tx4 : (v1 + 1).toInt = v1.toInt + 1 := i_add rfl (by decide) (by omega) (by omega)
        try have tx5 : (v3 + 1).toInt = v3.toInt + 1 := i_add rfl (by decide) (by omega) (by omega)
        exact sl_X3_friends_16  a0 v2 ha0 h I_h r_v2 k Q hk n (v1 + 1) (v3 + 1) (by first | trivial | omega) (by omega)
    · skip
      exact hk v1 (by first | trivial | omega)
theorem sl_X3_friends_4 (a0 : Nat) (ha0 : zS a0) (h : dH) (I_h : InvC h)  (k : Int32 → Option (Int32)) (Q : Int32 → Prop) (hk : ∀ (v1 : Int32), True → Sf (k v1) Q)  : ∀ (n : Nat) (v1 : Int32) (v2 : Int32), 0 ≤ v2.toInt ∧ v2.toInt ≤ 8 → 8 - v2.toInt < (n : Int) → Sf (l_X3_friends_4 a0 h k n v1 v2) Q
  | 0, v1, v2, hi, hm => by omega
  | n + 1, v1, v2, hi, hm => by
    rw [l_X3_friends_4]
    have z_a0 : a0 = 43 ∨ a0 = 57 ∨ a0 = 71 := ha0
    have bx1 := I_h a0 2 (0) (8) (bS2 ha0)
    refine sf_ite (fun c1 => ?_) (fun c2 => ?_)
    · skip
      try have tx6 : (v2 + 1).toInt = v2.toInt + 1 := i_add rfl (by decide) (by omega) (by omega)
      refine sl_X3_friends_16 a0 v2 ha0 h I_h (by omega) _ _ (fun v1_8 px7 => ?_)  fuel0 v1 (v2 + 1)  (by first | trivial | omega) (by have := fuel0_eq; omega)
      exact sl_X3_friends_4  a0 ha0 h I_h  k Q hk n v1_8 (v2 + 1) (by first | trivial | omega) (by omega)
    · skip
      exact hk v1 (by first | trivial | omega)
theorem s_X3_friends (h : dH) (I_h : InvC h) (a0 : Nat) (ha0 : zS a0)  : Sf (f_X3_friends a0 h) (fun r => True) := by
  unfold f_X3_friends
  have z_a0 : a0 = 43 ∨ a0 = 57 ∨ a0 = 71 := ha0
  have tx8 : (0 : Int32).toInt = 0 := by decide
  refine sl_X3_friends_4 a0 ha0 h I_h  _ _ (fun v1_10 px9 => ?_)  fuel0 (0 : Int32) (0 : Int32)  (by first | trivial | omega) (by have := fuel0_eq; omega)
  exact sf_some (trivial)
theorem sl_X3_allStrength_16 (a0 : Nat) (v2 : Int32) (ha0 : zS a0) (h : dH) (I_h : InvC h) (r_v2 : 0 ≤ v2.toInt ∧ v2.toInt ≤ 7) (k : Int32 → Option (Int32)) (Q : Int32 → Prop) (hk : ∀ (v1 : Int32), True → Sf (k v1) Q)  : ∀ (n : Nat) (v1 : Int32) (v3 : Int32), 0 ≤ v3.toInt ∧ v3.toInt ≤ 8 → 8 - v3.toInt < (n : Int) → Sf (l_X3_allStrength_16 a0 v2 h k n v1 v3) Q
  | 0, v1, v3, hi, hm => by omega
  | n + 1, v1, v3, hi, hm => by
    rw [l_X3_allStrength_16]
    have z_a0 : a0 = 43 ∨ a0 = 57 ∨ a0 = 71 := ha0
    have bx2 := I_h a0 2 (0) (8) (bS2 ha0)
    refine sf_ite (fun c3 => ?_) (fun c4 => ?_)
    · skip
      refine sf_guard (by omega) (fun c5 => ?_)
      refine sf_guard (by omega) (fun c6 => ?_)
      try have tx3 : (v1 + (h (a0 + 5 + v2.toInt.toNat) (v3.toInt.toNat))).toInt = v1.toInt + (h (a0 + 5 + v2.toInt.toNat) (v3.toInt.toNat)).toInt := i_add rfl rfl (by omega) (by omega)
      try have tx4 : (v3 + 1).toInt = v3.toInt + 1 := i_add rfl (by decide) (by omega) (by omega)
      exact sl_X3_allStrength_16  a0 v2 ha0 h I_h r_v2 k Q hk n (v1 + (h (a0 + 5 + v2.toInt.toNat) (v3.toInt.toNat))) (v3 + 1) (by first | trivial | omega) (by omega)
    · skip
      exact hk v1 (by first | trivial | omega)
theorem sl_X3_allStrength_4 (a0 : Nat) (ha0 : zS a0) (h : dH) (I_h : InvC h)  (k : Int32 → Option (Int32)) (Q : Int32 → Prop) (hk : ∀ (v1 : Int32), True → Sf (k v1) Q)  : ∀ (n : Nat) (v1 : Int32) (v2 : Int32), 0 ≤ v2.toInt ∧ v2.toInt ≤ 8 → 8 - v2.toInt < (n : Int) → Sf (l_X3_allStrength_4 a0 h k n v1 v2) Q
  | 0, v1, v2, hi, hm => by omega
  | n + 1, v1, v2, hi, hm => by
    rw [l_X3_allStrength_4]
    have z_a0 : a0 = 43 ∨ a0 = 57 ∨ a0 = 71 := ha0
    have bx1 := I_h a0 2 (0) (8) (bS2 ha0)
    refine sf_ite (fun c1 => ?_) (fun c2 => ?_)
    · skip
      try have tx5 : (v2 + 1).toInt = v2.toInt + 1 := i_add rfl (by decide) (by omega) (by omega)
      refine sl_X3_allStrength_16 a0 v2 ha0 h I_h (by omega) _ _ (fun v1_7 px6 => ?_)  fuel0 v1 (v2 + 1)  (by first | trivial | omega) (by have := fuel0_eq; omega)
      exact sl_X3_allStrength_4  a0 ha0 h I_h  k Q hk n v1_7 (v2 + 1) (by first | trivial | omega) (by omega)
    · skip
      exact hk v1 (by first | trivial | omega)
theorem s_X3_allStrength (h : dH) (I_h : InvC h) (a0 : Nat) (ha0 : zS a0)  : Sf (f_X3_allStrength a0 h) (fun r => True) := by
  unfold f_X3_allStrength
  have z_a0 : a0 = 43 ∨ a0 = 57 ∨ a0 = 71 := ha0
  have tx7 : (0 : Int32).toInt = 0 := by decide
  refine sl_X3_allStrength_4 a0 ha0 h I_h  _ _ (fun v1_9 px8 => ?_)  fuel0 (0 : Int32) (0 : Int32)  (by first | trivial | omega) (by have := fuel0_eq; omega)
  exact sf_some (trivial)
end
