/-! that they answer: X7_waysAll, X7_companies, X7_largest, X7_longest, X7_strengthAll, X7_quietest, X7_tellsOf, X7_street, X7_way, X7_laysAside, X7_laysBack, X7_lives, X7_run, X7_friendsBehind, X7_takes, X7_best, X7_change, X7_clears, X7_sitsAgain, X7_split, X7_missed, X7_match, X7_unlike (by program) -/
noncomputable section
theorem sl_X7_waysAll_12 (v1 : Int32)  (h0 : dH) (I_h0 : InvM h0) (r_v1 : 0 ≤ v1.toInt ∧ v1.toInt ≤ 7) (k : dH → Option (dH)) (Q : dH → Prop) (hk : ∀  (g : dH) (Ig : InvM g) (e0 : g 0 3 = h0 0 3) (e1 : g 0 4 = h0 0 4) (e2 : g 0 13 = h0 0 13), True → Sf (k  g) Q)  : ∀ (n : Nat) (v2 : Int32) (h : dH) (I_h : InvM h) (e0 : h 0 3 = h0 0 3) (e1 : h 0 4 = h0 0 4) (e2 : h 0 13 = h0 0 13), 0 ≤ v2.toInt ∧ v2.toInt ≤ 8 → 8 - v2.toInt < (n : Int) → Sf (l_X7_waysAll_12 v1 k n v2 h) Q
  | 0, v2, h, I_h, e0, e1, e2, hi, hm => by omega
  | n + 1, v2, h, I_h, e0, e1, e2, hi, hm => by
    rw [l_X7_waysAll_12]
    have yx5 := congrArg Int32.toInt e0
    have yx6 := congrArg Int32.toInt e1
    have yx7 := congrArg Int32.toInt e2
    have bx8 := I_h.1 0 13 (0) (8) rfl
    refine sf_ite (fun c3 => ?_) (fun c4 => ?_)
    · skip
      refine sf_ite (fun c5 => ?_) (fun c6 => ?_)
      · skip
        try have tx9 : (8 * v1).toInt = 8 * v1.toInt := i_mul (by decide) rfl (by omega) (by omega)
        try have tx10 : ((8 * v1) + v2).toInt = (8 * v1).toInt + v2.toInt := i_add rfl rfl (by omega) (by omega)
        refine sf_guard (by omega) (fun c8 => ?_)
        refine sf_oH (fun g7 hg7 => ?_)
        have I_g7 : InvM g7 := by rw [hg7]; exact invM_free I_h rfl (by omega) (by omega)
        have ex11 : g7 0 3 = h 0 3 := by rw [hg7]; exact dU_ne (by omega)
        have yx12 := congrArg Int32.toInt ex11
        have ex13 : g7 0 4 = h 0 4 := by rw [hg7]; exact dU_ne (by omega)
        have yx14 := congrArg Int32.toInt ex13
        have ex15 : g7 0 13 = h 0 13 := by rw [hg7]; exact dU_ne (by omega)
        have yx16 := congrArg Int32.toInt ex15
        try have tx17 : (v2 + 1).toInt = v2.toInt + 1 := i_add rfl (by decide) (by omega) (by omega)
        exact sl_X7_waysAll_12  v1  h0 I_h0 r_v1 k Q hk n (v2 + 1) g7 I_g7 (ex11.trans e0) (ex13.trans e1) (ex15.trans e2) (by first | trivial | omega) (by omega)
      · skip
        refine sf_oP (s_X7_knows h I_h v1 v2 (by omega) (by omega)) (fun r9 pr9 => ?_)
        refine sf_ite (fun c10 => ?_) (fun c11 => ?_)
        · skip
          try have tx18 : (8 * v1).toInt = 8 * v1.toInt := i_mul (by decide) rfl (by omega) (by omega)
          try have tx19 : ((8 * v1) + v2).toInt = (8 * v1).toInt + v2.toInt := i_add rfl rfl (by omega) (by omega)
          refine sf_guard (by omega) (fun c13 => ?_)
          refine sf_oH (fun g12 hg12 => ?_)
          have I_g12 : InvM g12 := by rw [hg12]; exact invM_free I_h rfl (by omega) (by omega)
          have ex20 : g12 0 3 = h 0 3 := by rw [hg12]; exact dU_ne (by omega)
          have yx21 := congrArg Int32.toInt ex20
          have ex22 : g12 0 4 = h 0 4 := by rw [hg12]; exact dU_ne (by omega)
          have yx23 := congrArg Int32.toInt ex22
          have ex24 : g12 0 13 = h 0 13 := by rw [hg12]; exact dU_ne (by omega)
          have yx25 := congrArg Int32.toInt ex24
          try have tx26 : (v2 + 1).toInt = v2.toInt + 1 := i_add rfl (by decide) (by omega) (by omega)
          exact sl_X7_waysAll_12  v1  h0 I_h0 r_v1 k Q hk n (v2 + 1) g12 I_g12 (ex20.trans e0) (ex22.trans e1) (ex24.trans e2) (by first | trivial | omega) (by omega)
        · skip
          try have tx27 : (8 * v1).toInt = 8 * v1.toInt := i_mul (by decide) rfl (by omega) (by omega)
          try have tx28 : ((8 * v1) + v2).toInt = (8 * v1).toInt + v2.toInt := i_add rfl rfl (by omega) (by omega)
          refine sf_guard (by omega) (fun c15 => ?_)
          refine sf_oH (fun g14 hg14 => ?_)
          have I_g14 : InvM g14 := by rw [hg14]; exact invM_free I_h rfl (by omega) (by omega)
          have ex29 : g14 0 3 = h 0 3 := by rw [hg14]; exact dU_ne (by omega)
          have yx30 := congrArg Int32.toInt ex29
          have ex31 : g14 0 4 = h 0 4 := by rw [hg14]; exact dU_ne (by omega)
          have yx32 := congrArg Int32.toInt ex31
          have ex33 : g14 0 13 = h 0 13 := by rw [hg14]; exact dU_ne (by omega)
          have yx34 := congrArg Int32.toInt ex33
          try have tx35 : (v2 + 1).toInt = v2.toInt + 1 := i_add rfl (by decide) (by omega) (by omega)
          exact sl_X7_waysAll_12  v1  h0 I_h0 r_v1 k Q hk n (v2 + 1) g14 I_g14 (ex29.trans e0) (ex31.trans e1) (ex33.trans e2) (by first | trivial | omega) (by omega)
    · skip
      exact hk  h I_h e0 e1 e2 (by first | trivial | omega)
theorem sl_X7_waysAll_2   (h0 : dH) (I_h0 : InvM h0)  (k : dH → Option (dH)) (Q : dH → Prop) (hk : ∀  (g : dH) (Ig : InvM g) (e0 : g 0 3 = h0 0 3) (e1 : g 0 4 = h0 0 4) (e2 : g 0 13 = h0 0 13), True → Sf (k  g) Q)  : ∀ (n : Nat) (v1 : Int32) (h : dH) (I_h : InvM h) (e0 : h 0 3 = h0 0 3) (e1 : h 0 4 = h0 0 4) (e2 : h 0 13 = h0 0 13), 0 ≤ v1.toInt ∧ v1.toInt ≤ 8 → 8 - v1.toInt < (n : Int) → Sf (l_X7_waysAll_2  k n v1 h) Q
  | 0, v1, h, I_h, e0, e1, e2, hi, hm => by omega
  | n + 1, v1, h, I_h, e0, e1, e2, hi, hm => by
    rw [l_X7_waysAll_2]
    have yx1 := congrArg Int32.toInt e0
    have yx2 := congrArg Int32.toInt e1
    have yx3 := congrArg Int32.toInt e2
    have bx4 := I_h.1 0 13 (0) (8) rfl
    refine sf_ite (fun c1 => ?_) (fun c2 => ?_)
    · skip
      have tx36 : (0 : Int32).toInt = 0 := by decide
      refine sl_X7_waysAll_12 v1  h I_h (by omega) _ _ (fun g17 I_g17 eg17_0 eg17_1 eg17_2 px37 => ?_)  fuel0 (0 : Int32) h I_h rfl rfl rfl (by first | trivial | omega) (by have := fuel0_eq; omega)
      have yx38 := congrArg Int32.toInt eg17_0
      have yx39 := congrArg Int32.toInt eg17_1
      have yx40 := congrArg Int32.toInt eg17_2
      try have tx41 : (v1 + 1).toInt = v1.toInt + 1 := i_add rfl (by decide) (by omega) (by omega)
      exact sl_X7_waysAll_2    h0 I_h0  k Q hk n (v1 + 1) g17 I_g17 (eg17_0.trans e0) (eg17_1.trans e1) (eg17_2.trans e2) (by first | trivial | omega) (by omega)
    · skip
      exact hk  h I_h e0 e1 e2 (by first | trivial | omega)
theorem sl_X7_waysAll_88 (v1 : Int32) (v2 : Int32)  (h0 : dH) (I_h0 : InvM h0) (r_v1 : 0 ≤ v1.toInt ∧ v1.toInt ≤ 7) (r_v2 : 0 ≤ v2.toInt ∧ v2.toInt ≤ 7) (k : dH → Option (dH)) (Q : dH → Prop) (hk : ∀  (g : dH) (Ig : InvM g) (e0 : g 0 3 = h0 0 3) (e1 : g 0 4 = h0 0 4) (e2 : g 0 13 = h0 0 13), True → Sf (k  g) Q)  : ∀ (n : Nat) (v3 : Int32) (h : dH) (I_h : InvM h) (e0 : h 0 3 = h0 0 3) (e1 : h 0 4 = h0 0 4) (e2 : h 0 13 = h0 0 13), 0 ≤ v3.toInt ∧ v3.toInt ≤ 8 → 8 - v3.toInt < (n : Int) → Sf (l_X7_waysAll_88 v1 v2 k n v3 h) Q
  | 0, v3, h, I_h, e0, e1, e2, hi, hm => by omega
  | n + 1, v3, h, I_h, e0, e1, e2, hi, hm => by
    rw [l_X7_waysAll_88]
    have yx55 := congrArg Int32.toInt e0
    have yx56 := congrArg Int32.toInt e1
    have yx57 := congrArg Int32.toInt e2
    have bx58 := I_h.1 0 13 (0) (8) rfl
    refine sf_ite (fun c25 => ?_) (fun c26 => ?_)
    · skip
      try have tx59 : (8 * v2).toInt = 8 * v2.toInt := i_mul (by decide) rfl (by omega) (by omega)
      try have tx60 : ((8 * v2) + v1).toInt = (8 * v2).toInt + v1.toInt := i_add rfl rfl (by omega) (by omega)
      refine sf_guard (by omega) (fun c27 => ?_)
      try have tx61 : (8 * v1).toInt = 8 * v1.toInt := i_mul (by decide) rfl (by omega) (by omega)
      try have tx62 : ((8 * v1) + v3).toInt = (8 * v1).toInt + v3.toInt := i_add rfl rfl (by omega) (by omega)
      refine sf_guard (by omega) (fun c28 => ?_)
      try have tx63 : ((8 * v2) + v3).toInt = (8 * v2).toInt + v3.toInt := i_add rfl rfl (by omega) (by omega)
      refine sf_guard (by omega) (fun c29 => ?_)
      refine sf_ite (fun c30 => ?_) (fun c31 => ?_)
      · skip
        try have tx64 : (v3 + 1).toInt = v3.toInt + 1 := i_add rfl (by decide) (by omega) (by omega)
        exact sl_X7_waysAll_88  v1 v2  h0 I_h0 r_v1 r_v2 k Q hk n (v3 + 1) h I_h e0 e1 e2 (by first | trivial | omega) (by omega)
      · skip
        refine sf_ite (fun c32 => ?_) (fun c33 => ?_)
        · skip
          try have tx65 : (v3 + 1).toInt = v3.toInt + 1 := i_add rfl (by decide) (by omega) (by omega)
          exact sl_X7_waysAll_88  v1 v2  h0 I_h0 r_v1 r_v2 k Q hk n (v3 + 1) h I_h e0 e1 e2 (by first | trivial | omega) (by omega)
        · skip
          refine sf_ite (fun c34 => ?_) (fun c35 => ?_)
          · skip
            refine sf_guard (by omega) (fun c37 => ?_)
            try have tx66 : ((h 8 (((8 * v2) + v1).toInt.toNat)) + (h 8 (((8 * v1) + v3).toInt.toNat))).toInt = (h 8 (((8 * v2) + v1).toInt.toNat)).toInt + (h 8 (((8 * v1) + v3).toInt.toNat)).toInt := i_add rfl rfl (by omega) (by omega)
            refine sf_oH (fun g36 hg36 => ?_)
            have I_g36 : InvM g36 := by rw [hg36]; exact invM_free I_h rfl (by omega) (by omega)
            have ex67 : g36 0 3 = h 0 3 := by rw [hg36]; exact dU_ne (by omega)
            have yx68 := congrArg Int32.toInt ex67
            have ex69 : g36 0 4 = h 0 4 := by rw [hg36]; exact dU_ne (by omega)
            have yx70 := congrArg Int32.toInt ex69
            have ex71 : g36 0 13 = h 0 13 := by rw [hg36]; exact dU_ne (by omega)
            have yx72 := congrArg Int32.toInt ex71
            try have tx73 : (v3 + 1).toInt = v3.toInt + 1 := i_add rfl (by decide) (by omega) (by omega)
            exact sl_X7_waysAll_88  v1 v2  h0 I_h0 r_v1 r_v2 k Q hk n (v3 + 1) g36 I_g36 (ex67.trans e0) (ex69.trans e1) (ex71.trans e2) (by first | trivial | omega) (by omega)
          · skip
            try have tx74 : ((h 8 (((8 * v2) + v1).toInt.toNat)) + (h 8 (((8 * v1) + v3).toInt.toNat))).toInt = (h 8 (((8 * v2) + v1).toInt.toNat)).toInt + (h 8 (((8 * v1) + v3).toInt.toNat)).toInt := i_add rfl rfl (by omega) (by omega)
            refine sf_ite (fun c38 => ?_) (fun c39 => ?_)
            · skip
              refine sf_guard (by omega) (fun c41 => ?_)
              refine sf_oH (fun g40 hg40 => ?_)
              have I_g40 : InvM g40 := by rw [hg40]; exact invM_free I_h rfl (by omega) (by omega)
              have ex75 : g40 0 3 = h 0 3 := by rw [hg40]; exact dU_ne (by omega)
              have yx76 := congrArg Int32.toInt ex75
              have ex77 : g40 0 4 = h 0 4 := by rw [hg40]; exact dU_ne (by omega)
              have yx78 := congrArg Int32.toInt ex77
              have ex79 : g40 0 13 = h 0 13 := by rw [hg40]; exact dU_ne (by omega)
              have yx80 := congrArg Int32.toInt ex79
              try have tx81 : (v3 + 1).toInt = v3.toInt + 1 := i_add rfl (by decide) (by omega) (by omega)
              exact sl_X7_waysAll_88  v1 v2  h0 I_h0 r_v1 r_v2 k Q hk n (v3 + 1) g40 I_g40 (ex75.trans e0) (ex77.trans e1) (ex79.trans e2) (by first | trivial | omega) (by omega)
            · skip
              try have tx82 : (v3 + 1).toInt = v3.toInt + 1 := i_add rfl (by decide) (by omega) (by omega)
              exact sl_X7_waysAll_88  v1 v2  h0 I_h0 r_v1 r_v2 k Q hk n (v3 + 1) h I_h e0 e1 e2 (by first | trivial | omega) (by omega)
    · skip
      exact hk  h I_h e0 e1 e2 (by first | trivial | omega)
theorem sl_X7_waysAll_78 (v1 : Int32)  (h0 : dH) (I_h0 : InvM h0) (r_v1 : 0 ≤ v1.toInt ∧ v1.toInt ≤ 7) (k : dH → Option (dH)) (Q : dH → Prop) (hk : ∀  (g : dH) (Ig : InvM g) (e0 : g 0 3 = h0 0 3) (e1 : g 0 4 = h0 0 4) (e2 : g 0 13 = h0 0 13), True → Sf (k  g) Q)  : ∀ (n : Nat) (v2 : Int32) (h : dH) (I_h : InvM h) (e0 : h 0 3 = h0 0 3) (e1 : h 0 4 = h0 0 4) (e2 : h 0 13 = h0 0 13), 0 ≤ v2.toInt ∧ v2.toInt ≤ 8 → 8 - v2.toInt < (n : Int) → Sf (l_X7_waysAll_78 v1 k n v2 h) Q
  | 0, v2, h, I_h, e0, e1, e2, hi, hm => by omega
  | n + 1, v2, h, I_h, e0, e1, e2, hi, hm => by
    rw [l_X7_waysAll_78]
    have yx51 := congrArg Int32.toInt e0
    have yx52 := congrArg Int32.toInt e1
    have yx53 := congrArg Int32.toInt e2
    have bx54 := I_h.1 0 13 (0) (8) rfl
    refine sf_ite (fun c23 => ?_) (fun c24 => ?_)
    · skip
      have tx83 : (0 : Int32).toInt = 0 := by decide
      refine sl_X7_waysAll_88 v1 v2  h I_h (by omega) (by omega) _ _ (fun g46 I_g46 eg46_0 eg46_1 eg46_2 px84 => ?_)  fuel0 (0 : Int32) h I_h rfl rfl rfl (by first | trivial | omega) (by have := fuel0_eq; omega)
      have yx85 := congrArg Int32.toInt eg46_0
      have yx86 := congrArg Int32.toInt eg46_1
      have yx87 := congrArg Int32.toInt eg46_2
      try have tx88 : (v2 + 1).toInt = v2.toInt + 1 := i_add rfl (by decide) (by omega) (by omega)
      exact sl_X7_waysAll_78  v1  h0 I_h0 r_v1 k Q hk n (v2 + 1) g46 I_g46 (eg46_0.trans e0) (eg46_1.trans e1) (eg46_2.trans e2) (by first | trivial | omega) (by omega)
    · skip
      exact hk  h I_h e0 e1 e2 (by first | trivial | omega)
theorem sl_X7_waysAll_68   (h0 : dH) (I_h0 : InvM h0)  (k : dH → Option (dH)) (Q : dH → Prop) (hk : ∀  (g : dH) (Ig : InvM g) (e0 : g 0 3 = h0 0 3) (e1 : g 0 4 = h0 0 4) (e2 : g 0 13 = h0 0 13), True → Sf (k  g) Q)  : ∀ (n : Nat) (v1 : Int32) (h : dH) (I_h : InvM h) (e0 : h 0 3 = h0 0 3) (e1 : h 0 4 = h0 0 4) (e2 : h 0 13 = h0 0 13), 0 ≤ v1.toInt ∧ v1.toInt ≤ 8 → 8 - v1.toInt < (n : Int) → Sf (l_X7_waysAll_68  k n v1 h) Q
  | 0, v1, h, I_h, e0, e1, e2, hi, hm => by omega
  | n + 1, v1, h, I_h, e0, e1, e2, hi, hm => by
    rw [l_X7_waysAll_68]
    have yx47 := congrArg Int32.toInt e0
    have yx48 := congrArg Int32.toInt e1
    have yx49 := congrArg Int32.toInt e2
    have bx50 := I_h.1 0 13 (0) (8) rfl
    refine sf_ite (fun c21 => ?_) (fun c22 => ?_)
    · skip
      have tx89 : (0 : Int32).toInt = 0 := by decide
      refine sl_X7_waysAll_78 v1  h I_h (by omega) _ _ (fun g52 I_g52 eg52_0 eg52_1 eg52_2 px90 => ?_)  fuel0 (0 : Int32) h I_h rfl rfl rfl (by first | trivial | omega) (by have := fuel0_eq; omega)
      have yx91 := congrArg Int32.toInt eg52_0
      have yx92 := congrArg Int32.toInt eg52_1
      have yx93 := congrArg Int32.toInt eg52_2
      try have tx94 : (v1 + 1).toInt = v1.toInt + 1 := i_add rfl (by decide) (by omega) (by omega)
      exact sl_X7_waysAll_68    h0 I_h0  k Q hk n (v1 + 1) g52 I_g52 (eg52_0.trans e0) (eg52_1.trans e1) (eg52_2.trans e2) (by first | trivial | omega) (by omega)
    · skip
      exact hk  h I_h e0 e1 e2 (by first | trivial | omega)
theorem s_X7_waysAll (h : dH) (I_h : InvM h)   : Sf (f_X7_waysAll  h) (fun o => InvM o ∧ o 0 3 = h 0 3 ∧ o 0 4 = h 0 4 ∧ o 0 13 = h 0 13 ∧ True) := by
  unfold f_X7_waysAll
  have tx42 : (0 : Int32).toInt = 0 := by decide
  refine sl_X7_waysAll_2   h I_h  _ _ (fun g20 I_g20 eg20_0 eg20_1 eg20_2 px43 => ?_)  fuel0 (0 : Int32) h I_h rfl rfl rfl (by first | trivial | omega) (by have := fuel0_eq; omega)
  have yx44 := congrArg Int32.toInt eg20_0
  have yx45 := congrArg Int32.toInt eg20_1
  have yx46 := congrArg Int32.toInt eg20_2
  refine sl_X7_waysAll_68   g20 I_g20  _ _ (fun g59 I_g59 eg59_0 eg59_1 eg59_2 px95 => ?_)  fuel0 (0 : Int32) g20 I_g20 rfl rfl rfl (by first | trivial | omega) (by have := fuel0_eq; omega)
  have yx96 := congrArg Int32.toInt eg59_0
  have yx97 := congrArg Int32.toInt eg59_1
  have yx98 := congrArg Int32.toInt eg59_2
  exact sf_some (⟨I_g59, (eg59_0.trans eg20_0), (eg59_1.trans eg20_1), (eg59_2.trans eg20_2), trivial⟩)
theorem sl_X7_companies_29 (v2 : Int32)  (h : dH) (I_h : InvM h) (r_v2 : 0 ≤ v2.toInt ∧ v2.toInt ≤ 7) (k : Int32 → Option (Int32)) (Q : Int32 → Prop) (hk : ∀ (v3 : Int32), True → Sf (k v3) Q)  : ∀ (n : Nat) (v3 : Int32) (v4 : Int32), 0 ≤ v4.toInt ∧ v4.toInt ≤ 7 → 7 - v4.toInt < (n : Int) → Sf (l_X7_companies_29 v2 h k n v3 v4) Q
  | 0, v3, v4, hi, hm => by omega
  | n + 1, v3, v4, hi, hm => by
    rw [l_X7_companies_29]
    refine sf_ite (fun c5 => ?_) (fun c6 => ?_)
    · skip
      refine sf_ite (fun c7 => ?_) (fun c8 => ?_)
      · skip
        have tx2 : (0 : Int32).toInt = 0 := by decide
        try have tx3 : (v4 + 1).toInt = v4.toInt + 1 := i_add rfl (by decide) (by omega) (by omega)
        exact sl_X7_companies_29  v2  h I_h r_v2 k Q hk n (0 : Int32) (v4 + 1) (by first | trivial | omega) (by omega)
      · skip
        try have tx4 : (8 * v2).toInt = 8 * v2.toInt := i_mul (by decide) rfl (by omega) (by omega)
        try have tx5 : ((8 * v2) + v4).toInt = (8 * v2).toInt + v4.toInt := i_add rfl rfl (by omega) (by omega)
        refine sf_guard (by omega) (fun c9 => ?_)
        refine sf_ite (fun c10 => ?_) (fun c11 => ?_)
        · skip
          have tx6 : (1 : Int32).toInt = 1 := by decide
          try have tx7 : (v4 + 1).toInt = v4.toInt + 1 := i_add rfl (by decide) (by omega) (by omega)
          exact sl_X7_companies_29  v2  h I_h r_v2 k Q hk n (1 : Int32) (v4 + 1) (by first | trivial | omega) (by omega)
        · skip
          have tx8 : (0 : Int32).toInt = 0 := by decide
          try have tx9 : (v4 + 1).toInt = v4.toInt + 1 := i_add rfl (by decide) (by omega) (by omega)
          exact sl_X7_companies_29  v2  h I_h r_v2 k Q hk n (0 : Int32) (v4 + 1) (by first | trivial | omega) (by omega)
    · skip
      exact hk v3 (by first | trivial | omega)
theorem sl_X7_companies_4   (h : dH) (I_h : InvM h)  (k : Int32 → Option (Int32)) (Q : Int32 → Prop) (hk : ∀ (v1 : Int32), True → Sf (k v1) Q)  : ∀ (n : Nat) (v1 : Int32) (v2 : Int32), 0 ≤ v2.toInt ∧ v2.toInt ≤ 8 → 8 - v2.toInt < (n : Int) → Sf (l_X7_companies_4  h k n v1 v2) Q
  | 0, v1, v2, hi, hm => by omega
  | n + 1, v1, v2, hi, hm => by
    rw [l_X7_companies_4]
    have bx1 := I_h.1 0 13 (0) (8) rfl
    refine sf_ite (fun c1 => ?_) (fun c2 => ?_)
    · skip
      refine sf_ite (fun c3 => ?_) (fun c4 => ?_)
      · skip
        have tx10 : (0 : Int32).toInt = 0 := by decide
        refine sl_X7_companies_29 v2  h I_h (by omega) _ _ (fun v3_12 px11 => ?_)  fuel0 (0 : Int32) (0 : Int32)  (by first | trivial | omega) (by have := fuel0_eq; omega)
        refine sf_ite (fun c14 => ?_) (fun c15 => ?_)
        · skip
          try have tx12 : (v1 + 0).toInt = v1.toInt + 0 := i_add rfl (by decide) (by omega) (by omega)
          try have tx13 : (v2 + 1).toInt = v2.toInt + 1 := i_add rfl (by decide) (by omega) (by omega)
          exact sl_X7_companies_4    h I_h  k Q hk n (v1 + 0) (v2 + 1) (by first | trivial | omega) (by omega)
        · skip
          try have tx14 : (v1 + 1).toInt = v1.toInt + 1 := i_add rfl (by decide) (by omega) (by omega)
          try have tx15 : (v2 + 1).toInt = v2.toInt + 1 := i_add rfl (by decide) (by omega) (by omega)
          exact sl_X7_companies_4    h I_h  k Q hk n (v1 + 1) (v2 + 1) (by first | trivial | omega) (by omega)
      · skip
        have tx16 : (1 : Int32).toInt = 1 := by decide
        have tx17 : (0 : Int32).toInt = 0 := by decide
        refine sl_X7_companies_29 v2  h I_h (by omega) _ _ (fun v3_16 px18 => ?_)  fuel0 (1 : Int32) (0 : Int32)  (by first | trivial | omega) (by have := fuel0_eq; omega)
        refine sf_ite (fun c18 => ?_) (fun c19 => ?_)
        · skip
          try have tx19 : (v1 + 0).toInt = v1.toInt + 0 := i_add rfl (by decide) (by omega) (by omega)
          try have tx20 : (v2 + 1).toInt = v2.toInt + 1 := i_add rfl (by decide) (by omega) (by omega)
          exact sl_X7_companies_4    h I_h  k Q hk n (v1 + 0) (v2 + 1) (by first | trivial | omega) (by omega)
        · skip
          try have tx21 : (v1 + 1).toInt = v1.toInt + 1 := i_add rfl (by decide) (by omega) (by omega)
          try have tx22 : (v2 + 1).toInt = v2.toInt + 1 := i_add rfl (by decide) (by omega) (by omega)
          exact sl_X7_companies_4    h I_h  k Q hk n (v1 + 1) (v2 + 1) (by first | trivial | omega) (by omega)
    · skip
      exact hk v1 (by first | trivial | omega)
theorem s_X7_companies (h : dH) (I_h : InvM h)   : Sf (f_X7_companies  h) (fun r => True) := by
  unfold f_X7_companies
  have tx23 : (0 : Int32).toInt = 0 := by decide
  refine sl_X7_companies_4   h I_h  _ _ (fun v1_20 px24 => ?_)  fuel0 (0 : Int32) (0 : Int32)  (by first | trivial | omega) (by have := fuel0_eq; omega)
  exact sf_some (trivial)
theorem sl_X7_largest_17 (v2 : Int32)  (h : dH) (I_h : InvM h) (r_v2 : 0 ≤ v2.toInt ∧ v2.toInt ≤ 7) (k : Int32 → Option (Int32)) (Q : Int32 → Prop) (hk : ∀ (v3 : Int32), True → Sf (k v3) Q)  : ∀ (n : Nat) (v3 : Int32) (v4 : Int32), 0 ≤ v4.toInt ∧ v4.toInt ≤ 8 → 8 - v4.toInt < (n : Int) → Sf (l_X7_largest_17 v2 h k n v3 v4) Q
  | 0, v3, v4, hi, hm => by omega
  | n + 1, v3, v4, hi, hm => by
    rw [l_X7_largest_17]
    have bx2 := I_h.1 0 13 (0) (8) rfl
    refine sf_ite (fun c3 => ?_) (fun c4 => ?_)
    · skip
      try have tx3 : (8 * v2).toInt = 8 * v2.toInt := i_mul (by decide) rfl (by omega) (by omega)
      try have tx4 : ((8 * v2) + v4).toInt = (8 * v2).toInt + v4.toInt := i_add rfl rfl (by omega) (by omega)
      refine sf_guard (by omega) (fun c5 => ?_)
      refine sf_ite (fun c6 => ?_) (fun c7 => ?_)
      · skip
        try have tx5 : (v3 + 0).toInt = v3.toInt + 0 := i_add rfl (by decide) (by omega) (by omega)
        try have tx6 : (v4 + 1).toInt = v4.toInt + 1 := i_add rfl (by decide) (by omega) (by omega)
        exact sl_X7_largest_17  v2  h I_h r_v2 k Q hk n (v3 + 0) (v4 + 1) (by first | trivial | omega) (by omega)
      · skip
        try have tx7 : (v3 + 1).toInt = v3.toInt + 1 := i_add rfl (by decide) (by omega) (by omega)
        try have tx8 : (v4 + 1).toInt = v4.toInt + 1 := i_add rfl (by decide) (by omega) (by omega)
        exact sl_X7_largest_17  v2  h I_h r_v2 k Q hk n (v3 + 1) (v4 + 1) (by first | trivial | omega) (by omega)
    · skip
      exact hk v3 (by first | trivial | omega)
theorem sl_X7_largest_4   (h : dH) (I_h : InvM h)  (k : Int32 → Option (Int32)) (Q : Int32 → Prop) (hk : ∀ (v1 : Int32), True → Sf (k v1) Q)  : ∀ (n : Nat) (v1 : Int32) (v2 : Int32), 0 ≤ v2.toInt ∧ v2.toInt ≤ 8 → 8 - v2.toInt < (n : Int) → Sf (l_X7_largest_4  h k n v1 v2) Q
  | 0, v1, v2, hi, hm => by omega
  | n + 1, v1, v2, hi, hm => by
    rw [l_X7_largest_4]
    have bx1 := I_h.1 0 13 (0) (8) rfl
    refine sf_ite (fun c1 => ?_) (fun c2 => ?_)
    · skip
      have tx9 : (0 : Int32).toInt = 0 := by decide
      refine sl_X7_largest_17 v2  h I_h (by omega) _ _ (fun v3_8 px10 => ?_)  fuel0 (0 : Int32) (0 : Int32)  (by first | trivial | omega) (by have := fuel0_eq; omega)
      refine sf_ite (fun c10 => ?_) (fun c11 => ?_)
      · skip
        try have tx11 : (v2 + 1).toInt = v2.toInt + 1 := i_add rfl (by decide) (by omega) (by omega)
        exact sl_X7_largest_4    h I_h  k Q hk n v3_8 (v2 + 1) (by first | trivial | omega) (by omega)
      · skip
        try have tx12 : (v2 + 1).toInt = v2.toInt + 1 := i_add rfl (by decide) (by omega) (by omega)
        exact sl_X7_largest_4    h I_h  k Q hk n v1 (v2 + 1) (by first | trivial | omega) (by omega)
    · skip
      exact hk v1 (by first | trivial | omega)
theorem s_X7_largest (h : dH) (I_h : InvM h)   : Sf (f_X7_largest  h) (fun r => True) := by
  unfold f_X7_largest
  have tx13 : (0 : Int32).toInt = 0 := by decide
  refine sl_X7_largest_4   h I_h  _ _ (fun v1_12 px14 => ?_)  fuel0 (0 : Int32) (0 : Int32)  (by first | trivial | omega) (by have := fuel0_eq; omega)
  exact sf_some (trivial)
theorem sl_X7_longest_15 (v1 : Int32) (v3 : Int32)  (h : dH) (I_h : InvM h) (r_v3 : 0 ≤ v3.toInt ∧ v3.toInt ≤ 7) (k : Int32 → Option (Int32)) (Q : Int32 → Prop) (hk : ∀ (v2 : Int32), True → Sf (k v2) Q)  : ∀ (n : Nat) (v2 : Int32) (v4 : Int32), 0 ≤ v4.toInt ∧ v4.toInt ≤ 8 → 8 - v4.toInt < (n : Int) → Sf (l_X7_longest_15 v1 v3 h k n v2 v4) Q
  | 0, v2, v4, hi, hm => by omega
  | n + 1, v2, v4, hi, hm => by
    rw [l_X7_longest_15]
    have bx2 := I_h.1 0 13 (0) (8) rfl
    refine sf_ite (fun c3 => ?_) (fun c4 => ?_)
    · skip
      try have tx3 : (8 * v3).toInt = 8 * v3.toInt := i_mul (by decide) rfl (by omega) (by omega)
      try have tx4 : ((8 * v3) + v4).toInt = (8 * v3).toInt + v4.toInt := i_add rfl rfl (by omega) (by omega)
      refine sf_guard (by omega) (fun c5 => ?_)
      refine sf_ite (fun c6 => ?_) (fun c7 => ?_)
      · skip
        refine sf_ite (fun c8 => ?_) (fun c9 => ?_)
        · skip
          try have tx5 : (v4 + 1).toInt = v4.toInt + 1 := i_add rfl (by decide) (by omega) (by omega)
          exact sl_X7_longest_15  v1 v3  h I_h r_v3 k Q hk n v1 (v4 + 1) (by first | trivial | omega) (by omega)
        · skip
          try have tx6 : (v4 + 1).toInt = v4.toInt + 1 := i_add rfl (by decide) (by omega) (by omega)
          exact sl_X7_longest_15  v1 v3  h I_h r_v3 k Q hk n v2 (v4 + 1) (by first | trivial | omega) (by omega)
      · skip
        refine sf_guard (by omega) (fun c10 => ?_)
        refine sf_ite (fun c11 => ?_) (fun c12 => ?_)
        · skip
          try have tx7 : (v4 + 1).toInt = v4.toInt + 1 := i_add rfl (by decide) (by omega) (by omega)
          exact sl_X7_longest_15  v1 v3  h I_h r_v3 k Q hk n (h 8 (((8 * v3) + v4).toInt.toNat)) (v4 + 1) (by first | trivial | omega) (by omega)
        · skip
          try have tx8 : (v4 + 1).toInt = v4.toInt + 1 := i_add rfl (by decide) (by omega) (by omega)
          exact sl_X7_longest_15  v1 v3  h I_h r_v3 k Q hk n v2 (v4 + 1) (by first | trivial | omega) (by omega)
    · skip
      exact hk v2 (by first | trivial | omega)
theorem sl_X7_longest_4 (v1 : Int32)  (h : dH) (I_h : InvM h)  (k : Int32 → Option (Int32)) (Q : Int32 → Prop) (hk : ∀ (v2 : Int32), True → Sf (k v2) Q)  : ∀ (n : Nat) (v2 : Int32) (v3 : Int32), 0 ≤ v3.toInt ∧ v3.toInt ≤ 8 → 8 - v3.toInt < (n : Int) → Sf (l_X7_longest_4 v1 h k n v2 v3) Q
  | 0, v2, v3, hi, hm => by omega
  | n + 1, v2, v3, hi, hm => by
    rw [l_X7_longest_4]
    have bx1 := I_h.1 0 13 (0) (8) rfl
    refine sf_ite (fun c1 => ?_) (fun c2 => ?_)
    · skip
      have tx9 : (0 : Int32).toInt = 0 := by decide
      refine sl_X7_longest_15 v1 v3  h I_h (by omega) _ _ (fun v2_13 px10 => ?_)  fuel0 v2 (0 : Int32)  (by first | trivial | omega) (by have := fuel0_eq; omega)
      try have tx11 : (v3 + 1).toInt = v3.toInt + 1 := i_add rfl (by decide) (by omega) (by omega)
      exact sl_X7_longest_4  v1  h I_h  k Q hk n v2_13 (v3 + 1) (by first | trivial | omega) (by omega)
    · skip
      exact hk v2 (by first | trivial | omega)
theorem s_X7_longest (h : dH) (I_h : InvM h) (v1 : Int32)  : Sf (f_X7_longest v1 h) (fun r => True) := by
  unfold f_X7_longest
  have u_v1 := Int32.toInt_lt v1
  have w_v1 := Int32.le_toInt v1
  have tx12 : (0 : Int32).toInt = 0 := by decide
  refine sl_X7_longest_4 v1  h I_h  _ _ (fun v2_16 px13 => ?_)  fuel0 (0 : Int32) (0 : Int32)  (by first | trivial | omega) (by have := fuel0_eq; omega)
  exact sf_some (trivial)
theorem sl_X7_strengthAll_16 (v2 : Int32)  (h : dH) (I_h : InvM h) (r_v2 : 0 ≤ v2.toInt ∧ v2.toInt ≤ 7) (k : Int32 → Option (Int32)) (Q : Int32 → Prop) (hk : ∀ (v1 : Int32), True → Sf (k v1) Q)  : ∀ (n : Nat) (v1 : Int32) (v3 : Int32), 0 ≤ v3.toInt ∧ v3.toInt ≤ 8 → 8 - v3.toInt < (n : Int) → Sf (l_X7_strengthAll_16 v2 h k n v1 v3) Q
  | 0, v1, v3, hi, hm => by omega
  | n + 1, v1, v3, hi, hm => by
    rw [l_X7_strengthAll_16]
    have bx2 := I_h.1 0 13 (0) (8) rfl
    refine sf_ite (fun c3 => ?_) (fun c4 => ?_)
    · skip
      refine sf_oP (s_X7_strengthOf h I_h v2 v3 (by omega) (by omega)) (fun r5 pr5 => ?_)
      try have tx3 : (v1 + r5).toInt = v1.toInt + r5.toInt := i_add rfl rfl (by omega) (by omega)
      try have tx4 : (v3 + 1).toInt = v3.toInt + 1 := i_add rfl (by decide) (by omega) (by omega)
      exact sl_X7_strengthAll_16  v2  h I_h r_v2 k Q hk n (v1 + r5) (v3 + 1) (by first | trivial | omega) (by omega)
    · skip
      exact hk v1 (by first | trivial | omega)
theorem sl_X7_strengthAll_4   (h : dH) (I_h : InvM h)  (k : Int32 → Option (Int32)) (Q : Int32 → Prop) (hk : ∀ (v1 : Int32), True → Sf (k v1) Q)  : ∀ (n : Nat) (v1 : Int32) (v2 : Int32), 0 ≤ v2.toInt ∧ v2.toInt ≤ 8 → 8 - v2.toInt < (n : Int) → Sf (l_X7_strengthAll_4  h k n v1 v2) Q
  | 0, v1, v2, hi, hm => by omega
  | n + 1, v1, v2, hi, hm => by
    rw [l_X7_strengthAll_4]
    have bx1 := I_h.1 0 13 (0) (8) rfl
    refine sf_ite (fun c1 => ?_) (fun c2 => ?_)
    · skip
      try have tx5 : (v2 + 1).toInt = v2.toInt + 1 := i_add rfl (by decide) (by omega) (by omega)
      refine sl_X7_strengthAll_16 v2  h I_h (by omega) _ _ (fun v1_6 px6 => ?_)  fuel0 v1 (v2 + 1)  (by first | trivial | omega) (by have := fuel0_eq; omega)
      exact sl_X7_strengthAll_4    h I_h  k Q hk n v1_6 (v2 + 1) (by first | trivial | omega) (by omega)
    · skip
      exact hk v1 (by first | trivial | omega)
theorem s_X7_strengthAll (h : dH) (I_h : InvM h)   : Sf (f_X7_strengthAll  h) (fun r => True) := by
  unfold f_X7_strengthAll
  have tx7 : (0 : Int32).toInt = 0 := by decide
  refine sl_X7_strengthAll_4   h I_h  _ _ (fun v1_8 px8 => ?_)  fuel0 (0 : Int32) (0 : Int32)  (by first | trivial | omega) (by have := fuel0_eq; omega)
  exact sf_some (trivial)
theorem sl_X7_quietest_20 (v3 : Int32)  (h0 : dH) (I_h0 : InvM h0) (r_v3 : 0 ≤ v3.toInt ∧ v3.toInt ≤ 3) (k : Int32 → Int32 → dH → Option (Int32 × dH)) (Q : Int32 × dH → Prop) (hk : ∀ (v4 : Int32) (v5 : Int32) (g : dH) (Ig : InvM g) (e0 : g 0 3 = h0 0 3) (e1 : g 0 4 = h0 0 4) (e2 : g 0 13 = h0 0 13), True → Sf (k v4 v5 g) Q)  : ∀ (n : Nat) (v4 : Int32) (v5 : Int32) (v6 : Int32) (h : dH) (I_h : InvM h) (e0 : h 0 3 = h0 0 3) (e1 : h 0 4 = h0 0 4) (e2 : h 0 13 = h0 0 13), 0 ≤ v6.toInt ∧ v6.toInt ≤ 8 → 8 - v6.toInt < (n : Int) → Sf (l_X7_quietest_20 v3 k n v4 v5 v6 h) Q
  | 0, v4, v5, v6, h, I_h, e0, e1, e2, hi, hm => by omega
  | n + 1, v4, v5, v6, h, I_h, e0, e1, e2, hi, hm => by
    rw [l_X7_quietest_20]
    have yx4 := congrArg Int32.toInt e0
    have yx5 := congrArg Int32.toInt e1
    have yx6 := congrArg Int32.toInt e2
    have bx7 := I_h.1 0 13 (0) (8) rfl
    refine sf_ite (fun c3 => ?_) (fun c4 => ?_)
    · skip
      refine sf_guard (by omega) (fun c5 => ?_)
      refine sf_ite (fun c6 => ?_) (fun c7 => ?_)
      · skip
        refine sf_oI (s_X7_soundsOf h I_h v6 (by omega)) (fun r8 g9 pg9 => ?_)
        obtain ⟨I_g9, ex8, ex9, ex10, qg9⟩ := pg9
        try simp only at I_g9 ex8 ex9 ex10 qg9
        have yx11 := congrArg Int32.toInt ex8
        have yx12 := congrArg Int32.toInt ex9
        have yx13 := congrArg Int32.toInt ex10
        try have tx14 : (v4 + 1).toInt = v4.toInt + 1 := i_add rfl (by decide) (by omega) (by omega)
        try have tx15 : (v5 + r8).toInt = v5.toInt + r8.toInt := i_add rfl rfl (by omega) (by omega)
        try have tx16 : (v6 + 1).toInt = v6.toInt + 1 := i_add rfl (by decide) (by omega) (by omega)
        exact sl_X7_quietest_20  v3  h0 I_h0 r_v3 k Q hk n (v4 + 1) (v5 + r8) (v6 + 1) g9 I_g9 (ex8.trans e0) (ex9.trans e1) (ex10.trans e2) (by first | trivial | omega) (by omega)
      · skip
        try have tx17 : (v6 + 1).toInt = v6.toInt + 1 := i_add rfl (by decide) (by omega) (by omega)
        exact sl_X7_quietest_20  v3  h0 I_h0 r_v3 k Q hk n v4 v5 (v6 + 1) h I_h e0 e1 e2 (by first | trivial | omega) (by omega)
    · skip
      exact hk v4 v5 h I_h e0 e1 e2 (by first | trivial | omega)
theorem sl_X7_quietest_6   (h0 : dH) (I_h0 : InvM h0)  (k : Int32 → dH → Option (Int32 × dH)) (Q : Int32 × dH → Prop) (hk : ∀ (v1 : Int32) (g : dH) (Ig : InvM g) (e0 : g 0 3 = h0 0 3) (e1 : g 0 4 = h0 0 4) (e2 : g 0 13 = h0 0 13), True → Sf (k v1 g) Q)  : ∀ (n : Nat) (v1 : Int32) (v2 : Int32) (v3 : Int32) (h : dH) (I_h : InvM h) (e0 : h 0 3 = h0 0 3) (e1 : h 0 4 = h0 0 4) (e2 : h 0 13 = h0 0 13), 0 ≤ v3.toInt ∧ v3.toInt ≤ 4 → 4 - v3.toInt < (n : Int) → Sf (l_X7_quietest_6  k n v1 v2 v3 h) Q
  | 0, v1, v2, v3, h, I_h, e0, e1, e2, hi, hm => by omega
  | n + 1, v1, v2, v3, h, I_h, e0, e1, e2, hi, hm => by
    rw [l_X7_quietest_6]
    have yx1 := congrArg Int32.toInt e0
    have yx2 := congrArg Int32.toInt e1
    have yx3 := congrArg Int32.toInt e2
    refine sf_ite (fun c1 => ?_) (fun c2 => ?_)
    · skip
      have tx18 : (0 : Int32).toInt = 0 := by decide
      refine sl_X7_quietest_20 v3  h I_h (by omega) _ _ (fun v4_10 v5_11 g13 I_g13 eg13_0 eg13_1 eg13_2 px19 => ?_)  fuel0 (0 : Int32) (0 : Int32) (0 : Int32) h I_h rfl rfl rfl (by first | trivial | omega) (by have := fuel0_eq; omega)
      have yx20 := congrArg Int32.toInt eg13_0
      have yx21 := congrArg Int32.toInt eg13_1
      have yx22 := congrArg Int32.toInt eg13_2
      refine sf_ite (fun c14 => ?_) (fun c15 => ?_)
      · skip
        refine sf_ite (fun c16 => ?_) (fun c17 => ?_)
        · skip
          try have tx23 : (v3 + 1).toInt = v3.toInt + 1 := i_add rfl (by decide) (by omega) (by omega)
          exact sl_X7_quietest_6    h0 I_h0  k Q hk n v3 v5_11 (v3 + 1) g13 I_g13 (eg13_0.trans e0) (eg13_1.trans e1) (eg13_2.trans e2) (by first | trivial | omega) (by omega)
        · skip
          refine sf_ite (fun c18 => ?_) (fun c19 => ?_)
          · skip
            try have tx24 : (v3 + 1).toInt = v3.toInt + 1 := i_add rfl (by decide) (by omega) (by omega)
            exact sl_X7_quietest_6    h0 I_h0  k Q hk n v3 v5_11 (v3 + 1) g13 I_g13 (eg13_0.trans e0) (eg13_1.trans e1) (eg13_2.trans e2) (by first | trivial | omega) (by omega)
          · skip
            try have tx25 : (v3 + 1).toInt = v3.toInt + 1 := i_add rfl (by decide) (by omega) (by omega)
            exact sl_X7_quietest_6    h0 I_h0  k Q hk n v1 v2 (v3 + 1) g13 I_g13 (eg13_0.trans e0) (eg13_1.trans e1) (eg13_2.trans e2) (by first | trivial | omega) (by omega)
      · skip
        try have tx26 : (v3 + 1).toInt = v3.toInt + 1 := i_add rfl (by decide) (by omega) (by omega)
        exact sl_X7_quietest_6    h0 I_h0  k Q hk n v1 v2 (v3 + 1) g13 I_g13 (eg13_0.trans e0) (eg13_1.trans e1) (eg13_2.trans e2) (by first | trivial | omega) (by omega)
    · skip
      exact hk v1 h I_h e0 e1 e2 (by first | trivial | omega)
theorem s_X7_quietest (h : dH) (I_h : InvM h)   : Sf (f_X7_quietest  h) (fun o => InvM o.2 ∧ o.2 0 3 = h 0 3 ∧ o.2 0 4 = h 0 4 ∧ o.2 0 13 = h 0 13 ∧ True) := by
  unfold f_X7_quietest
  have tx27 : ((-1) : Int32).toInt = (-1) := by decide
  have tx28 : (0 : Int32).toInt = 0 := by decide
  refine sl_X7_quietest_6   h I_h  _ _ (fun v1_20 g26 I_g26 eg26_0 eg26_1 eg26_2 px29 => ?_)  fuel0 ((-1) : Int32) (0 : Int32) (0 : Int32) h I_h rfl rfl rfl (by first | trivial | omega) (by have := fuel0_eq; omega)
  have yx30 := congrArg Int32.toInt eg26_0
  have yx31 := congrArg Int32.toInt eg26_1
  have yx32 := congrArg Int32.toInt eg26_2
  exact sf_some (⟨I_g26, eg26_0, eg26_1, eg26_2, trivial⟩)
theorem s_X7_tellsOf (h : dH) (I_h : InvM h) (v1 : Int32)  : Sf (f_X7_tellsOf v1 h) (fun o => InvM o.2 ∧ o.2 0 3 = h 0 3 ∧ o.2 0 4 = h 0 4 ∧ o.2 0 13 = h 0 13 ∧ True) := by
  unfold f_X7_tellsOf
  have u_v1 := Int32.toInt_lt v1
  have w_v1 := Int32.le_toInt v1
  refine sf_oV (s_X7_waysAll h I_h ) (fun g1 pg1 => ?_)
  obtain ⟨I_g1, ex1, ex2, ex3, qg1⟩ := pg1
  try simp only at I_g1 ex1 ex2 ex3 qg1
  have yx4 := congrArg Int32.toInt ex1
  have yx5 := congrArg Int32.toInt ex2
  have yx6 := congrArg Int32.toInt ex3
  refine sf_ite (fun c2 => ?_) (fun c3 => ?_)
  · skip
    refine sf_oP (s_X7_friends g1 I_g1 ) (fun r4 pr4 => ?_)
    exact sf_some (⟨I_g1, ex1, ex2, ex3, trivial⟩)
  · skip
    refine sf_ite (fun c5 => ?_) (fun c6 => ?_)
    · skip
      refine sf_oP (s_X7_companies g1 I_g1 ) (fun r7 pr7 => ?_)
      exact sf_some (⟨I_g1, ex1, ex2, ex3, trivial⟩)
    · skip
      refine sf_ite (fun c8 => ?_) (fun c9 => ?_)
      · skip
        refine sf_oP (s_X7_largest g1 I_g1 ) (fun r10 pr10 => ?_)
        exact sf_some (⟨I_g1, ex1, ex2, ex3, trivial⟩)
      · skip
        refine sf_ite (fun c11 => ?_) (fun c12 => ?_)
        · skip
          refine sf_oP (s_X7_strengthAll g1 I_g1 ) (fun r13 pr13 => ?_)
          exact sf_some (⟨I_g1, ex1, ex2, ex3, trivial⟩)
        · skip
          have tx7 : (0 : Int32).toInt = 0 := by decide
          refine sf_oP (s_X7_longest g1 I_g1 (0 : Int32)) (fun r14 pr14 => ?_)
          exact sf_some (⟨I_g1, ex1, ex2, ex3, trivial⟩)
theorem s_X7_street (h : dH) (I_h : InvM h) (v1 : Int32)  : Sf (f_X7_street v1 h) (fun o => InvM o.2 ∧ o.2 0 3 = h 0 3 ∧ o.2 0 4 = h 0 4 ∧ o.2 0 13 = h 0 13 ∧ True) := by
  unfold f_X7_street
  have u_v1 := Int32.toInt_lt v1
  have w_v1 := Int32.le_toInt v1
  have tx1 : v1.toInt64.toInt = v1.toInt := l_i2l
  have tx2 : (0 : Int64).toInt = 0 := by decide
  have tx3 : (5 : Int64).toInt = 5 := by decide
  refine sf_oP (s_X7_in h I_h (v1.toInt64) 0 5) (fun r1 pr1 => ?_)
  refine sf_ite (fun c2 => ?_) (fun c3 => ?_)
  · skip
    exact sf_some (⟨I_h, rfl, rfl, rfl, trivial⟩)
  · skip
    refine sf_ite (fun c4 => ?_) (fun c5 => ?_)
    · skip
      refine sf_oI (s_X7_quietest h I_h ) (fun r6 g7 pg7 => ?_)
      obtain ⟨I_g7, ex4, ex5, ex6, qg7⟩ := pg7
      try simp only at I_g7 ex4 ex5 ex6 qg7
      have yx7 := congrArg Int32.toInt ex4
      have yx8 := congrArg Int32.toInt ex5
      have yx9 := congrArg Int32.toInt ex6
      exact sf_some (⟨I_g7, ex4, ex5, ex6, trivial⟩)
    · skip
      refine sf_oI (s_X7_tellsOf h I_h v1) (fun r8 g9 pg9 => ?_)
      obtain ⟨I_g9, ex10, ex11, ex12, qg9⟩ := pg9
      try simp only at I_g9 ex10 ex11 ex12 qg9
      have yx13 := congrArg Int32.toInt ex10
      have yx14 := congrArg Int32.toInt ex11
      have yx15 := congrArg Int32.toInt ex12
      exact sf_some (⟨I_g9, ex10, ex11, ex12, trivial⟩)
theorem s_X7_way (h : dH) (I_h : InvM h) (v1 : Int32) (v2 : Int32)  : Sf (f_X7_way v1 v2 h) (fun o => InvM o.2 ∧ o.2 0 3 = h 0 3 ∧ o.2 0 4 = h 0 4 ∧ o.2 0 13 = h 0 13 ∧ True) := by
  unfold f_X7_way
  have u_v1 := Int32.toInt_lt v1
  have w_v1 := Int32.le_toInt v1
  have u_v2 := Int32.toInt_lt v2
  have w_v2 := Int32.le_toInt v2
  refine sf_oP (s_X7_isHouse h I_h v1) (fun r1 pr1 => ?_)
  refine sf_ite (fun c2 => ?_) (fun c3 => ?_)
  · skip
    exact sf_some (⟨I_h, rfl, rfl, rfl, trivial⟩)
  · skip
    refine sf_oP (s_X7_isHouse h I_h v2) (fun r4 pr4 => ?_)
    refine sf_ite (fun c5 => ?_) (fun c6 => ?_)
    · skip
      exact sf_some (⟨I_h, rfl, rfl, rfl, trivial⟩)
    · skip
      refine sf_oV (s_X7_waysAll h I_h ) (fun g7 pg7 => ?_)
      obtain ⟨I_g7, ex1, ex2, ex3, qg7⟩ := pg7
      try simp only at I_g7 ex1 ex2 ex3 qg7
      have yx4 := congrArg Int32.toInt ex1
      have yx5 := congrArg Int32.toInt ex2
      have yx6 := congrArg Int32.toInt ex3
      try have tx7 : (8 * v1).toInt = 8 * v1.toInt := i_mul (by decide) rfl (by omega) (by omega)
      try have tx8 : ((8 * v1) + v2).toInt = (8 * v1).toInt + v2.toInt := i_add rfl rfl (by omega) (by omega)
      refine sf_guard (by omega) (fun c8 => ?_)
      exact sf_some (⟨I_g7, ex1, ex2, ex3, trivial⟩)
theorem sl_X7_laysAside_2   (h0 : dH) (I_h0 : InvM h0)  (k : dH → Option (dH)) (Q : dH → Prop) (hk : ∀  (g : dH) (Ig : InvM g) (e0 : g 0 3 = h0 0 3) (e1 : g 0 4 = h0 0 4) (e2 : g 0 13 = h0 0 13), True → Sf (k  g) Q)  : ∀ (n : Nat) (v1 : Int32) (h : dH) (I_h : InvM h) (e0 : h 0 3 = h0 0 3) (e1 : h 0 4 = h0 0 4) (e2 : h 0 13 = h0 0 13), 0 ≤ v1.toInt ∧ v1.toInt ≤ 64 → 64 - v1.toInt < (n : Int) → Sf (l_X7_laysAside_2  k n v1 h) Q
  | 0, v1, h, I_h, e0, e1, e2, hi, hm => by omega
  | n + 1, v1, h, I_h, e0, e1, e2, hi, hm => by
    rw [l_X7_laysAside_2]
    have yx1 := congrArg Int32.toInt e0
    have yx2 := congrArg Int32.toInt e1
    have yx3 := congrArg Int32.toInt e2
    refine sf_ite (fun c1 => ?_) (fun c2 => ?_)
    · skip
      refine sf_guard (by omega) (fun c3 => ?_)
      refine sf_guard (by omega) (fun c5 => ?_)
      refine sf_oH (fun g4 hg4 => ?_)
      have I_g4 : InvM g4 := by rw [hg4]; exact invM_free I_h rfl (by omega) (by omega)
      have ex4 : g4 0 3 = h 0 3 := by rw [hg4]; exact dU_ne (by omega)
      have yx5 := congrArg Int32.toInt ex4
      have ex6 : g4 0 4 = h 0 4 := by rw [hg4]; exact dU_ne (by omega)
      have yx7 := congrArg Int32.toInt ex6
      have ex8 : g4 0 13 = h 0 13 := by rw [hg4]; exact dU_ne (by omega)
      have yx9 := congrArg Int32.toInt ex8
      try have tx10 : (v1 + 1).toInt = v1.toInt + 1 := i_add rfl (by decide) (by omega) (by omega)
      exact sl_X7_laysAside_2    h0 I_h0  k Q hk n (v1 + 1) g4 I_g4 (ex4.trans e0) (ex6.trans e1) (ex8.trans e2) (by first | trivial | omega) (by omega)
    · skip
      exact hk  h I_h e0 e1 e2 (by first | trivial | omega)
theorem s_X7_laysAside (h : dH) (I_h : InvM h)   : Sf (f_X7_laysAside  h) (fun o => InvM o ∧ o 0 3 = h 0 3 ∧ o 0 4 = h 0 4 ∧ o 0 13 = h 0 13 ∧ True) := by
  unfold f_X7_laysAside
  have tx11 : (0 : Int32).toInt = 0 := by decide
  refine sl_X7_laysAside_2   h I_h  _ _ (fun g7 I_g7 eg7_0 eg7_1 eg7_2 px12 => ?_)  fuel0 (0 : Int32) h I_h rfl rfl rfl (by first | trivial | omega) (by have := fuel0_eq; omega)
  have yx13 := congrArg Int32.toInt eg7_0
  have yx14 := congrArg Int32.toInt eg7_1
  have yx15 := congrArg Int32.toInt eg7_2
  refine sf_oH (fun g8 hg8 => ?_)
  have I_g8 : InvM g8 := by rw [hg8]; exact invM_free I_g7 rfl (by omega) (by omega)
  have ex16 : g8 0 3 = g7 0 3 := by rw [hg8]; exact dU_ne (by omega)
  have yx17 := congrArg Int32.toInt ex16
  have ex18 : g8 0 4 = g7 0 4 := by rw [hg8]; exact dU_ne (by omega)
  have yx19 := congrArg Int32.toInt ex18
  have ex20 : g8 0 13 = g7 0 13 := by rw [hg8]; exact dU_ne (by omega)
  have yx21 := congrArg Int32.toInt ex20
  have yx22 : (g8 0 34).toInt = (g7 0 7).toInt := by rw [hg8, dU_eq]
  exact sf_some (⟨I_g8, (ex16.trans eg7_0), (ex18.trans eg7_1), (ex20.trans eg7_2), trivial⟩)
theorem sl_X7_laysBack_2   (h0 : dH) (I_h0 : InvM h0)  (k : dH → Option (dH)) (Q : dH → Prop) (hk : ∀  (g : dH) (Ig : InvM g) (e0 : g 0 3 = h0 0 3) (e1 : g 0 4 = h0 0 4) (e2 : g 0 13 = h0 0 13), True → Sf (k  g) Q)  : ∀ (n : Nat) (v1 : Int32) (h : dH) (I_h : InvM h) (e0 : h 0 3 = h0 0 3) (e1 : h 0 4 = h0 0 4) (e2 : h 0 13 = h0 0 13), 0 ≤ v1.toInt ∧ v1.toInt ≤ 64 → 64 - v1.toInt < (n : Int) → Sf (l_X7_laysBack_2  k n v1 h) Q
  | 0, v1, h, I_h, e0, e1, e2, hi, hm => by omega
  | n + 1, v1, h, I_h, e0, e1, e2, hi, hm => by
    rw [l_X7_laysBack_2]
    have yx1 := congrArg Int32.toInt e0
    have yx2 := congrArg Int32.toInt e1
    have yx3 := congrArg Int32.toInt e2
    refine sf_ite (fun c1 => ?_) (fun c2 => ?_)
    · skip
      refine sf_guard (by omega) (fun c3 => ?_)
      refine sf_guard (by omega) (fun c5 => ?_)
      refine sf_oH (fun g4 hg4 => ?_)
      have I_g4 : InvM g4 := by rw [hg4]; exact invM_free I_h rfl (by omega) (by omega)
      have ex4 : g4 0 3 = h 0 3 := by rw [hg4]; exact dU_ne (by omega)
      have yx5 := congrArg Int32.toInt ex4
      have ex6 : g4 0 4 = h 0 4 := by rw [hg4]; exact dU_ne (by omega)
      have yx7 := congrArg Int32.toInt ex6
      have ex8 : g4 0 13 = h 0 13 := by rw [hg4]; exact dU_ne (by omega)
      have yx9 := congrArg Int32.toInt ex8
      try have tx10 : (v1 + 1).toInt = v1.toInt + 1 := i_add rfl (by decide) (by omega) (by omega)
      exact sl_X7_laysBack_2    h0 I_h0  k Q hk n (v1 + 1) g4 I_g4 (ex4.trans e0) (ex6.trans e1) (ex8.trans e2) (by first | trivial | omega) (by omega)
    · skip
      exact hk  h I_h e0 e1 e2 (by first | trivial | omega)
theorem s_X7_laysBack (h : dH) (I_h : InvM h)   : Sf (f_X7_laysBack  h) (fun o => InvM o ∧ o 0 3 = h 0 3 ∧ o 0 4 = h 0 4 ∧ o 0 13 = h 0 13 ∧ True) := by
  unfold f_X7_laysBack
  have tx11 : (0 : Int32).toInt = 0 := by decide
  refine sl_X7_laysBack_2   h I_h  _ _ (fun g7 I_g7 eg7_0 eg7_1 eg7_2 px12 => ?_)  fuel0 (0 : Int32) h I_h rfl rfl rfl (by first | trivial | omega) (by have := fuel0_eq; omega)
  have yx13 := congrArg Int32.toInt eg7_0
  have yx14 := congrArg Int32.toInt eg7_1
  have yx15 := congrArg Int32.toInt eg7_2
  refine sf_oH (fun g8 hg8 => ?_)
  have I_g8 : InvM g8 := by rw [hg8]; exact invM_free I_g7 rfl (by omega) (by omega)
  have ex16 : g8 0 3 = g7 0 3 := by rw [hg8]; exact dU_ne (by omega)
  have yx17 := congrArg Int32.toInt ex16
  have ex18 : g8 0 4 = g7 0 4 := by rw [hg8]; exact dU_ne (by omega)
  have yx19 := congrArg Int32.toInt ex18
  have ex20 : g8 0 13 = g7 0 13 := by rw [hg8]; exact dU_ne (by omega)
  have yx21 := congrArg Int32.toInt ex20
  have yx22 : (g8 0 7).toInt = (g7 0 34).toInt := by rw [hg8, dU_eq]
  exact sf_some (⟨I_g8, (ex16.trans eg7_0), (ex18.trans eg7_1), (ex20.trans eg7_2), trivial⟩)
theorem sl_X7_lives_2 (v1 : Int32)  (h0 : dH) (I_h0 : InvM h0) (r_v1 : 0 ≤ v1.toInt ∧ v1.toInt ≤ 20) (k : dH → Option (dH)) (Q : dH → Prop) (hk : ∀  (g : dH) (Ig : InvM g) (e0 : g 0 3 = h0 0 3) (e1 : g 0 4 = h0 0 4) (e2 : g 0 13 = h0 0 13), True → Sf (k  g) Q)  : ∀ (n : Nat) (v2 : Int32) (h : dH) (I_h : InvM h) (e0 : h 0 3 = h0 0 3) (e1 : h 0 4 = h0 0 4) (e2 : h 0 13 = h0 0 13), 0 ≤ v2.toInt ∧ v2.toInt ≤ 20 → 20 - v2.toInt < (n : Int) → Sf (l_X7_lives_2 v1 k n v2 h) Q
  | 0, v2, h, I_h, e0, e1, e2, hi, hm => by omega
  | n + 1, v2, h, I_h, e0, e1, e2, hi, hm => by
    rw [l_X7_lives_2]
    have yx1 := congrArg Int32.toInt e0
    have yx2 := congrArg Int32.toInt e1
    have yx3 := congrArg Int32.toInt e2
    refine sf_ite (fun c1 => ?_) (fun c2 => ?_)
    · skip
      refine sf_oV (s_X7_feasts h I_h ) (fun g3 pg3 => ?_)
      obtain ⟨I_g3, ex4, ex5, ex6, qg3⟩ := pg3
      try simp only at I_g3 ex4 ex5 ex6 qg3
      have yx7 := congrArg Int32.toInt ex4
      have yx8 := congrArg Int32.toInt ex5
      have yx9 := congrArg Int32.toInt ex6
      refine sf_oV (s_X7_fades g3 I_g3 ) (fun g4 pg4 => ?_)
      obtain ⟨I_g4, ex10, ex11, ex12, qg4⟩ := pg4
      try simp only at I_g4 ex10 ex11 ex12 qg4
      have yx13 := congrArg Int32.toInt ex10
      have yx14 := congrArg Int32.toInt ex11
      have yx15 := congrArg Int32.toInt ex12
      try have tx16 : (v2 + 1).toInt = v2.toInt + 1 := i_add rfl (by decide) (by omega) (by omega)
      exact sl_X7_lives_2  v1  h0 I_h0 r_v1 k Q hk n (v2 + 1) g4 I_g4 (ex10.trans (ex4.trans e0)) (ex11.trans (ex5.trans e1)) (ex12.trans (ex6.trans e2)) (by first | trivial | omega) (by omega)
    · skip
      exact hk  h I_h e0 e1 e2 (by first | trivial | omega)
theorem s_X7_lives (h : dH) (I_h : InvM h) (v1 : Int32) (q0 : 0 ≤ v1.toInt ∧ v1.toInt ≤ 20) : Sf (f_X7_lives v1 h) (fun o => InvM o ∧ o 0 3 = h 0 3 ∧ o 0 4 = h 0 4 ∧ o 0 13 = h 0 13 ∧ True) := by
  unfold f_X7_lives
  have u_v1 := Int32.toInt_lt v1
  have w_v1 := Int32.le_toInt v1
  have tx17 : (0 : Int32).toInt = 0 := by decide
  refine sl_X7_lives_2 v1  h I_h (by omega) _ _ (fun g6 I_g6 eg6_0 eg6_1 eg6_2 px18 => ?_)  fuel0 (0 : Int32) h I_h rfl rfl rfl (by first | trivial | omega) (by have := fuel0_eq; omega)
  have yx19 := congrArg Int32.toInt eg6_0
  have yx20 := congrArg Int32.toInt eg6_1
  have yx21 := congrArg Int32.toInt eg6_2
  exact sf_some (⟨I_g6, eg6_0, eg6_1, eg6_2, trivial⟩)
theorem s_X7_run (h : dH) (I_h : InvM h) (v1 : Int32) (v2 : Int32)  : Sf (f_X7_run v1 v2 h) (fun o => InvM o.2 ∧ o.2 0 3 = h 0 3 ∧ o.2 0 4 = h 0 4 ∧ o.2 0 13 = h 0 13 ∧ True) := by
  unfold f_X7_run
  have u_v1 := Int32.toInt_lt v1
  have w_v1 := Int32.le_toInt v1
  have u_v2 := Int32.toInt_lt v2
  have w_v2 := Int32.le_toInt v2
  have tx1 : v1.toInt64.toInt = v1.toInt := l_i2l
  have tx2 : (0 : Int64).toInt = 0 := by decide
  have tx3 : (20 : Int64).toInt = 20 := by decide
  refine sf_oP (s_X7_in h I_h (v1.toInt64) 0 20) (fun r1 pr1 => ?_)
  refine sf_ite (fun c2 => ?_) (fun c3 => ?_)
  · skip
    exact sf_some (⟨I_h, rfl, rfl, rfl, trivial⟩)
  · skip
    have tx4 : v2.toInt64.toInt = v2.toInt := l_i2l
    have tx5 : (4 : Int64).toInt = 4 := by decide
    refine sf_oP (s_X7_in h I_h (v2.toInt64) 0 4) (fun r4 pr4 => ?_)
    refine sf_ite (fun c5 => ?_) (fun c6 => ?_)
    · skip
      exact sf_some (⟨I_h, rfl, rfl, rfl, trivial⟩)
    · skip
      refine sf_oV (s_X7_laysAside h I_h ) (fun g7 pg7 => ?_)
      obtain ⟨I_g7, ex6, ex7, ex8, qg7⟩ := pg7
      try simp only at I_g7 ex6 ex7 ex8 qg7
      have yx9 := congrArg Int32.toInt ex6
      have yx10 := congrArg Int32.toInt ex7
      have yx11 := congrArg Int32.toInt ex8
      refine sf_oV (s_X7_lives g7 I_g7 v1 (by omega)) (fun g8 pg8 => ?_)
      obtain ⟨I_g8, ex12, ex13, ex14, qg8⟩ := pg8
      try simp only at I_g8 ex12 ex13 ex14 qg8
      have yx15 := congrArg Int32.toInt ex12
      have yx16 := congrArg Int32.toInt ex13
      have yx17 := congrArg Int32.toInt ex14
      refine sf_oI (s_X7_tellsOf g8 I_g8 v2) (fun r9 g10 pg10 => ?_)
      obtain ⟨I_g10, ex18, ex19, ex20, qg10⟩ := pg10
      try simp only at I_g10 ex18 ex19 ex20 qg10
      have yx21 := congrArg Int32.toInt ex18
      have yx22 := congrArg Int32.toInt ex19
      have yx23 := congrArg Int32.toInt ex20
      refine sf_oV (s_X7_laysBack g10 I_g10 ) (fun g11 pg11 => ?_)
      obtain ⟨I_g11, ex24, ex25, ex26, qg11⟩ := pg11
      try simp only at I_g11 ex24 ex25 ex26 qg11
      have yx27 := congrArg Int32.toInt ex24
      have yx28 := congrArg Int32.toInt ex25
      have yx29 := congrArg Int32.toInt ex26
      exact sf_some (⟨I_g11, (ex24.trans (ex18.trans (ex12.trans ex6))), (ex25.trans (ex19.trans (ex13.trans ex7))), (ex26.trans (ex20.trans (ex14.trans ex8))), trivial⟩)
theorem s_X7_friendsBehind (h : dH) (I_h : InvM h) (v1 : Int32) (q0 : 0 ≤ v1.toInt ∧ v1.toInt ≤ 20) : Sf (f_X7_friendsBehind v1 h) (fun o => InvM o.2 ∧ o.2 0 3 = h 0 3 ∧ o.2 0 4 = h 0 4 ∧ o.2 0 13 = h 0 13 ∧ True) := by
  unfold f_X7_friendsBehind
  have u_v1 := Int32.toInt_lt v1
  have w_v1 := Int32.le_toInt v1
  refine sf_oV (s_X7_laysAside h I_h ) (fun g1 pg1 => ?_)
  obtain ⟨I_g1, ex1, ex2, ex3, qg1⟩ := pg1
  try simp only at I_g1 ex1 ex2 ex3 qg1
  have yx4 := congrArg Int32.toInt ex1
  have yx5 := congrArg Int32.toInt ex2
  have yx6 := congrArg Int32.toInt ex3
  refine sf_oV (s_X7_lives g1 I_g1 v1 (by omega)) (fun g2 pg2 => ?_)
  obtain ⟨I_g2, ex7, ex8, ex9, qg2⟩ := pg2
  try simp only at I_g2 ex7 ex8 ex9 qg2
  have yx10 := congrArg Int32.toInt ex7
  have yx11 := congrArg Int32.toInt ex8
  have yx12 := congrArg Int32.toInt ex9
  refine sf_oP (s_X7_friends g2 I_g2 ) (fun r3 pr3 => ?_)
  refine sf_oV (s_X7_laysBack g2 I_g2 ) (fun g4 pg4 => ?_)
  obtain ⟨I_g4, ex13, ex14, ex15, qg4⟩ := pg4
  try simp only at I_g4 ex13 ex14 ex15 qg4
  have yx16 := congrArg Int32.toInt ex13
  have yx17 := congrArg Int32.toInt ex14
  have yx18 := congrArg Int32.toInt ex15
  exact sf_some (⟨I_g4, (ex13.trans (ex7.trans ex1)), (ex14.trans (ex8.trans ex2)), (ex15.trans (ex9.trans ex3)), trivial⟩)
theorem sl_X7_takes_21 (v1 : Int32)  (h0 : dH) (I_h0 : InvM h0)  (k : Int32 → dH → Option (Int32 × dH)) (Q : Int32 × dH → Prop) (hk : ∀ (v2 : Int32) (g : dH) (Ig : InvM g) (e0 : g 0 3 = h0 0 3) (e1 : g 0 4 = h0 0 4) (e2 : g 0 13 = h0 0 13), 0 ≤ v2.toInt ∧ v2.toInt ≤ 21 → Sf (k v2 g) Q)  : ∀ (n : Nat) (v2 : Int32) (h : dH) (I_h : InvM h) (e0 : h 0 3 = h0 0 3) (e1 : h 0 4 = h0 0 4) (e2 : h 0 13 = h0 0 13), 0 ≤ v2.toInt ∧ v2.toInt ≤ 21 → 21 - v2.toInt < (n : Int) → Sf (l_X7_takes_21 v1 k n v2 h) Q
  | 0, v2, h, I_h, e0, e1, e2, hi, hm => by omega
  | n + 1, v2, h, I_h, e0, e1, e2, hi, hm => by
    rw [l_X7_takes_21]
    have yx10 := congrArg Int32.toInt e0
    have yx11 := congrArg Int32.toInt e1
    have yx12 := congrArg Int32.toInt e2
    refine sf_ite (fun c5 => ?_) (fun c6 => ?_)
    · skip
      exact hk v2 h I_h e0 e1 e2 (by first | trivial | omega)
    · skip
      refine sf_oP (s_X7_friends h I_h ) (fun r7 pr7 => ?_)
      refine sf_ite (fun c8 => ?_) (fun c9 => ?_)
      · skip
        have tx13 : (1 : Int32).toInt = 1 := by decide
        refine sf_oV (s_X7_lives h I_h (1 : Int32) (by omega)) (fun g10 pg10 => ?_)
        obtain ⟨I_g10, ex14, ex15, ex16, qg10⟩ := pg10
        try simp only at I_g10 ex14 ex15 ex16 qg10
        have yx17 := congrArg Int32.toInt ex14
        have yx18 := congrArg Int32.toInt ex15
        have yx19 := congrArg Int32.toInt ex16
        try have tx20 : (v2 + 1).toInt = v2.toInt + 1 := i_add rfl (by decide) (by omega) (by omega)
        exact sl_X7_takes_21  v1  h0 I_h0  k Q hk n (v2 + 1) g10 I_g10 (ex14.trans e0) (ex15.trans e1) (ex16.trans e2) (by first | trivial | omega) (by omega)
      · skip
        exact hk v2 h I_h e0 e1 e2 (by first | trivial | omega)
theorem s_X7_takes (h : dH) (I_h : InvM h) (v1 : Int32)  : Sf (f_X7_takes v1 h) (fun o => InvM o.2 ∧ o.2 0 3 = h 0 3 ∧ o.2 0 4 = h 0 4 ∧ o.2 0 13 = h 0 13 ∧ True) := by
  unfold f_X7_takes
  have u_v1 := Int32.toInt_lt v1
  have w_v1 := Int32.le_toInt v1
  have tx1 : v1.toInt64.toInt = v1.toInt := l_i2l
  have tx2 : (0 : Int64).toInt = 0 := by decide
  have tx3 : (28 : Int64).toInt = 28 := by decide
  refine sf_oP (s_X7_in h I_h (v1.toInt64) 0 28) (fun r1 pr1 => ?_)
  refine sf_ite (fun c2 => ?_) (fun c3 => ?_)
  · skip
    exact sf_some (⟨I_h, rfl, rfl, rfl, trivial⟩)
  · skip
    refine sf_oV (s_X7_laysAside h I_h ) (fun g4 pg4 => ?_)
    obtain ⟨I_g4, ex4, ex5, ex6, qg4⟩ := pg4
    try simp only at I_g4 ex4 ex5 ex6 qg4
    have yx7 := congrArg Int32.toInt ex4
    have yx8 := congrArg Int32.toInt ex5
    have yx9 := congrArg Int32.toInt ex6
    have tx21 : (0 : Int32).toInt = 0 := by decide
    refine sl_X7_takes_21 v1  g4 I_g4  _ _ (fun v2_11 g12 I_g12 eg12_0 eg12_1 eg12_2 px22 => ?_)  fuel0 (0 : Int32) g4 I_g4 rfl rfl rfl (by first | trivial | omega) (by have := fuel0_eq; omega)
    have yx23 := congrArg Int32.toInt eg12_0
    have yx24 := congrArg Int32.toInt eg12_1
    have yx25 := congrArg Int32.toInt eg12_2
    refine sf_oV (s_X7_laysBack g12 I_g12 ) (fun g13 pg13 => ?_)
    obtain ⟨I_g13, ex26, ex27, ex28, qg13⟩ := pg13
    try simp only at I_g13 ex26 ex27 ex28 qg13
    have yx29 := congrArg Int32.toInt ex26
    have yx30 := congrArg Int32.toInt ex27
    have yx31 := congrArg Int32.toInt ex28
    refine sf_ite (fun c14 => ?_) (fun c15 => ?_)
    · skip
      exact sf_some (⟨I_g13, (ex26.trans (eg12_0.trans ex4)), (ex27.trans (eg12_1.trans ex5)), (ex28.trans (eg12_2.trans ex6)), trivial⟩)
    · skip
      exact sf_some (⟨I_g13, (ex26.trans (eg12_0.trans ex4)), (ex27.trans (eg12_1.trans ex5)), (ex28.trans (eg12_2.trans ex6)), trivial⟩)
theorem sl_X7_best_50 (v1 : Int32) (v2 : Int32)  (h0 : dH) (I_h0 : InvM h0) (r_v1 : 0 ≤ v1.toInt ∧ v1.toInt ≤ 7) (r_v2 : 0 ≤ v2.toInt ∧ v2.toInt ≤ 20) (k : Int32 → Int32 → dH → Option (Int32 × dH)) (Q : Int32 × dH → Prop) (hk : ∀ (v5 : Int32) (v6 : Int32) (g : dH) (Ig : InvM g) (e0 : g 0 3 = h0 0 3) (e1 : g 0 4 = h0 0 4) (e2 : g 0 13 = h0 0 13), True → Sf (k v5 v6 g) Q)  : ∀ (n : Nat) (v5 : Int32) (v6 : Int32) (v7 : Int32) (h : dH) (I_h : InvM h) (e0 : h 0 3 = h0 0 3) (e1 : h 0 4 = h0 0 4) (e2 : h 0 13 = h0 0 13), 0 ≤ v7.toInt ∧ v7.toInt ≤ 4 → 4 - v7.toInt < (n : Int) → Sf (l_X7_best_50 v1 v2 k n v5 v6 v7 h) Q
  | 0, v5, v6, v7, h, I_h, e0, e1, e2, hi, hm => by omega
  | n + 1, v5, v6, v7, h, I_h, e0, e1, e2, hi, hm => by
    rw [l_X7_best_50]
    have yx6 := congrArg Int32.toInt e0
    have yx7 := congrArg Int32.toInt e1
    have yx8 := congrArg Int32.toInt e2
    refine sf_ite (fun c11 => ?_) (fun c12 => ?_)
    · skip
      refine sf_guard (by omega) (fun c14 => ?_)
      refine sf_oH (fun g13 hg13 => ?_)
      have I_g13 : InvM g13 := by rw [hg13]; exact invM_free I_h rfl (by omega) (by omega)
      have ex9 : g13 0 3 = h 0 3 := by rw [hg13]; exact dU_ne (by omega)
      have yx10 := congrArg Int32.toInt ex9
      have ex11 : g13 0 4 = h 0 4 := by rw [hg13]; exact dU_ne (by omega)
      have yx12 := congrArg Int32.toInt ex11
      have ex13 : g13 0 13 = h 0 13 := by rw [hg13]; exact dU_ne (by omega)
      have yx14 := congrArg Int32.toInt ex13
      refine sf_oI (s_X7_friendsBehind g13 I_g13 v2 (by omega)) (fun r15 g16 pg16 => ?_)
      obtain ⟨I_g16, ex15, ex16, ex17, qg16⟩ := pg16
      try simp only at I_g16 ex15 ex16 ex17 qg16
      have yx18 := congrArg Int32.toInt ex15
      have yx19 := congrArg Int32.toInt ex16
      have yx20 := congrArg Int32.toInt ex17
      refine sf_ite (fun c17 => ?_) (fun c18 => ?_)
      · skip
        try have tx21 : (v7 + 1).toInt = v7.toInt + 1 := i_add rfl (by decide) (by omega) (by omega)
        exact sl_X7_best_50  v1 v2  h0 I_h0 r_v1 r_v2 k Q hk n v7 r15 (v7 + 1) g16 I_g16 (ex15.trans (ex9.trans e0)) (ex16.trans (ex11.trans e1)) (ex17.trans (ex13.trans e2)) (by first | trivial | omega) (by omega)
      · skip
        try have tx22 : (v7 + 1).toInt = v7.toInt + 1 := i_add rfl (by decide) (by omega) (by omega)
        exact sl_X7_best_50  v1 v2  h0 I_h0 r_v1 r_v2 k Q hk n v5 v6 (v7 + 1) g16 I_g16 (ex15.trans (ex9.trans e0)) (ex16.trans (ex11.trans e1)) (ex17.trans (ex13.trans e2)) (by first | trivial | omega) (by omega)
    · skip
      exact hk v5 v6 h I_h e0 e1 e2 (by first | trivial | omega)
theorem s_X7_best (h : dH) (I_h : InvM h) (v1 : Int32) (v2 : Int32) (v3 : Int32)  : Sf (f_X7_best v1 v2 v3 h) (fun o => InvM o.2 ∧ o.2 0 3 = h 0 3 ∧ o.2 0 4 = h 0 4 ∧ o.2 0 13 = h 0 13 ∧ True) := by
  unfold f_X7_best
  have u_v1 := Int32.toInt_lt v1
  have w_v1 := Int32.le_toInt v1
  have u_v2 := Int32.toInt_lt v2
  have w_v2 := Int32.le_toInt v2
  have u_v3 := Int32.toInt_lt v3
  have w_v3 := Int32.le_toInt v3
  refine sf_oP (s_X7_isHouse h I_h v1) (fun r1 pr1 => ?_)
  refine sf_ite (fun c2 => ?_) (fun c3 => ?_)
  · skip
    exact sf_some (⟨I_h, rfl, rfl, rfl, trivial⟩)
  · skip
    have tx1 : v2.toInt64.toInt = v2.toInt := l_i2l
    have tx2 : (0 : Int64).toInt = 0 := by decide
    have tx3 : (20 : Int64).toInt = 20 := by decide
    refine sf_oP (s_X7_in h I_h (v2.toInt64) 0 20) (fun r4 pr4 => ?_)
    refine sf_ite (fun c5 => ?_) (fun c6 => ?_)
    · skip
      exact sf_some (⟨I_h, rfl, rfl, rfl, trivial⟩)
    · skip
      have tx4 : v3.toInt64.toInt = v3.toInt := l_i2l
      have tx5 : (1 : Int64).toInt = 1 := by decide
      refine sf_oP (s_X7_in h I_h (v3.toInt64) 0 1) (fun r7 pr7 => ?_)
      refine sf_ite (fun c8 => ?_) (fun c9 => ?_)
      · skip
        exact sf_some (⟨I_h, rfl, rfl, rfl, trivial⟩)
      · skip
        refine sf_guard (by omega) (fun c10 => ?_)
        have tx23 : ((-1) : Int32).toInt = (-1) := by decide
        have tx24 : (0 : Int32).toInt = 0 := by decide
        refine sl_X7_best_50 v1 v2  h I_h (by omega) (by omega) _ _ (fun v5_19 v6_20 g23 I_g23 eg23_0 eg23_1 eg23_2 px25 => ?_)  fuel0 ((-1) : Int32) ((-1) : Int32) (0 : Int32) h I_h rfl rfl rfl (by first | trivial | omega) (by have := fuel0_eq; omega)
        have yx26 := congrArg Int32.toInt eg23_0
        have yx27 := congrArg Int32.toInt eg23_1
        have yx28 := congrArg Int32.toInt eg23_2
        refine sf_guard (by omega) (fun c25 => ?_)
        refine sf_oH (fun g24 hg24 => ?_)
        have I_g24 : InvM g24 := by rw [hg24]; exact invM_free I_g23 rfl (by omega) (by omega)
        have ex29 : g24 0 3 = g23 0 3 := by rw [hg24]; exact dU_ne (by omega)
        have yx30 := congrArg Int32.toInt ex29
        have ex31 : g24 0 4 = g23 0 4 := by rw [hg24]; exact dU_ne (by omega)
        have yx32 := congrArg Int32.toInt ex31
        have ex33 : g24 0 13 = g23 0 13 := by rw [hg24]; exact dU_ne (by omega)
        have yx34 := congrArg Int32.toInt ex33
        refine sf_ite (fun c26 => ?_) (fun c27 => ?_)
        · skip
          exact sf_some (⟨I_g24, (ex29.trans eg23_0), (ex31.trans eg23_1), (ex33.trans eg23_2), trivial⟩)
        · skip
          exact sf_some (⟨I_g24, (ex29.trans eg23_0), (ex31.trans eg23_1), (ex33.trans eg23_2), trivial⟩)
theorem sl_X7_change_52 (v1 : Int32) (v5 : Int32)  (h0 : dH) (I_h0 : InvM h0) (r_v1 : 0 ≤ v1.toInt ∧ v1.toInt ≤ 20) (r_v5 : 0 ≤ v5.toInt ∧ v5.toInt ≤ 7) (k : Int32 → Int32 → dH → Option (Int32 × dH)) (Q : Int32 × dH → Prop) (hk : ∀ (v3 : Int32) (v4 : Int32) (g : dH) (Ig : InvM g) (e0 : g 0 3 = h0 0 3) (e1 : g 0 4 = h0 0 4) (e2 : g 0 13 = h0 0 13), True → Sf (k v3 v4 g) Q)  : ∀ (n : Nat) (v3 : Int32) (v4 : Int32) (v6 : Int32) (h : dH) (I_h : InvM h) (e0 : h 0 3 = h0 0 3) (e1 : h 0 4 = h0 0 4) (e2 : h 0 13 = h0 0 13), 0 ≤ v6.toInt ∧ v6.toInt ≤ 8 → 8 - v6.toInt < (n : Int) → Sf (l_X7_change_52 v1 v5 k n v3 v4 v6 h) Q
  | 0, v3, v4, v6, h, I_h, e0, e1, e2, hi, hm => by omega
  | n + 1, v3, v4, v6, h, I_h, e0, e1, e2, hi, hm => by
    rw [l_X7_change_52]
    have yx16 := congrArg Int32.toInt e0
    have yx17 := congrArg Int32.toInt e1
    have yx18 := congrArg Int32.toInt e2
    have bx19 := I_h.1 0 13 (0) (8) rfl
    refine sf_ite (fun c11 => ?_) (fun c12 => ?_)
    · skip
      refine sf_guard (by omega) (fun c13 => ?_)
      refine sf_guard (by omega) (fun c14 => ?_)
      refine sf_ite (fun c15 => ?_) (fun c16 => ?_)
      · skip
        try have tx20 : (v6 + 1).toInt = v6.toInt + 1 := i_add rfl (by decide) (by omega) (by omega)
        exact sl_X7_change_52  v1 v5  h0 I_h0 r_v1 r_v5 k Q hk n v3 v4 (v6 + 1) h I_h e0 e1 e2 (by first | trivial | omega) (by omega)
      · skip
        refine sf_ite (fun c17 => ?_) (fun c18 => ?_)
        · skip
          try have tx21 : (v6 + 1).toInt = v6.toInt + 1 := i_add rfl (by decide) (by omega) (by omega)
          exact sl_X7_change_52  v1 v5  h0 I_h0 r_v1 r_v5 k Q hk n v3 v4 (v6 + 1) h I_h e0 e1 e2 (by first | trivial | omega) (by omega)
        · skip
          refine sf_ite (fun c19 => ?_) (fun c20 => ?_)
          · skip
            try have tx22 : (v6 + 1).toInt = v6.toInt + 1 := i_add rfl (by decide) (by omega) (by omega)
            exact sl_X7_change_52  v1 v5  h0 I_h0 r_v1 r_v5 k Q hk n v3 v4 (v6 + 1) h I_h e0 e1 e2 (by first | trivial | omega) (by omega)
          · skip
            refine sf_guard (by omega) (fun c22 => ?_)
            refine sf_oH (fun g21 hg21 => ?_)
            have I_g21 : InvM g21 := by rw [hg21]; exact invM_free I_h rfl (by omega) (by omega)
            have ex23 : g21 0 3 = h 0 3 := by rw [hg21]; exact dU_ne (by omega)
            have yx24 := congrArg Int32.toInt ex23
            have ex25 : g21 0 4 = h 0 4 := by rw [hg21]; exact dU_ne (by omega)
            have yx26 := congrArg Int32.toInt ex25
            have ex27 : g21 0 13 = h 0 13 := by rw [hg21]; exact dU_ne (by omega)
            have yx28 := congrArg Int32.toInt ex27
            refine sf_guard (by omega) (fun c24 => ?_)
            refine sf_oH (fun g23 hg23 => ?_)
            have I_g23 : InvM g23 := by rw [hg23]; exact invM_free I_g21 rfl (by omega) (by omega)
            have ex29 : g23 0 3 = g21 0 3 := by rw [hg23]; exact dU_ne (by omega)
            have yx30 := congrArg Int32.toInt ex29
            have ex31 : g23 0 4 = g21 0 4 := by rw [hg23]; exact dU_ne (by omega)
            have yx32 := congrArg Int32.toInt ex31
            have ex33 : g23 0 13 = g21 0 13 := by rw [hg23]; exact dU_ne (by omega)
            have yx34 := congrArg Int32.toInt ex33
            refine sf_oI (s_X7_friendsBehind g23 I_g23 v1 (by omega)) (fun r25 g26 pg26 => ?_)
            obtain ⟨I_g26, ex35, ex36, ex37, qg26⟩ := pg26
            try simp only at I_g26 ex35 ex36 ex37 qg26
            have yx38 := congrArg Int32.toInt ex35
            have yx39 := congrArg Int32.toInt ex36
            have yx40 := congrArg Int32.toInt ex37
            refine sf_guard (by omega) (fun c28 => ?_)
            refine sf_oH (fun g27 hg27 => ?_)
            have I_g27 : InvM g27 := by rw [hg27]; exact invM_free I_g26 rfl (by omega) (by omega)
            have ex41 : g27 0 3 = g26 0 3 := by rw [hg27]; exact dU_ne (by omega)
            have yx42 := congrArg Int32.toInt ex41
            have ex43 : g27 0 4 = g26 0 4 := by rw [hg27]; exact dU_ne (by omega)
            have yx44 := congrArg Int32.toInt ex43
            have ex45 : g27 0 13 = g26 0 13 := by rw [hg27]; exact dU_ne (by omega)
            have yx46 := congrArg Int32.toInt ex45
            refine sf_guard (by omega) (fun c30 => ?_)
            refine sf_oH (fun g29 hg29 => ?_)
            have I_g29 : InvM g29 := by rw [hg29]; exact invM_free I_g27 rfl (by omega) (by omega)
            have ex47 : g29 0 3 = g27 0 3 := by rw [hg29]; exact dU_ne (by omega)
            have yx48 := congrArg Int32.toInt ex47
            have ex49 : g29 0 4 = g27 0 4 := by rw [hg29]; exact dU_ne (by omega)
            have yx50 := congrArg Int32.toInt ex49
            have ex51 : g29 0 13 = g27 0 13 := by rw [hg29]; exact dU_ne (by omega)
            have yx52 := congrArg Int32.toInt ex51
            refine sf_ite (fun c31 => ?_) (fun c32 => ?_)
            · skip
              try have tx53 : (10 * v5).toInt = 10 * v5.toInt := i_mul (by decide) rfl (by omega) (by omega)
              try have tx54 : ((10 * v5) + v6).toInt = (10 * v5).toInt + v6.toInt := i_add rfl rfl (by omega) (by omega)
              try have tx55 : (v6 + 1).toInt = v6.toInt + 1 := i_add rfl (by decide) (by omega) (by omega)
              exact sl_X7_change_52  v1 v5  h0 I_h0 r_v1 r_v5 k Q hk n ((10 * v5) + v6) r25 (v6 + 1) g29 I_g29 (ex47.trans (ex41.trans (ex35.trans (ex29.trans (ex23.trans e0))))) (ex49.trans (ex43.trans (ex36.trans (ex31.trans (ex25.trans e1))))) (ex51.trans (ex45.trans (ex37.trans (ex33.trans (ex27.trans e2))))) (by first | trivial | omega) (by omega)
            · skip
              try have tx56 : (v6 + 1).toInt = v6.toInt + 1 := i_add rfl (by decide) (by omega) (by omega)
              exact sl_X7_change_52  v1 v5  h0 I_h0 r_v1 r_v5 k Q hk n v3 v4 (v6 + 1) g29 I_g29 (ex47.trans (ex41.trans (ex35.trans (ex29.trans (ex23.trans e0))))) (ex49.trans (ex43.trans (ex36.trans (ex31.trans (ex25.trans e1))))) (ex51.trans (ex45.trans (ex37.trans (ex33.trans (ex27.trans e2))))) (by first | trivial | omega) (by omega)
    · skip
      exact hk v3 v4 h I_h e0 e1 e2 (by first | trivial | omega)
theorem sl_X7_change_37 (v1 : Int32)  (h0 : dH) (I_h0 : InvM h0) (r_v1 : 0 ≤ v1.toInt ∧ v1.toInt ≤ 20) (k : Int32 → Int32 → dH → Option (Int32 × dH)) (Q : Int32 × dH → Prop) (hk : ∀ (v3 : Int32) (v4 : Int32) (g : dH) (Ig : InvM g) (e0 : g 0 3 = h0 0 3) (e1 : g 0 4 = h0 0 4) (e2 : g 0 13 = h0 0 13), True → Sf (k v3 v4 g) Q)  : ∀ (n : Nat) (v3 : Int32) (v4 : Int32) (v5 : Int32) (h : dH) (I_h : InvM h) (e0 : h 0 3 = h0 0 3) (e1 : h 0 4 = h0 0 4) (e2 : h 0 13 = h0 0 13), 0 ≤ v5.toInt ∧ v5.toInt ≤ 8 → 8 - v5.toInt < (n : Int) → Sf (l_X7_change_37 v1 k n v3 v4 v5 h) Q
  | 0, v3, v4, v5, h, I_h, e0, e1, e2, hi, hm => by omega
  | n + 1, v3, v4, v5, h, I_h, e0, e1, e2, hi, hm => by
    rw [l_X7_change_37]
    have yx12 := congrArg Int32.toInt e0
    have yx13 := congrArg Int32.toInt e1
    have yx14 := congrArg Int32.toInt e2
    have bx15 := I_h.1 0 13 (0) (8) rfl
    refine sf_ite (fun c9 => ?_) (fun c10 => ?_)
    · skip
      try have tx57 : (v5 + 1).toInt = v5.toInt + 1 := i_add rfl (by decide) (by omega) (by omega)
      refine sl_X7_change_52 v1 v5  h I_h (by omega) (by omega) _ _ (fun v3_33 v4_34 g39 I_g39 eg39_0 eg39_1 eg39_2 px58 => ?_)  fuel0 v3 v4 (v5 + 1) h I_h rfl rfl rfl (by first | trivial | omega) (by have := fuel0_eq; omega)
      have yx59 := congrArg Int32.toInt eg39_0
      have yx60 := congrArg Int32.toInt eg39_1
      have yx61 := congrArg Int32.toInt eg39_2
      exact sl_X7_change_37  v1  h0 I_h0 r_v1 k Q hk n v3_33 v4_34 (v5 + 1) g39 I_g39 (eg39_0.trans e0) (eg39_1.trans e1) (eg39_2.trans e2) (by first | trivial | omega) (by omega)
    · skip
      exact hk v3 v4 h I_h e0 e1 e2 (by first | trivial | omega)
theorem s_X7_change (h : dH) (I_h : InvM h) (v1 : Int32) (v2 : Int32)  : Sf (f_X7_change v1 v2 h) (fun o => InvM o.2 ∧ o.2 0 3 = h 0 3 ∧ o.2 0 4 = h 0 4 ∧ o.2 0 13 = h 0 13 ∧ True) := by
  unfold f_X7_change
  have u_v1 := Int32.toInt_lt v1
  have w_v1 := Int32.le_toInt v1
  have u_v2 := Int32.toInt_lt v2
  have w_v2 := Int32.le_toInt v2
  have tx1 : v1.toInt64.toInt = v1.toInt := l_i2l
  have tx2 : (0 : Int64).toInt = 0 := by decide
  have tx3 : (20 : Int64).toInt = 20 := by decide
  refine sf_oP (s_X7_in h I_h (v1.toInt64) 0 20) (fun r1 pr1 => ?_)
  refine sf_ite (fun c2 => ?_) (fun c3 => ?_)
  · skip
    exact sf_some (⟨I_h, rfl, rfl, rfl, trivial⟩)
  · skip
    have tx4 : v2.toInt64.toInt = v2.toInt := l_i2l
    have tx5 : (1 : Int64).toInt = 1 := by decide
    refine sf_oP (s_X7_in h I_h (v2.toInt64) 0 1) (fun r4 pr4 => ?_)
    refine sf_ite (fun c5 => ?_) (fun c6 => ?_)
    · skip
      exact sf_some (⟨I_h, rfl, rfl, rfl, trivial⟩)
    · skip
      refine sf_oI (s_X7_friendsBehind h I_h v1 (by omega)) (fun r7 g8 pg8 => ?_)
      obtain ⟨I_g8, ex6, ex7, ex8, qg8⟩ := pg8
      try simp only at I_g8 ex6 ex7 ex8 qg8
      have yx9 := congrArg Int32.toInt ex6
      have yx10 := congrArg Int32.toInt ex7
      have yx11 := congrArg Int32.toInt ex8
      have tx62 : ((-1) : Int32).toInt = (-1) := by decide
      have tx63 : (0 : Int32).toInt = 0 := by decide
      refine sl_X7_change_37 v1  g8 I_g8 (by omega) _ _ (fun v3_40 v4_41 g47 I_g47 eg47_0 eg47_1 eg47_2 px64 => ?_)  fuel0 ((-1) : Int32) r7 (0 : Int32) g8 I_g8 rfl rfl rfl (by first | trivial | omega) (by have := fuel0_eq; omega)
      have yx65 := congrArg Int32.toInt eg47_0
      have yx66 := congrArg Int32.toInt eg47_1
      have yx67 := congrArg Int32.toInt eg47_2
      refine sf_ite (fun c48 => ?_) (fun c49 => ?_)
      · skip
        exact sf_some (⟨I_g47, (eg47_0.trans ex6), (eg47_1.trans ex7), (eg47_2.trans ex8), trivial⟩)
      · skip
        exact sf_some (⟨I_g47, (eg47_0.trans ex6), (eg47_1.trans ex7), (eg47_2.trans ex8), trivial⟩)
theorem sl_X7_clears_2   (h0 : dH) (I_h0 : InvM h0)  (k : dH → Option (dH)) (Q : dH → Prop) (hk : ∀  (g : dH) (Ig : InvM g) (e0 : g 0 3 = h0 0 3) (e1 : g 0 4 = h0 0 4) (e2 : g 0 13 = h0 0 13), True → Sf (k  g) Q)  : ∀ (n : Nat) (v1 : Int32) (h : dH) (I_h : InvM h) (e0 : h 0 3 = h0 0 3) (e1 : h 0 4 = h0 0 4) (e2 : h 0 13 = h0 0 13), 0 ≤ v1.toInt ∧ v1.toInt ≤ 8 → 8 - v1.toInt < (n : Int) → Sf (l_X7_clears_2  k n v1 h) Q
  | 0, v1, h, I_h, e0, e1, e2, hi, hm => by omega
  | n + 1, v1, h, I_h, e0, e1, e2, hi, hm => by
    rw [l_X7_clears_2]
    have yx1 := congrArg Int32.toInt e0
    have yx2 := congrArg Int32.toInt e1
    have yx3 := congrArg Int32.toInt e2
    have bx4 := I_h.1 0 13 (0) (8) rfl
    refine sf_ite (fun c1 => ?_) (fun c2 => ?_)
    · skip
      refine sf_guard (by omega) (fun c3 => ?_)
      refine sf_guard (by omega) (fun c5 => ?_)
      refine sf_oH (fun g4 hg4 => ?_)
      have I_g4 : InvM g4 := by rw [hg4]; exact invM_free I_h rfl (by omega) (by omega)
      have ex5 : g4 0 3 = h 0 3 := by rw [hg4]; exact dU_ne (by omega)
      have yx6 := congrArg Int32.toInt ex5
      have ex7 : g4 0 4 = h 0 4 := by rw [hg4]; exact dU_ne (by omega)
      have yx8 := congrArg Int32.toInt ex7
      have ex9 : g4 0 13 = h 0 13 := by rw [hg4]; exact dU_ne (by omega)
      have yx10 := congrArg Int32.toInt ex9
      try have tx11 : (v1 + 1).toInt = v1.toInt + 1 := i_add rfl (by decide) (by omega) (by omega)
      exact sl_X7_clears_2    h0 I_h0  k Q hk n (v1 + 1) g4 I_g4 (ex5.trans e0) (ex7.trans e1) (ex9.trans e2) (by first | trivial | omega) (by omega)
    · skip
      exact hk  h I_h e0 e1 e2 (by first | trivial | omega)
theorem s_X7_clears (h : dH) (I_h : InvM h)   : Sf (f_X7_clears  h) (fun o => InvM o ∧ o 0 3 = h 0 3 ∧ o 0 4 = h 0 4 ∧ o 0 13 = h 0 13 ∧ True) := by
  unfold f_X7_clears
  have tx12 : (0 : Int32).toInt = 0 := by decide
  refine sl_X7_clears_2   h I_h  _ _ (fun g7 I_g7 eg7_0 eg7_1 eg7_2 px13 => ?_)  fuel0 (0 : Int32) h I_h rfl rfl rfl (by first | trivial | omega) (by have := fuel0_eq; omega)
  have yx14 := congrArg Int32.toInt eg7_0
  have yx15 := congrArg Int32.toInt eg7_1
  have yx16 := congrArg Int32.toInt eg7_2
  exact sf_some (⟨I_g7, eg7_0, eg7_1, eg7_2, trivial⟩)
theorem sl_X7_sitsAgain_2   (h0 : dH) (I_h0 : InvM h0)  (k : dH → Option (dH)) (Q : dH → Prop) (hk : ∀  (g : dH) (Ig : InvM g) (e0 : g 0 3 = h0 0 3) (e1 : g 0 4 = h0 0 4) (e2 : g 0 13 = h0 0 13), True → Sf (k  g) Q)  : ∀ (n : Nat) (v1 : Int32) (h : dH) (I_h : InvM h) (e0 : h 0 3 = h0 0 3) (e1 : h 0 4 = h0 0 4) (e2 : h 0 13 = h0 0 13), 0 ≤ v1.toInt ∧ v1.toInt ≤ 8 → 8 - v1.toInt < (n : Int) → Sf (l_X7_sitsAgain_2  k n v1 h) Q
  | 0, v1, h, I_h, e0, e1, e2, hi, hm => by omega
  | n + 1, v1, h, I_h, e0, e1, e2, hi, hm => by
    rw [l_X7_sitsAgain_2]
    have yx1 := congrArg Int32.toInt e0
    have yx2 := congrArg Int32.toInt e1
    have yx3 := congrArg Int32.toInt e2
    have bx4 := I_h.1 0 13 (0) (8) rfl
    refine sf_ite (fun c1 => ?_) (fun c2 => ?_)
    · skip
      refine sf_guard (by omega) (fun c3 => ?_)
      refine sf_guard (by omega) (fun c5 => ?_)
      refine sf_oH (fun g4 hg4 => ?_)
      have I_g4 : InvM g4 := by rw [hg4]; exact invM_free I_h rfl (by omega) (by omega)
      have ex5 : g4 0 3 = h 0 3 := by rw [hg4]; exact dU_ne (by omega)
      have yx6 := congrArg Int32.toInt ex5
      have ex7 : g4 0 4 = h 0 4 := by rw [hg4]; exact dU_ne (by omega)
      have yx8 := congrArg Int32.toInt ex7
      have ex9 : g4 0 13 = h 0 13 := by rw [hg4]; exact dU_ne (by omega)
      have yx10 := congrArg Int32.toInt ex9
      try have tx11 : (v1 + 1).toInt = v1.toInt + 1 := i_add rfl (by decide) (by omega) (by omega)
      exact sl_X7_sitsAgain_2    h0 I_h0  k Q hk n (v1 + 1) g4 I_g4 (ex5.trans e0) (ex7.trans e1) (ex9.trans e2) (by first | trivial | omega) (by omega)
    · skip
      exact hk  h I_h e0 e1 e2 (by first | trivial | omega)
theorem s_X7_sitsAgain (h : dH) (I_h : InvM h)   : Sf (f_X7_sitsAgain  h) (fun o => InvM o ∧ o 0 3 = h 0 3 ∧ o 0 4 = h 0 4 ∧ o 0 13 = h 0 13 ∧ True) := by
  unfold f_X7_sitsAgain
  have tx12 : (0 : Int32).toInt = 0 := by decide
  refine sl_X7_sitsAgain_2   h I_h  _ _ (fun g7 I_g7 eg7_0 eg7_1 eg7_2 px13 => ?_)  fuel0 (0 : Int32) h I_h rfl rfl rfl (by first | trivial | omega) (by have := fuel0_eq; omega)
  have yx14 := congrArg Int32.toInt eg7_0
  have yx15 := congrArg Int32.toInt eg7_1
  have yx16 := congrArg Int32.toInt eg7_2
  exact sf_some (⟨I_g7, eg7_0, eg7_1, eg7_2, trivial⟩)
theorem sl_X7_split_51 (v5 : Int32)  (h0 : dH) (I_h0 : InvM h0) (r_v5 : 0 ≤ v5.toInt ∧ v5.toInt ≤ 255) (k : dH → Option (Int32 × dH)) (Q : Int32 × dH → Prop) (hk : ∀  (g : dH) (Ig : InvM g) (e0 : g 0 3 = h0 0 3) (e1 : g 0 4 = h0 0 4) (e2 : g 0 13 = h0 0 13), True → Sf (k  g) Q)  : ∀ (n : Nat) (v6 : Int32) (h : dH) (I_h : InvM h) (e0 : h 0 3 = h0 0 3) (e1 : h 0 4 = h0 0 4) (e2 : h 0 13 = h0 0 13), 0 ≤ v6.toInt ∧ v6.toInt ≤ 8 → 8 - v6.toInt < (n : Int) → Sf (l_X7_split_51 v5 k n v6 h) Q
  | 0, v6, h, I_h, e0, e1, e2, hi, hm => by omega
  | n + 1, v6, h, I_h, e0, e1, e2, hi, hm => by
    rw [l_X7_split_51]
    have yx17 := congrArg Int32.toInt e0
    have yx18 := congrArg Int32.toInt e1
    have yx19 := congrArg Int32.toInt e2
    have bx20 := I_h.1 0 13 (0) (8) rfl
    refine sf_ite (fun c10 => ?_) (fun c11 => ?_)
    · skip
      refine sf_guard (by omega) (fun c13 => ?_)
      refine sf_oH (fun g12 hg12 => ?_)
      have I_g12 : InvM g12 := by rw [hg12]; exact invM_free I_h rfl (by omega) (by omega)
      have ex21 : g12 0 3 = h 0 3 := by rw [hg12]; exact dU_ne (by omega)
      have yx22 := congrArg Int32.toInt ex21
      have ex23 : g12 0 4 = h 0 4 := by rw [hg12]; exact dU_ne (by omega)
      have yx24 := congrArg Int32.toInt ex23
      have ex25 : g12 0 13 = h 0 13 := by rw [hg12]; exact dU_ne (by omega)
      have yx26 := congrArg Int32.toInt ex25
      try have tx27 : (v6 + 1).toInt = v6.toInt + 1 := i_add rfl (by decide) (by omega) (by omega)
      exact sl_X7_split_51  v5  h0 I_h0 r_v5 k Q hk n (v6 + 1) g12 I_g12 (ex21.trans e0) (ex23.trans e1) (ex25.trans e2) (by first | trivial | omega) (by omega)
    · skip
      exact hk  h I_h e0 e1 e2 (by first | trivial | omega)
theorem sl_X7_split_37 (v1 : Int32)  (h0 : dH) (I_h0 : InvM h0) (r_v1 : 0 ≤ v1.toInt ∧ v1.toInt ≤ 20) (k : Int32 → Int32 → dH → Option (Int32 × dH)) (Q : Int32 × dH → Prop) (hk : ∀ (v3 : Int32) (v4 : Int32) (g : dH) (Ig : InvM g) (e0 : g 0 3 = h0 0 3) (e1 : g 0 4 = h0 0 4) (e2 : g 0 13 = h0 0 13), True → Sf (k v3 v4 g) Q)  : ∀ (n : Nat) (v3 : Int32) (v4 : Int32) (v5 : Int32) (h : dH) (I_h : InvM h) (e0 : h 0 3 = h0 0 3) (e1 : h 0 4 = h0 0 4) (e2 : h 0 13 = h0 0 13), 0 ≤ v5.toInt ∧ v5.toInt ≤ 256 → 256 - v5.toInt < (n : Int) → Sf (l_X7_split_37 v1 k n v3 v4 v5 h) Q
  | 0, v3, v4, v5, h, I_h, e0, e1, e2, hi, hm => by omega
  | n + 1, v3, v4, v5, h, I_h, e0, e1, e2, hi, hm => by
    rw [l_X7_split_37]
    have yx12 := congrArg Int32.toInt e0
    have yx13 := congrArg Int32.toInt e1
    have yx14 := congrArg Int32.toInt e2
    have bx15 := I_h.1 0 13 (0) (8) rfl
    try have tx16 := dshl1_ok (y := (h 0 13)) (by omega) (by omega)
    refine sf_ite (fun c8 => ?_) (fun c9 => ?_)
    · skip
      have tx28 : (0 : Int32).toInt = 0 := by decide
      refine sl_X7_split_51 v5  h I_h (by omega) _ _ (fun g15 I_g15 eg15_0 eg15_1 eg15_2 px29 => ?_)  fuel0 (0 : Int32) h I_h rfl rfl rfl (by first | trivial | omega) (by have := fuel0_eq; omega)
      have yx30 := congrArg Int32.toInt eg15_0
      have yx31 := congrArg Int32.toInt eg15_1
      have yx32 := congrArg Int32.toInt eg15_2
      refine sf_oI (s_X7_friendsBehind g15 I_g15 v1 (by omega)) (fun r16 g17 pg17 => ?_)
      obtain ⟨I_g17, ex33, ex34, ex35, qg17⟩ := pg17
      try simp only at I_g17 ex33 ex34 ex35 qg17
      have yx36 := congrArg Int32.toInt ex33
      have yx37 := congrArg Int32.toInt ex34
      have yx38 := congrArg Int32.toInt ex35
      refine sf_ite (fun c18 => ?_) (fun c19 => ?_)
      · skip
        try have tx39 : (v5 + 1).toInt = v5.toInt + 1 := i_add rfl (by decide) (by omega) (by omega)
        exact sl_X7_split_37  v1  h0 I_h0 r_v1 k Q hk n v5 r16 (v5 + 1) g17 I_g17 (ex33.trans (eg15_0.trans e0)) (ex34.trans (eg15_1.trans e1)) (ex35.trans (eg15_2.trans e2)) (by first | trivial | omega) (by omega)
      · skip
        try have tx40 : (v5 + 1).toInt = v5.toInt + 1 := i_add rfl (by decide) (by omega) (by omega)
        exact sl_X7_split_37  v1  h0 I_h0 r_v1 k Q hk n v3 v4 (v5 + 1) g17 I_g17 (ex33.trans (eg15_0.trans e0)) (ex34.trans (eg15_1.trans e1)) (ex35.trans (eg15_2.trans e2)) (by first | trivial | omega) (by omega)
    · skip
      exact hk v3 v4 h I_h e0 e1 e2 (by first | trivial | omega)
theorem s_X7_split (h : dH) (I_h : InvM h) (v1 : Int32) (v2 : Int32)  : Sf (f_X7_split v1 v2 h) (fun o => InvM o.2 ∧ o.2 0 3 = h 0 3 ∧ o.2 0 4 = h 0 4 ∧ o.2 0 13 = h 0 13 ∧ True) := by
  unfold f_X7_split
  have u_v1 := Int32.toInt_lt v1
  have w_v1 := Int32.le_toInt v1
  have u_v2 := Int32.toInt_lt v2
  have w_v2 := Int32.le_toInt v2
  have tx1 : v1.toInt64.toInt = v1.toInt := l_i2l
  have tx2 : (0 : Int64).toInt = 0 := by decide
  have tx3 : (2 : Int64).toInt = 2 := by decide
  refine sf_oP (s_X7_in h I_h (v1.toInt64) 0 2) (fun r1 pr1 => ?_)
  refine sf_ite (fun c2 => ?_) (fun c3 => ?_)
  · skip
    exact sf_some (⟨I_h, rfl, rfl, rfl, trivial⟩)
  · skip
    have tx4 : v2.toInt64.toInt = v2.toInt := l_i2l
    have tx5 : (1 : Int64).toInt = 1 := by decide
    refine sf_oP (s_X7_in h I_h (v2.toInt64) 0 1) (fun r4 pr4 => ?_)
    refine sf_ite (fun c5 => ?_) (fun c6 => ?_)
    · skip
      exact sf_some (⟨I_h, rfl, rfl, rfl, trivial⟩)
    · skip
      refine sf_oV (s_X7_clears h I_h ) (fun g7 pg7 => ?_)
      obtain ⟨I_g7, ex6, ex7, ex8, qg7⟩ := pg7
      try simp only at I_g7 ex6 ex7 ex8 qg7
      have yx9 := congrArg Int32.toInt ex6
      have yx10 := congrArg Int32.toInt ex7
      have yx11 := congrArg Int32.toInt ex8
      have tx41 : (0 : Int32).toInt = 0 := by decide
      have tx42 : ((-1) : Int32).toInt = (-1) := by decide
      refine sl_X7_split_37 v1  g7 I_g7 (by omega) _ _ (fun v3_20 v4_21 g24 I_g24 eg24_0 eg24_1 eg24_2 px43 => ?_)  fuel0 (0 : Int32) ((-1) : Int32) (0 : Int32) g7 I_g7 rfl rfl rfl (by first | trivial | omega) (by have := fuel0_eq; omega)
      have yx44 := congrArg Int32.toInt eg24_0
      have yx45 := congrArg Int32.toInt eg24_1
      have yx46 := congrArg Int32.toInt eg24_2
      refine sf_oV (s_X7_sitsAgain g24 I_g24 ) (fun g25 pg25 => ?_)
      obtain ⟨I_g25, ex47, ex48, ex49, qg25⟩ := pg25
      try simp only at I_g25 ex47 ex48 ex49 qg25
      have yx50 := congrArg Int32.toInt ex47
      have yx51 := congrArg Int32.toInt ex48
      have yx52 := congrArg Int32.toInt ex49
      refine sf_ite (fun c26 => ?_) (fun c27 => ?_)
      · skip
        exact sf_some (⟨I_g25, (ex47.trans (eg24_0.trans ex6)), (ex48.trans (eg24_1.trans ex7)), (ex49.trans (eg24_2.trans ex8)), trivial⟩)
      · skip
        exact sf_some (⟨I_g25, (ex47.trans (eg24_0.trans ex6)), (ex48.trans (eg24_1.trans ex7)), (ex49.trans (eg24_2.trans ex8)), trivial⟩)
theorem sl_X7_missed_20   (h0 : dH) (I_h0 : InvM h0)  (k : Int32 → Int32 → dH → Option (Int32 × dH)) (Q : Int32 × dH → Prop) (hk : ∀ (v2 : Int32) (v3 : Int32) (g : dH) (Ig : InvM g) (e0 : g 0 3 = h0 0 3) (e1 : g 0 4 = h0 0 4) (e2 : g 0 13 = h0 0 13), True → Sf (k v2 v3 g) Q)  : ∀ (n : Nat) (v2 : Int32) (v3 : Int32) (v4 : Int32) (h : dH) (I_h : InvM h) (e0 : h 0 3 = h0 0 3) (e1 : h 0 4 = h0 0 4) (e2 : h 0 13 = h0 0 13), 0 ≤ v4.toInt ∧ v4.toInt ≤ 8 → 8 - v4.toInt < (n : Int) → Sf (l_X7_missed_20  k n v2 v3 v4 h) Q
  | 0, v2, v3, v4, h, I_h, e0, e1, e2, hi, hm => by omega
  | n + 1, v2, v3, v4, h, I_h, e0, e1, e2, hi, hm => by
    rw [l_X7_missed_20]
    have yx4 := congrArg Int32.toInt e0
    have yx5 := congrArg Int32.toInt e1
    have yx6 := congrArg Int32.toInt e2
    have bx7 := I_h.1 0 13 (0) (8) rfl
    refine sf_ite (fun c4 => ?_) (fun c5 => ?_)
    · skip
      refine sf_oH (fun g6 hg6 => ?_)
      have I_g6 : InvM g6 := by rw [hg6]; exact invM_free I_h rfl (by omega) (by omega)
      have ex8 : g6 0 3 = h 0 3 := by rw [hg6]; exact dU_ne (by omega)
      have yx9 := congrArg Int32.toInt ex8
      have ex10 : g6 0 4 = h 0 4 := by rw [hg6]; exact dU_ne (by omega)
      have yx11 := congrArg Int32.toInt ex10
      have ex12 : g6 0 13 = h 0 13 := by rw [hg6]; exact dU_ne (by omega)
      have yx13 := congrArg Int32.toInt ex12
      have yx14 : (g6 0 31).toInt = v4.toInt := by rw [hg6, dU_eq]
      refine sf_oV (s_X7_waysAll g6 I_g6 ) (fun g7 pg7 => ?_)
      obtain ⟨I_g7, ex15, ex16, ex17, qg7⟩ := pg7
      try simp only at I_g7 ex15 ex16 ex17 qg7
      have yx18 := congrArg Int32.toInt ex15
      have yx19 := congrArg Int32.toInt ex16
      have yx20 := congrArg Int32.toInt ex17
      refine sf_oP (s_X7_companies g7 I_g7 ) (fun r8 pr8 => ?_)
      refine sf_oH (fun g9 hg9 => ?_)
      have I_g9 : InvM g9 := by rw [hg9]; exact invM_free I_g7 rfl (by omega) (by omega)
      have ex21 : g9 0 3 = g7 0 3 := by rw [hg9]; exact dU_ne (by omega)
      have yx22 := congrArg Int32.toInt ex21
      have ex23 : g9 0 4 = g7 0 4 := by rw [hg9]; exact dU_ne (by omega)
      have yx24 := congrArg Int32.toInt ex23
      have ex25 : g9 0 13 = g7 0 13 := by rw [hg9]; exact dU_ne (by omega)
      have yx26 := congrArg Int32.toInt ex25
      have yx27 : (g9 0 31).toInt = (-1) := by rw [hg9, dU_eq]; decide
      refine sf_ite (fun c10 => ?_) (fun c11 => ?_)
      · skip
        try have tx28 : (v4 + 1).toInt = v4.toInt + 1 := i_add rfl (by decide) (by omega) (by omega)
        exact sl_X7_missed_20    h0 I_h0  k Q hk n v4 r8 (v4 + 1) g9 I_g9 (ex21.trans (ex15.trans (ex8.trans e0))) (ex23.trans (ex16.trans (ex10.trans e1))) (ex25.trans (ex17.trans (ex12.trans e2))) (by first | trivial | omega) (by omega)
      · skip
        try have tx29 : (v4 + 1).toInt = v4.toInt + 1 := i_add rfl (by decide) (by omega) (by omega)
        exact sl_X7_missed_20    h0 I_h0  k Q hk n v2 v3 (v4 + 1) g9 I_g9 (ex21.trans (ex15.trans (ex8.trans e0))) (ex23.trans (ex16.trans (ex10.trans e1))) (ex25.trans (ex17.trans (ex12.trans e2))) (by first | trivial | omega) (by omega)
    · skip
      exact hk v2 v3 h I_h e0 e1 e2 (by first | trivial | omega)
theorem s_X7_missed (h : dH) (I_h : InvM h) (v1 : Int32)  : Sf (f_X7_missed v1 h) (fun o => InvM o.2 ∧ o.2 0 3 = h 0 3 ∧ o.2 0 4 = h 0 4 ∧ o.2 0 13 = h 0 13 ∧ True) := by
  unfold f_X7_missed
  have u_v1 := Int32.toInt_lt v1
  have w_v1 := Int32.le_toInt v1
  have tx1 : v1.toInt64.toInt = v1.toInt := l_i2l
  have tx2 : (0 : Int64).toInt = 0 := by decide
  have tx3 : (1 : Int64).toInt = 1 := by decide
  refine sf_oP (s_X7_in h I_h (v1.toInt64) 0 1) (fun r1 pr1 => ?_)
  refine sf_ite (fun c2 => ?_) (fun c3 => ?_)
  · skip
    exact sf_some (⟨I_h, rfl, rfl, rfl, trivial⟩)
  · skip
    have tx30 : ((-1) : Int32).toInt = (-1) := by decide
    have tx31 : (0 : Int32).toInt = 0 := by decide
    refine sl_X7_missed_20   h I_h  _ _ (fun v2_12 v3_13 g16 I_g16 eg16_0 eg16_1 eg16_2 px32 => ?_)  fuel0 ((-1) : Int32) ((-1) : Int32) (0 : Int32) h I_h rfl rfl rfl (by first | trivial | omega) (by have := fuel0_eq; omega)
    have yx33 := congrArg Int32.toInt eg16_0
    have yx34 := congrArg Int32.toInt eg16_1
    have yx35 := congrArg Int32.toInt eg16_2
    refine sf_ite (fun c17 => ?_) (fun c18 => ?_)
    · skip
      exact sf_some (⟨I_g16, eg16_0, eg16_1, eg16_2, trivial⟩)
    · skip
      exact sf_some (⟨I_g16, eg16_0, eg16_1, eg16_2, trivial⟩)
theorem sl_X7_match_44 (v4 : Int32)  (h0 : dH) (I_h0 : InvM h0) (r_v4 : 0 ≤ v4.toInt ∧ v4.toInt ≤ 7) (k : Int32 → Int32 → dH → Option (Int32 × dH)) (Q : Int32 × dH → Prop) (hk : ∀ (v2 : Int32) (v3 : Int32) (g : dH) (Ig : InvM g) (e0 : g 0 3 = h0 0 3) (e1 : g 0 4 = h0 0 4) (e2 : g 0 13 = h0 0 13), True → Sf (k v2 v3 g) Q)  : ∀ (n : Nat) (v2 : Int32) (v3 : Int32) (v5 : Int32) (h : dH) (I_h : InvM h) (e0 : h 0 3 = h0 0 3) (e1 : h 0 4 = h0 0 4) (e2 : h 0 13 = h0 0 13), 0 ≤ v5.toInt ∧ v5.toInt ≤ 8 → 8 - v5.toInt < (n : Int) → Sf (l_X7_match_44 v4 k n v2 v3 v5 h) Q
  | 0, v2, v3, v5, h, I_h, e0, e1, e2, hi, hm => by omega
  | n + 1, v2, v3, v5, h, I_h, e0, e1, e2, hi, hm => by
    rw [l_X7_match_44]
    have yx15 := congrArg Int32.toInt e0
    have yx16 := congrArg Int32.toInt e1
    have yx17 := congrArg Int32.toInt e2
    have bx18 := I_h.1 0 13 (0) (8) rfl
    refine sf_ite (fun c8 => ?_) (fun c9 => ?_)
    · skip
      refine sf_oP (s_X7_knows h I_h v4 v5 (by omega) (by omega)) (fun r10 pr10 => ?_)
      refine sf_ite (fun c11 => ?_) (fun c12 => ?_)
      · skip
        refine sf_oH (fun g13 hg13 => ?_)
        have I_g13 : InvM g13 := by rw [hg13]; exact invM_free I_h rfl (by omega) (by omega)
        have ex19 : g13 0 3 = h 0 3 := by rw [hg13]; exact dU_ne (by omega)
        have yx20 := congrArg Int32.toInt ex19
        have ex21 : g13 0 4 = h 0 4 := by rw [hg13]; exact dU_ne (by omega)
        have yx22 := congrArg Int32.toInt ex21
        have ex23 : g13 0 13 = h 0 13 := by rw [hg13]; exact dU_ne (by omega)
        have yx24 := congrArg Int32.toInt ex23
        have yx25 : (g13 0 29).toInt = v4.toInt := by rw [hg13, dU_eq]
        refine sf_oH (fun g14 hg14 => ?_)
        have I_g14 : InvM g14 := by rw [hg14]; exact invM_free I_g13 rfl (by omega) (by omega)
        have ex26 : g14 0 3 = g13 0 3 := by rw [hg14]; exact dU_ne (by omega)
        have yx27 := congrArg Int32.toInt ex26
        have ex28 : g14 0 4 = g13 0 4 := by rw [hg14]; exact dU_ne (by omega)
        have yx29 := congrArg Int32.toInt ex28
        have ex30 : g14 0 13 = g13 0 13 := by rw [hg14]; exact dU_ne (by omega)
        have yx31 := congrArg Int32.toInt ex30
        have yx32 : (g14 0 30).toInt = v5.toInt := by rw [hg14, dU_eq]
        refine sf_oV (s_X7_waysAll g14 I_g14 ) (fun g15 pg15 => ?_)
        obtain ⟨I_g15, ex33, ex34, ex35, qg15⟩ := pg15
        try simp only at I_g15 ex33 ex34 ex35 qg15
        have yx36 := congrArg Int32.toInt ex33
        have yx37 := congrArg Int32.toInt ex34
        have yx38 := congrArg Int32.toInt ex35
        refine sf_oH (fun g16 hg16 => ?_)
        have I_g16 : InvM g16 := by rw [hg16]; exact invM_free I_g15 rfl (by omega) (by omega)
        have ex39 : g16 0 3 = g15 0 3 := by rw [hg16]; exact dU_ne (by omega)
        have yx40 := congrArg Int32.toInt ex39
        have ex41 : g16 0 4 = g15 0 4 := by rw [hg16]; exact dU_ne (by omega)
        have yx42 := congrArg Int32.toInt ex41
        have ex43 : g16 0 13 = g15 0 13 := by rw [hg16]; exact dU_ne (by omega)
        have yx44 := congrArg Int32.toInt ex43
        have yx45 : (g16 0 29).toInt = (-1) := by rw [hg16, dU_eq]; decide
        refine sf_oH (fun g17 hg17 => ?_)
        have I_g17 : InvM g17 := by rw [hg17]; exact invM_free I_g16 rfl (by omega) (by omega)
        have ex46 : g17 0 3 = g16 0 3 := by rw [hg17]; exact dU_ne (by omega)
        have yx47 := congrArg Int32.toInt ex46
        have ex48 : g17 0 4 = g16 0 4 := by rw [hg17]; exact dU_ne (by omega)
        have yx49 := congrArg Int32.toInt ex48
        have ex50 : g17 0 13 = g16 0 13 := by rw [hg17]; exact dU_ne (by omega)
        have yx51 := congrArg Int32.toInt ex50
        have yx52 : (g17 0 30).toInt = (-1) := by rw [hg17, dU_eq]; decide
        have tx53 : (9 : Int32).toInt = 9 := by decide
        refine sf_oP (s_X7_longest g17 I_g17 (9 : Int32)) (fun r18 pr18 => ?_)
        refine sf_ite (fun c19 => ?_) (fun c20 => ?_)
        · skip
          try have tx54 : (10 * v4).toInt = 10 * v4.toInt := i_mul (by decide) rfl (by omega) (by omega)
          try have tx55 : ((10 * v4) + v5).toInt = (10 * v4).toInt + v5.toInt := i_add rfl rfl (by omega) (by omega)
          try have tx56 : (v5 + 1).toInt = v5.toInt + 1 := i_add rfl (by decide) (by omega) (by omega)
          exact sl_X7_match_44  v4  h0 I_h0 r_v4 k Q hk n ((10 * v4) + v5) r18 (v5 + 1) g17 I_g17 (ex46.trans (ex39.trans (ex33.trans (ex26.trans (ex19.trans e0))))) (ex48.trans (ex41.trans (ex34.trans (ex28.trans (ex21.trans e1))))) (ex50.trans (ex43.trans (ex35.trans (ex30.trans (ex23.trans e2))))) (by first | trivial | omega) (by omega)
        · skip
          try have tx57 : (v5 + 1).toInt = v5.toInt + 1 := i_add rfl (by decide) (by omega) (by omega)
          exact sl_X7_match_44  v4  h0 I_h0 r_v4 k Q hk n v2 v3 (v5 + 1) g17 I_g17 (ex46.trans (ex39.trans (ex33.trans (ex26.trans (ex19.trans e0))))) (ex48.trans (ex41.trans (ex34.trans (ex28.trans (ex21.trans e1))))) (ex50.trans (ex43.trans (ex35.trans (ex30.trans (ex23.trans e2))))) (by first | trivial | omega) (by omega)
      · skip
        try have tx58 : (v5 + 1).toInt = v5.toInt + 1 := i_add rfl (by decide) (by omega) (by omega)
        exact sl_X7_match_44  v4  h0 I_h0 r_v4 k Q hk n v2 v3 (v5 + 1) h I_h e0 e1 e2 (by first | trivial | omega) (by omega)
    · skip
      exact hk v2 v3 h I_h e0 e1 e2 (by first | trivial | omega)
theorem sl_X7_match_29   (h0 : dH) (I_h0 : InvM h0)  (k : Int32 → Int32 → dH → Option (Int32 × dH)) (Q : Int32 × dH → Prop) (hk : ∀ (v2 : Int32) (v3 : Int32) (g : dH) (Ig : InvM g) (e0 : g 0 3 = h0 0 3) (e1 : g 0 4 = h0 0 4) (e2 : g 0 13 = h0 0 13), True → Sf (k v2 v3 g) Q)  : ∀ (n : Nat) (v2 : Int32) (v3 : Int32) (v4 : Int32) (h : dH) (I_h : InvM h) (e0 : h 0 3 = h0 0 3) (e1 : h 0 4 = h0 0 4) (e2 : h 0 13 = h0 0 13), 0 ≤ v4.toInt ∧ v4.toInt ≤ 8 → 8 - v4.toInt < (n : Int) → Sf (l_X7_match_29  k n v2 v3 v4 h) Q
  | 0, v2, v3, v4, h, I_h, e0, e1, e2, hi, hm => by omega
  | n + 1, v2, v3, v4, h, I_h, e0, e1, e2, hi, hm => by
    rw [l_X7_match_29]
    have yx11 := congrArg Int32.toInt e0
    have yx12 := congrArg Int32.toInt e1
    have yx13 := congrArg Int32.toInt e2
    have bx14 := I_h.1 0 13 (0) (8) rfl
    refine sf_ite (fun c6 => ?_) (fun c7 => ?_)
    · skip
      try have tx59 : (v4 + 1).toInt = v4.toInt + 1 := i_add rfl (by decide) (by omega) (by omega)
      refine sl_X7_match_44 v4  h I_h (by omega) _ _ (fun v2_21 v3_22 g25 I_g25 eg25_0 eg25_1 eg25_2 px60 => ?_)  fuel0 v2 v3 (v4 + 1) h I_h rfl rfl rfl (by first | trivial | omega) (by have := fuel0_eq; omega)
      have yx61 := congrArg Int32.toInt eg25_0
      have yx62 := congrArg Int32.toInt eg25_1
      have yx63 := congrArg Int32.toInt eg25_2
      exact sl_X7_match_29    h0 I_h0  k Q hk n v2_21 v3_22 (v4 + 1) g25 I_g25 (eg25_0.trans e0) (eg25_1.trans e1) (eg25_2.trans e2) (by first | trivial | omega) (by omega)
    · skip
      exact hk v2 v3 h I_h e0 e1 e2 (by first | trivial | omega)
theorem s_X7_match (h : dH) (I_h : InvM h) (v1 : Int32)  : Sf (f_X7_match v1 h) (fun o => InvM o.2 ∧ o.2 0 3 = h 0 3 ∧ o.2 0 4 = h 0 4 ∧ o.2 0 13 = h 0 13 ∧ True) := by
  unfold f_X7_match
  have u_v1 := Int32.toInt_lt v1
  have w_v1 := Int32.le_toInt v1
  have tx1 : v1.toInt64.toInt = v1.toInt := l_i2l
  have tx2 : (0 : Int64).toInt = 0 := by decide
  have tx3 : (1 : Int64).toInt = 1 := by decide
  refine sf_oP (s_X7_in h I_h (v1.toInt64) 0 1) (fun r1 pr1 => ?_)
  refine sf_ite (fun c2 => ?_) (fun c3 => ?_)
  · skip
    exact sf_some (⟨I_h, rfl, rfl, rfl, trivial⟩)
  · skip
    refine sf_oV (s_X7_waysAll h I_h ) (fun g4 pg4 => ?_)
    obtain ⟨I_g4, ex4, ex5, ex6, qg4⟩ := pg4
    try simp only at I_g4 ex4 ex5 ex6 qg4
    have yx7 := congrArg Int32.toInt ex4
    have yx8 := congrArg Int32.toInt ex5
    have yx9 := congrArg Int32.toInt ex6
    have tx10 : (9 : Int32).toInt = 9 := by decide
    refine sf_oP (s_X7_longest g4 I_g4 (9 : Int32)) (fun r5 pr5 => ?_)
    have tx64 : ((-1) : Int32).toInt = (-1) := by decide
    have tx65 : (0 : Int32).toInt = 0 := by decide
    refine sl_X7_match_29   g4 I_g4  _ _ (fun v2_26 v3_27 g31 I_g31 eg31_0 eg31_1 eg31_2 px66 => ?_)  fuel0 ((-1) : Int32) r5 (0 : Int32) g4 I_g4 rfl rfl rfl (by first | trivial | omega) (by have := fuel0_eq; omega)
    have yx67 := congrArg Int32.toInt eg31_0
    have yx68 := congrArg Int32.toInt eg31_1
    have yx69 := congrArg Int32.toInt eg31_2
    refine sf_ite (fun c32 => ?_) (fun c33 => ?_)
    · skip
      exact sf_some (⟨I_g31, (eg31_0.trans ex4), (eg31_1.trans ex5), (eg31_2.trans ex6), trivial⟩)
    · skip
      exact sf_some (⟨I_g31, (eg31_0.trans ex4), (eg31_1.trans ex5), (eg31_2.trans ex6), trivial⟩)
theorem sl_X7_unlike_13 (v1 : Int32) (v2 : Int32)  (h : dH) (I_h : InvM h) (r_v1 : 0 ≤ v1.toInt ∧ v1.toInt ≤ 3) (r_v2 : 0 ≤ v2.toInt ∧ v2.toInt ≤ 7) (k : Int32 → Option (Int32 × dH)) (Q : Int32 × dH → Prop) (hk : ∀ (v3 : Int32), True → Sf (k v3) Q)  : ∀ (n : Nat) (v3 : Int32) (v4 : Int32), 0 ≤ v4.toInt ∧ v4.toInt ≤ 8 → 8 - v4.toInt < (n : Int) → Sf (l_X7_unlike_13 v1 v2 h k n v3 v4) Q
  | 0, v3, v4, hi, hm => by omega
  | n + 1, v3, v4, hi, hm => by
    rw [l_X7_unlike_13]
    have bx13 := I_h.1 0 13 (0) (8) rfl
    refine sf_ite (fun c3 => ?_) (fun c4 => ?_)
    · skip
      refine sf_oP (s_X7_strengthOf h I_h v2 v4 (by omega) (by omega)) (fun r5 pr5 => ?_)
      try have tx14 : (40 * v1).toInt = 40 * v1.toInt := i_mul (by decide) rfl (by omega) (by omega)
      try have tx15 : ((40 * v1) + v4).toInt = (40 * v1).toInt + v4.toInt := i_add rfl rfl (by omega) (by omega)
      refine sf_guard (by omega) (fun c6 => ?_)
      refine sf_ite (fun c7 => ?_) (fun c8 => ?_)
      · skip
        try have tx16 : (v4 + 1).toInt = v4.toInt + 1 := i_add rfl (by decide) (by omega) (by omega)
        exact sl_X7_unlike_13  v1 v2  h I_h r_v1 r_v2 k Q hk n (v3 ||| (dshl 0 v4)) (v4 + 1) (by first | trivial | omega) (by omega)
      · skip
        try have tx17 := dshl1_ok (y := v4) (by omega) (by omega)
        try have tx18 : (v4 + 1).toInt = v4.toInt + 1 := i_add rfl (by decide) (by omega) (by omega)
        exact sl_X7_unlike_13  v1 v2  h I_h r_v1 r_v2 k Q hk n (v3 ||| (dshl 1 v4)) (v4 + 1) (by first | trivial | omega) (by omega)
    · skip
      exact hk v3 (by first | trivial | omega)
theorem s_X7_unlike (h : dH) (I_h : InvM h) (v1 : Int32) (v2 : Int32) (q0 : 0 ≤ v1.toInt ∧ v1.toInt ≤ 3) (q1 : 0 ≤ v2.toInt ∧ v2.toInt ≤ 7) : Sf (f_X7_unlike v1 v2 h) (fun o => InvM o.2 ∧ o.2 0 3 = h 0 3 ∧ o.2 0 4 = h 0 4 ∧ o.2 0 13 = h 0 13 ∧ True) := by
  unfold f_X7_unlike
  have u_v1 := Int32.toInt_lt v1
  have w_v1 := Int32.le_toInt v1
  have u_v2 := Int32.toInt_lt v2
  have w_v2 := Int32.le_toInt v2
  refine sf_oV (s_X7_laysAside h I_h ) (fun g1 pg1 => ?_)
  obtain ⟨I_g1, ex1, ex2, ex3, qg1⟩ := pg1
  try simp only at I_g1 ex1 ex2 ex3 qg1
  have yx4 := congrArg Int32.toInt ex1
  have yx5 := congrArg Int32.toInt ex2
  have yx6 := congrArg Int32.toInt ex3
  refine sf_oV (s_X7_feasts g1 I_g1 ) (fun g2 pg2 => ?_)
  obtain ⟨I_g2, ex7, ex8, ex9, qg2⟩ := pg2
  try simp only at I_g2 ex7 ex8 ex9 qg2
  have yx10 := congrArg Int32.toInt ex7
  have yx11 := congrArg Int32.toInt ex8
  have yx12 := congrArg Int32.toInt ex9
  have tx19 : (0 : Int32).toInt = 0 := by decide
  refine sl_X7_unlike_13 v1 v2  g2 I_g2 (by omega) (by omega) _ _ (fun v3_9 px20 => ?_)  fuel0 (0 : Int32) (0 : Int32)  (by first | trivial | omega) (by have := fuel0_eq; omega)
  refine sf_oV (s_X7_laysBack g2 I_g2 ) (fun g11 pg11 => ?_)
  obtain ⟨I_g11, ex21, ex22, ex23, qg11⟩ := pg11
  try simp only at I_g11 ex21 ex22 ex23 qg11
  have yx24 := congrArg Int32.toInt ex21
  have yx25 := congrArg Int32.toInt ex22
  have yx26 := congrArg Int32.toInt ex23
  exact sf_some (⟨I_g11, (ex21.trans (ex7.trans ex1)), (ex22.trans (ex8.trans ex2)), (ex23.trans (ex9.trans ex3)), trivial⟩)
end
